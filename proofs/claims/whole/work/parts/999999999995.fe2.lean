/-! ===== the face: check, both at once ===== -/
section CPFH
variable {K K1 K2 K' : cp_K} {S S1 S2 S' : cp_S} {Ls : List Nat} {rf P : Nat}
theorem GRW.le {c c' : Nat} (h : GRW c K K') (hc : c ≤ c') : GRW c' K K' := ⟨h.1, by have := h.2; omega⟩
theorem INV.dct {c : Nat} (h : INV K S Ls rf P) (fk : FK c K K') (fs : FS rf P S S') (h16 : S'.1 16 = nI rf) : DCT K' S' Ls rf P := by
  obtain ⟨-, -, cc, -, ⟨-, -, -, -, e6⟩⟩ := h
  refine cc.fr fk.kfx (fun x => by rw [fk.2.1 4 (by omega) (by decide) (by decide)]) ?_ ?_ (fun p p1 p2 => fs.2.1 p p1 p2) fs.2.2.1 fs.2.2.2.1 ⟨h16.trans cc.2.2.1.1.symm, fs.1 23 (by omega), fs.1 14 (by omega)⟩
  · rw [fk.1 3 (by omega) (by decide) (by decide) (by decide) (by decide) (by decide) (by decide) (by decide)]
  · exact fk.1 5 (by omega) (by decide) (by decide) (by decide) (by decide) (by decide) (by decide) (by decide)
/-- arities, and what the dictionary is for them -/
theorem INV.dic {c x : Nat} (h : INV K S Ls rf P) : ∃ ar : Nat → Nat, (∀ K' S', FK c K K' → FS rf P S S' → DIC K' S'.2 ar ∧ DCN K' S'.2 ar) ∧ AOK S.2 ar ∧ (∀ c, c < 26 → ¬ S.2 30 c = 1 → ar c = 7) ∧ ar 26 = x := by
  obtain ⟨ar, a1, a2, a3⟩ := h.2.2.1.1.aok (x := x) (fun c hc hm => (h.2.2.1.2.1 c hc hm).1)
  refine ⟨ar, fun K' S' fk fs => ?_, a1, a2, a3⟩
  have d := h.dct (S' := (va_up S'.1 16 (nI rf), S'.2)) fk (fs.trans (FS.up (by decide))) (show va_up S'.1 16 (nI rf) 16 = nI rf from va_up_at)
  exact d.1.dic d.2.1 (fun c hc e => by
    have e30 : S'.2 30 = S.2 30 := fs.2.1 30 (by omega) (by omega)
    have e31 : S'.2 31 = S.2 31 := fs.2.1 31 (by omega) (by omega)
    have e' : S'.2 30 c = 1 := e
    rw [e30] at e'
    show S'.2 31 c = nI (ar c) ∧ ar c ≤ 6
    rw [e31]
    exact a1 c hc e')
theorem f_check (h : INV K S Ls rf P) : ∃ r K' S', KC 372 m_P_check (fun G => [.ref (cp_b G + 0)]) K (fun _ => some (.int r)) K' ∧ MC 8 m_M_check [] S (some (.int r)) S' ∧ INV K' S' Ls rf P ∧ S'.1 0 = 0 ∧ GRW 200 K K' := by
  have h26 := h.rf26
  have h16 : S.1 16 = nI rf := h.2.2.1.2.2.1.1
  have h58 : S.1 58 = 0 := h.2.2.2.2.2.1.2
  obtain ⟨K1, K2, S1, tx, n, o1, hK2, hS1, fk2, fs1, rin, ⟨k1, k3, k2, k11, k23⟩, ⟨z7, zB, z9, z11⟩, h86⟩ := chk_start h
  have hn80 : n ≤ 80 := rin.2.1.2.2.1
  have s1 : ∀ k, k ≠ 0 → k ≠ 60 → k ≠ 79 → S1.1 k = S.1 k := fun k q1 q2 q3 => by
    rw [hS1]
    show va_up (va_up (va_up S.1 0 0) 60 0) 79 0 k = _
    rw [cp_up_ne q3, cp_up_ne q2, cp_up_ne q1]
  have s1' : S1.1 0 = 0 ∧ S1.1 60 = 0 ∧ S1.1 79 = 0 := by rw [hS1]; exact ⟨rfl, rfl, rfl⟩
  have s2 : S1.2 = S.2 := by rw [hS1]
  have rd : ∀ (K3 : cp_K) (S3 : cp_S), KRX K2.1.1 K2.1.1 K2 K3 → RDF S1 S3 rf P → K3.1.1 ≤ K2.1.1 + 80 → ∀ (K' : cp_K) (S' : cp_S) (c : Nat), FK c K3 K' → FS rf P S3 S' → c ≤ 120 → K'.2.1 0 1 = 0 → S'.1 1 = 0 → S'.1 16 = nI rf → PGE K' S' → RSV K' S' → K'.2.1 23 4 = S'.1 60 → S'.1 58 = 0 → (rsz K' 7 ≤ 1048576 ∧ rsz K' 9 < 16000 ∧ rsz K' 11 < 16000 ∧ ∃ n, n ≤ 10000 ∧ BS K' n) → INV K' S' Ls rf P ∧ GRW 200 K K' := fun K3 S3 a1 a2 a3 K' S' c fk fs hc q1 q2 q3 q4 q5 q6 q7 q8 => by
    have := INV.fr (c := 0 + 80 + c) h ((fk2.trans (FK.krx a1 a3)).trans fk) ((fs1.trans (FS.rdf (by omega) a2)).trans fs) q1 q2 q3 q4 q5 q6 q7 q8
    exact ⟨this.1, this.2.le (by omega)⟩
  -- what both have after reading
  have rk : ∀ (K3 : cp_K), KRX K2.1.1 K2.1.1 K2 K3 → (K3.2.1 0 1 = 0 ∧ K3.2.1 0 3 = K.2.1 0 3 ∧ K3.2.1 2 = K.2.1 2 ∧ K3.2.2.1 0 11 = 0 ∧ K3.2.1 23 4 = 0) ∧ (∀ q, rsz K3 q = rsz K2 q) ∧ K3.2.2.2 = K2.2.2.2 ∧ 86 ≤ K3.1.1 := fun K3 a1 => by
    have j := FJ.krx a1 h86
    obtain ⟨b1, b2, b3, b4, b5, b6, b7⟩ := a1
    exact ⟨⟨(b4 0 (by omega) (by decide) 1 (Or.inl (by omega))).trans k1, j.1.1.trans k3, j.2.1.trans k2, j.2.2.trans k11, (b4 23 (by omega) (by decide) 4 (Or.inl (by omega))).trans k23⟩, fun q => by unfold rsz; rw [b7], b7, by omega⟩
  have rs : ∀ (S3 : cp_S), RDF S1 S3 rf P → (S3.1 0 = 0 ∧ S3.1 1 = 0 ∧ S3.1 3 = S.1 3 ∧ S3.2 28 = S.2 28 ∧ S3.1 58 = 0 ∧ S3.1 60 = 0 ∧ S3.1 79 = 0) ∧ S3.1 20 = nI rf := fun S3 a => ⟨⟨(a.1 0 (by decide)).trans s1'.1, a.2.2.2.1.1, (a.1 3 (by decide)).trans (s1 3 (by decide) (by decide) (by decide)), by rw [a.2.1 28 (by decide) (by decide), s2], (a.1 58 (by decide)).trans ((s1 58 (by decide) (by decide) (by decide)).trans h58), (a.1 60 (by decide)).trans s1'.2.1, (a.1 79 (by decide)).trans s1'.2.2⟩, a.2.2.2.1.2⟩
  have nn : ∀ (S3 : cp_S), ∃ T5 T7, MC 0 m_M_nothing [] S3 none T5 ∧ MC 0 m_M_noNames [] T5 none T7 ∧ (∀ k, k ≠ 35 → k ≠ 40 → k ≠ 42 → T7.1 k = S3.1 k) ∧ (T7.1 35 = 0 ∧ T7.1 40 = 0 ∧ T7.1 42 = 0) ∧ (∀ p, p ≠ 63 → p ≠ 64 → T7.2 p = S3.2 p) ∧ ∀ x, x < 26 → T7.2 63 x = -1 ∧ T7.2 64 x = -1 := fun S3 => by
    obtain ⟨T7, m1, m2, m3, m4⟩ := MC_noNames (S := (va_up (va_up (va_up S3.1 35 0) 40 0) 42 0, S3.2))
    refine ⟨_, T7, MC_nothing, m1, fun k q1 q2 q3 => ?_, ?_, m3, m4⟩
    · rw [m2]
      show va_up (va_up (va_up S3.1 35 0) 40 0) 42 0 k = _
      rw [cp_up_ne q3, cp_up_ne q2, cp_up_ne q1]
    · rw [m2]; exact ⟨rfl, rfl, rfl⟩
  have fsn : ∀ (S3 T7 : cp_S), (∀ k, k ≠ 35 → k ≠ 40 → k ≠ 42 → T7.1 k = S3.1 k) → (∀ p, p ≠ 63 → p ≠ 64 → T7.2 p = S3.2 p) → FS rf P S3 T7 := fun S3 T7 a b => FS.of (fun k hk => a k (by omega) (by omega) (by omega)) (fun p hp => b p (by omega) (by omega))
  rcases read_term_m (P := P) rin with ⟨K3, S3, p', r1, r2, r3, r4, r5, r6, r7⟩ | ⟨K3, S3, n1, r1, r2, r3, r4, r5, r6, r7, r8, r9, r10⟩
  · obtain ⟨⟨c1, c3, c2, c11, c23⟩, cz, cw, -⟩ := rk K3 r5
    obtain ⟨⟨d0, d1, d3, d28, d58, d60, d79⟩, d20⟩ := rs S3 r6
    obtain ⟨T5, T7, m1, m2, m3, m3', m4, m5⟩ := nn S3
    obtain ⟨S', hS'⟩ : ∃ S' : cp_S, S' = (va_up T7.1 16 (S.1 16), T7.2) := ⟨_, rfl⟩
    have s' : ∀ k, k ≠ 16 → k ≠ 35 → k ≠ 40 → k ≠ 42 → S'.1 k = S3.1 k := fun k q1 q2 q3 q4 => by rw [hS']; show va_up T7.1 16 (S.1 16) k = _; rw [cp_up_ne q1, m3 k q2 q3 q4]
    have s2' : S'.2 = T7.2 := by rw [hS']
    obtain ⟨i1, i2⟩ := rd K3 S3 r5 r6 r7 K3 S' 0 FK.refl ((fsn S3 T7 m3 m4).trans (by rw [hS']; exact FS.up (by decide))) (by omega) c1 ((s' 1 (by decide) (by decide) (by decide) (by decide)).trans d1) (by rw [hS']; show va_up T7.1 16 (S.1 16) 16 = _; rw [va_up_at]; exact h16) (h.2.1.fr c3 c2 ((s' 3 (by decide) (by decide) (by decide) (by decide)).trans d3) (by rw [s2', m4 28 (by decide) (by decide)]; exact d28)) (Or.inl ⟨c11, (s' 79 (by decide) (by decide) (by decide) (by decide)).trans d79⟩) (c23.trans ((s' 60 (by decide) (by decide) (by decide) (by decide)).trans d60).symm) ((s' 58 (by decide) (by decide) (by decide) (by decide)).trans d58) ⟨by rw [cz, z7]; omega, by rw [cz]; exact z9, by rw [cz]; exact z11, 0, by omega, by unfold BS; rw [cz, cz, cz]; exact zB⟩
    refine ⟨-1 - nI p', K3, S', c_P_check (D := 364) ⟨K1, o1.mono (by omega), 0, K3, by rw [← hK2]; exact r1.mono (by omega), fun q => absurd rfl q, fun _ => ⟨by rw [r2], rfl⟩⟩, c_M_check (b_M_check_0 ⟨nI p', S3, by rw [← hS1]; exact r4, T5, m1, T7, m2, fun q => absurd q (nI_pos (by omega)), fun _ => ⟨fun q => absurd rfl q, fun _ => ⟨fun q => absurd q (nI_pos (by omega)), fun _ => ⟨rfl, hS'⟩⟩⟩⟩), i1, (s' 0 (by decide) (by decide) (by decide) (by decide)).trans d0, i2⟩
  · obtain ⟨⟨c1, c3, c2, c11, c23⟩, cz, cw, c86⟩ := rk K3 r5
    obtain ⟨⟨d0, d1, d3, d28, d58, d60, d79⟩, d20⟩ := rs S3 r6
    obtain ⟨T5, T7, m1, m2, m3, m3', m4, m5⟩ := nn S3
    obtain ⟨⟨w1, w2⟩, -⟩ := r8
    obtain ⟨K4, hK4⟩ : ∃ K4, K4 = tbegin K3 0 := ⟨_, rfl⟩
    have fk34 : FK 0 K3 K4 := by rw [hK4]; exact tbg.1
    have i4 : ∀ p, p ≠ 24 → K4.2.1 p = K3.2.1 p := fun p hp => by rw [hK4]; exact tbg_i hp
    have w4 : K4.2.2 = K3.2.2 ∧ K4.1 = K3.1 := by rw [hK4]; exact ⟨rfl, rfl⟩
    have z4 : ∀ q, rsz K4 q = rsz K2 q := fun q => by rw [← cz]; unfold rsz; rw [w4.1]
    obtain ⟨ar, ar1, ar2, ar3, ar4⟩ := h.dic (c := 80) (x := 0)
    have dd := ar1 K4 T7 ((((fk2.trans (FK.krx r5 r10)).trans fk34)).le (by omega)) ((fs1.trans (FS.rdf (by omega) r6)).trans (fsn S3 T7 m3 m4))
    have tst : TST ar rf (plx K4 T7 rf n1) 0 0 K4 T7 (fun _ _ => False) 0 0 [] 0 0 L0 := by
      refine tst_0 (np := n) dd (by rw [z4]; exact z7) (by unfold BS; rw [z4, z4, z4]; exact zB) (by rw [z4]; exact z9) (by rw [z4]; exact z11) m3'.1 m3'.2.1 m3'.2.2 (fun c hc => (m5 c hc).2) ((m3 20 (by decide) (by decide) (by decide)).trans d20) (by rw [hK4]; exact tbg_4.2) ⟨fun _ => (m3 58 (by decide) (by decide) (by decide)).trans d58, fun _ => by rw [hK4]; exact tbg_4.1⟩ ?_ (by omega) (by omega) (by omega)
      unfold PLI
      rw [m4 42 (by decide) (by decide)]
      exact r9
    have nk : NK K3 K4 := ⟨fun q k hq => by rw [i4 q (by omega)], by rw [w4.1], fun q c hq => ⟨hq.1, by rw [w4.2]; exact hq.2.1, by rw [w4.2]; exact hq.2.2⟩⟩
    have tr : TR K4 T7.2 (plx K4 T7 rf n1) 8 K2.1.1 rf n1 := by
      refine TR.nk nk (m4 39 (by decide) (by decide)) (m4 40 (by decide) (by decide)) (m4 41 (by decide) (by decide)) _ _ _ _ (RTR.tr 8 _ _ _ _ r3 (fun q' i' e1 e2 e3 e4 => ⟨e1, e2, e3, ?_⟩))
      rw [i4 q' (by omega), m4 42 (by decide) (by decide)]
      exact e4
    obtain ⟨g1, g2, g3, g4, g5⟩ := GWT_tr _ _ _ _ tr
    have eI : gI T7.2 = gI S3.2 := by unfold gI; rw [m4 39 (by decide) (by decide), m4 41 (by decide) (by decide)]
    have hI : n = 0 + (n1 - rf) + 2 * (gI T7.2 n1 - gI T7.2 rf) := by rw [eI]; exact w2
    have base : ∀ (K' : cp_K) (S' : cp_S), KX K4 K' → SX 1 T7 S' → FK 0 K3 K' ∧ FS rf P S3 S' ∧ (K'.2.1 0 1 = 0 ∧ K'.2.1 0 3 = K.2.1 0 3 ∧ K'.2.1 2 = K.2.1 2 ∧ K'.2.2.1 0 11 = 0) ∧ (S'.1 0 = 0 ∧ S'.1 1 = 0 ∧ S'.1 3 = S.1 3 ∧ S'.2 28 = S.2 28 ∧ S'.1 58 = 0 ∧ S'.1 79 = 0) := fun K' S' kx sx => by
      have j := FJ.kx kx
      have t : ∀ k, k ∉ ([35, 40, 42, 44, 59, 60, 61, 62, 63, 64, 70] : List Nat) → S'.1 k = S3.1 k := fun k hk => (sx.1 k hk).trans (m3 k (fun e => hk (by rw [e]; decide)) (fun e => hk (by rw [e]; decide)) (fun e => hk (by rw [e]; decide)))
      refine ⟨fk34.trans (FK.kx kx), (fsn S3 T7 m3 m4).trans (FS.sx sx), ⟨?_, j.1.1.trans ?_, j.2.1.trans ?_, j.2.2.trans ?_⟩, ⟨(t 0 (by decide)).trans d0, (t 1 (by decide)).trans d1, (t 3 (by decide)).trans d3, ?_, (t 58 (by decide)).trans d58, (t 79 (by decide)).trans d79⟩⟩
      · rw [kx.i (by decide) (by decide), i4 0 (by decide)]; exact c1
      · rw [i4 0 (by decide)]; exact c3
      · rw [i4 2 (by decide)]; exact c2
      · rw [w4.1]; exact c11
      · rw [sx.2.1 28 (by omega), m4 28 (by decide) (by decide)]; exact d28
    have s60 : K4.2.1 23 4 = T7.1 60 := by rw [i4 23 (by decide), c23, m3 60 (by decide) (by decide) (by decide), d60]
    have kread : KC 371 m_Q_readTerm (fun G => [.ref (cp_b G + 21)]) (kP (kI K1 23 4 0) 0 11 0) (fun G => some (va_rf (kr G K2.1.1))) K3 := by rw [← hK2]; exact r1.mono (by omega)
    have mread : MC 5 m_M_read [.int 200, .int 2, .int 1] (va_up (va_up (va_up S.1 0 0) 60 0) 79 0, S.2) (some (.int (-1))) S3 := by rw [← hS1]; exact r2
    have q0 : ¬ K2.1.1 = 0 := by omega
    rcases typ_m (Em := min (gH T7.2 n1 - gH T7.2 rf) (gS T7.2 n1 - gS T7.2 rf)) (Ht := gH T7.2 n1 - gH T7.2 rf) (Sl := gS T7.2 n1 - gS T7.2 rf) (e := 0) (u := 100 * min (gH T7.2 n1 - gH T7.2 rf) (gS T7.2 n1 - gS T7.2 rf)) (fun x x1 x2 => by omega) (by omega) tst tr (GW_b (b := T7.2)) ⟨by omega, by omega⟩ (by omega) (by omega) (fun _ _ _ _ h => h.elim) ⟨Nat.le_refl _, Nat.zero_le _, by omega, by rw [List.length_nil]; omega⟩ ⟨by omega, by omega, by
        by_cases hc : gI T7.2 n1 - gI T7.2 rf ≤ 14
        · omega
        · omega⟩ (by rw [z4, z7]; omega) with ⟨K5, S5, t1, t2, t3, t4, t5, t6, t7, t8⟩ | ⟨K5, S5, ρ', nv', nc', hl', C', F', L', x, v, e', lf, ts, t1, t2, t3, t4, t5, t6, -⟩
    · -- the term is wrong
      obtain ⟨b1, b2, ⟨b3, b4, b5, b6⟩, ⟨b7, b8, b9, b10, b11, b12⟩⟩ := base K5 S5 t3 t4
      obtain ⟨S', hS'⟩ : ∃ S' : cp_S, S' = (va_up S5.1 16 (S.1 16), S5.2) := ⟨_, rfl⟩
      have s' : ∀ k, k ≠ 16 → S'.1 k = S5.1 k := fun k q1 => by rw [hS']; exact cp_up_ne q1
      have s2' : S'.2 = S5.2 := by rw [hS']
      obtain ⟨i1, i2⟩ := rd K3 S3 r5 r6 r10 K5 S' 0 b1 (b2.trans (by rw [hS']; exact FS.up (by decide))) (by omega) b3 ((s' 1 (by decide)).trans b8) (by rw [hS']; show va_up S5.1 16 (S.1 16) 16 = _; rw [va_up_at]; exact h16) (h.2.1.fr b4 b5 ((s' 3 (by decide)).trans b9) (by rw [s2']; exact b10)) (Or.inl ⟨b6, (s' 79 (by decide)).trans b12⟩) ((t5 s60).trans (s' 60 (by decide)).symm) ((s' 58 (by decide)).trans b11) ⟨by have := t8.1; omega, t8.2.1, t8.2.2.1, t8.2.2.2⟩
      refine ⟨-100 - S5.1 59, K5, S', c_P_check (D := 364) ⟨K1, o1.mono (by omega), K2.1.1, K3, kread, fun _ => ⟨-1, K5, c_T_typeAlone (D := 363) ⟨Or.inl rfl, -1, K5, by rw [← hK4]; exact t1, rfl, rfl⟩, fun q => absurd rfl q, fun _ => ⟨by rw [t6], rfl⟩⟩, fun q => absurd q q0⟩, c_M_check (b_M_check_0 ⟨-1, S3, mread, T5, m1, T7, m2, fun _ => ⟨-1, S5, by rw [h16]; exact t2, fun q => absurd rfl q, fun _ => ⟨fun _ => ⟨rfl, hS'⟩, fun q => absurd (by decide) q⟩⟩, fun q => absurd (by decide) q⟩), i1, (s' 0 (by decide)).trans b7, i2⟩
    · obtain ⟨⟨tv, -, -, -⟩, -, -, ⟨t60, -⟩, kx, sx, tB, -⟩ := t6
      obtain ⟨⟨V, -, hA⟩, -, v9, v11⟩ := tv
      have vN := V.2.2.2.2.2.2.2
      obtain ⟨b1, b2, ⟨b3, b4, b5, b6⟩, ⟨b7, b8, b9, b10, b11, b12⟩⟩ := base K5 S5 kx sx
      have a23 := t60 s60
      have x31 : x < 2 ^ 31 := by omega
      have ktyp : KC 371 m_T_typeAlone (fun G => [.ref (cp_b G + 24), va_rf (kr G K2.1.1)]) K3 (fun _ => some (.int (nI x))) K5 := c_T_typeAlone (D := 363) ⟨Or.inl rfl, nI x, K5, by rw [← hK4]; exact t1, rfl, rfl⟩
      rcases t4 with ⟨rfl, u1, u2, u3⟩ | ⟨r, rfl, u1⟩
      · -- a star
        obtain ⟨K6, a1, a2, a3, a4, a5⟩ := star_w (K := K5) u1 t5 vN v9
        obtain ⟨K7, e1, e2⟩ := show_c (K := K6) (n := 1) (x1 := nI x) (D := 4) (by omega) (fun y hy => ⟨42, by decide, by rw [show y = 0 by omega]; exact a4⟩) a3.1 1 0 K6 rfl (fun _ hx => absurd hx (by omega)) (fun _ _ => rfl) rfl rfl
        have kshow : KC 371 m_P_show (fun G => [.ref (cp_b G + 0), .int (nI x)]) K5 (fun _ => some (.int 1)) K7 := (c_P_show (D := 4) ⟨nI 1, K6, a1, fun _ => e1, fun q => absurd (by decide) q⟩).mono (by omega)
        have f7 := e2.fk
        obtain ⟨e3, e4, e5, e6, e7, e8⟩ := e2
        have q7 := a2.2.2.1 7 (by decide)
        have w7 : ∀ q, rsz K7 q = rsz K6 q ∧ rat K7 q = rat K6 q := fun q => by unfold rsz rat; rw [e7]; exact ⟨rfl, rfl⟩
        have n7 : 86 ≤ K7.1.1 := by have := (b1.trans ((FK.wf a2).trans f7)).2.2.2.1; omega
        obtain ⟨K8, p1, p2, p3, p4, p5, p6, p7, p8⟩ := star_k (K := K7) (by rw [(w7 7).2, q7.2]; exact u1) (by rw [(w7 7).2, q7.2]; exact u2) (by rw [(w7 7).1, q7.1]; exact u3) (by rw [(w7 7).1, q7.1]; exact vN) n7
        obtain ⟨K9, hK9⟩ : ∃ K9, K9 = kP K8 0 11 K7.1.1 := ⟨_, rfl⟩
        have i9 : K9.2.1 = K8.2.1 := by rw [hK9, kP_i]
        have pg : K9.2.1 2 0 = nI 42 := by rw [i9, p3.2.1, e4 0 (by omega)]; exact a4
        have p03 : K9.2.1 0 3 = nI 1 := by rw [i9, p3.1.1]; exact e3
        obtain ⟨r, l1, l2, l3⟩ := psh (K := K9) (n := 1) (D := 0) (by omega) p03 1 0 rfl (fun _ hx => absurd hx (by omega))
        have r0 : r = 0 := by
          rcases l2 with l2 | l2
          · exact l2
          · obtain ⟨y, y1, y2⟩ := l3.mp l2
            rw [show y = 0 by omega, pg] at y2
            exact absurd y2 (by decide)
        subst r0
        obtain ⟨K', hK'⟩ : ∃ K', K' = kI K9 0 12 0 := ⟨_, rfl⟩
        have f89 : FK 0 K8 K' := by rw [hK', hK9]; exact (FK.kP (by omega)).trans (FK.kI (by omega))
        have i' : ∀ k, k ≠ 12 → K'.2.1 0 k = K8.2.1 0 k := fun k hk => by rw [hK', kI_i, va_up_at, cp_up_ne hk, i9]
        have i2' : ∀ p, p ≠ 0 → K'.2.1 p = K8.2.1 p := fun p hp => by rw [hK', kI_i, cp_up_ne hp, i9]
        have w' : K'.2.2.2 = K6.2.2.2 := by rw [hK', hK9]; show K8.2.2.2 = _; rw [p4, e7]
        have z' : ∀ q, rsz K' q = rsz K6 q := fun q => by unfold rsz; rw [w']
        obtain ⟨SA, hSA⟩ : ∃ SA : cp_S, SA = (va_up (va_up (va_up (va_up (va_up (va_up (va_up S5.1 16 (S.1 16)) 80 1) 75 0) 74 0) 79 1) 81 0) 82 0, va_up S5.2 29 (upd (S5.2 29) (Int32.toNatClampNeg 0) 42)) := ⟨_, rfl⟩
        have sa2 : ∀ p, p ≠ 29 → SA.2 p = S5.2 p := fun p hp => by rw [hSA]; exact cp_up_ne hp
        have sa29 : SA.2 29 0 = 42 := by rw [hSA]; rfl
        have sa1 : SA.1 = va_up (va_up (va_up (va_up (va_up (va_up (va_up S5.1 16 (S.1 16)) 80 1) 75 0) 74 0) 79 1) 81 0) 82 0 := by rw [hSA]
        obtain ⟨S', y1, y2, y3, y4, y5⟩ := chk_rows (S := SA) (m := 0) (n := 1) (x1 := S.1 16) (x2 := -1) (x3 := -2) (by omega) (by omega) (by rw [sa1]; rfl)
        have t' : ∀ k, k ≠ 3 → k ≠ 16 → k ≠ 80 → k ≠ 75 → k ≠ 74 → k ≠ 79 → k ≠ 81 → k ≠ 82 → S'.1 k = S5.1 k := fun k j1 j2 j3 j4 j5 j6 j7 j8 => by rw [y2, sa1, cp_up_ne j1, cp_up_ne j8, cp_up_ne j7, cp_up_ne j6, cp_up_ne j5, cp_up_ne j4, cp_up_ne j3, cp_up_ne j2]
        have t16 : S'.1 16 = nI rf := by rw [y2, sa1]; exact h16
        have t79 : S'.1 79 = 1 := by rw [y2, sa1]; rfl
        have t80 : S'.1 80 = 1 := by rw [y2, sa1]; rfl
        have t81 : S'.1 81 = 0 := by rw [y2, sa1]; rfl
        have hR : RSV K' S' := by
          have r11 : K'.2.2.1 0 11 = K7.1.1 := by rw [hK', hK9]; show (kP K8 0 11 K7.1.1).2.2.1 0 11 = _; rw [kP_r, va_up_at, va_up_at]
          refine Or.inr ⟨?_, by rw [t79]; decide, ⟨fun _ => t81, fun _ => by rw [hK', kI_i, va_up_at, va_up_at]⟩, fun _ => Or.inl ⟨by rw [t80]; decide, ?_⟩⟩
          · rw [r11]; exact f89.kfx.n p7
          · rw [r11, f89.kfx.i p7]; exact p8
        have h23 : K'.2.1 23 4 = S'.1 60 := by
          rw [i2' 23 (by decide), p5, e5 23 (by decide) (by decide), a2.1 23 4 (by decide) (by decide), a23]
          exact (t' 60 (by decide) (by decide) (by decide) (by decide) (by decide) (by decide) (by decide) (by decide)).symm
        have hz' : rsz K' 7 ≤ 1048576 ∧ rsz K' 9 < 16000 ∧ rsz K' 11 < 16000 ∧ ∃ n, n ≤ 10000 ∧ BS K' n := by
          refine ⟨by rw [z', q7.1]; exact vN, by rw [z', a5]; omega, by rw [z', (a2.2.2.1 11 (by decide)).1]; exact v11, 0, by omega, ?_⟩
          unfold BS
          rw [z', z', z', (a2.2.2.1 15 (by decide)).1, (a2.2.2.1 17 (by decide)).1, (a2.2.2.1 19 (by decide)).1]
          exact tB
        have hP : PGE K' S' := ⟨1, by omega, by rw [i' 3 (by decide), p3.1.1]; exact e3, by rw [y2, va_up_at], fun y hy => ⟨42, by decide, by rw [show y = 0 by omega, i2' 2 (by decide), ← i9]; exact pg, by rw [show y = 0 by omega, y4 0 (by omega)]; exact sa29⟩⟩
        have hFS : FS rf P S3 S' := b2.trans (FS.of (fun k hk => t' k (by omega) (by omega) (by omega) (by omega) (by omega) (by omega) (by omega) (by omega)) (fun p hp => by rw [y3 p (by omega) (by omega), sa2 p (by omega)]))
        obtain ⟨i1, i2⟩ := rd K3 S3 r5 r6 r10 K' S' (0 + (0 + (0 + (1 + 0)))) (b1.trans ((FK.wf a2).trans (f7.trans (p2.trans f89)))) hFS (by omega) (by rw [i' 1 (by decide), p6, e6 1 (by decide), a2.1 0 1 (by decide) (by decide)]; exact b3) ((t' 1 (by decide) (by decide) (by decide) (by decide) (by decide) (by decide) (by decide) (by decide)).trans b8) t16 hP hR h23 ((t' 58 (by decide) (by decide) (by decide) (by decide) (by decide) (by decide) (by decide) (by decide)).trans b11) hz'
        refine ⟨nI 1, K', S', c_P_check (D := 364) ⟨K1, o1.mono (by omega), K2.1.1, K3, kread, fun _ => ⟨nI x, K5, ktyp, fun _ => ⟨1, K7, kshow, fun _ => ⟨K7.1.1, K8, p1.mono (by omega), 0, K9, by rw [← hK9]; exact (c_P_pageShowsHole (D := 0) l1).mono (by omega), ⟨rfl, rfl⟩, by rw [← hK']; exact ⟨by rw [i' 3 (by decide), p3.1.1, e3], rfl⟩⟩, fun q => absurd q (by decide)⟩, fun q => absurd q (nI_m1 x31)⟩, fun q => absurd q q0⟩, c_M_check (b_M_check_0 ⟨-1, S3, mread, T5, m1, T7, m2, fun _ => ⟨-2, S5, by rw [h16]; exact t2, fun _ => ⟨fun q => absurd rfl q, fun _ => ⟨vp_in_nI (show 0 < 110 by omega) (by decide), fun q => absurd q (by decide), fun _ => ⟨fun _ => by rw [← hSA]; exact y1, fun q => absurd q (by decide)⟩⟩⟩, fun q => absurd q (by decide)⟩, fun q => absurd (by decide) q⟩), i1, (t' 0 (by decide) (by decide) (by decide) (by decide) (by decide) (by decide) (by decide) (by decide)).trans b7, i2⟩
      · -- a value
        have nr1 : ¬ nI r = -2 := fun e => by
          have := nI_pos (n := r) (by have := (V.1.1 _ _ u1).2.1; have := V.2.2.2.2.2.1; omega)
          rw [e] at this; exact this (by decide)
        have h5 : ∀ v r, ρ' v r → ¬ rat K5 7 v = 5 := fun v r q e => by
          have := hA.2 v r q e
          omega
        obtain ⟨SD, hSD⟩ : ∃ SD : cp_S, SD = (va_up (va_up (va_up (va_up S5.1 16 (S.1 16)) 80 0) 75 0) 74 0, va_up S5.2 29 (upd (S5.2 29) (Int32.toNatClampNeg 0) 42)) := ⟨_, rfl⟩
        have sd2 : ∀ p, p ≠ 29 → SD.2 p = S5.2 p := fun p hp => by rw [hSD]; exact cp_up_ne hp
        have sd1 : SD.1 = va_up (va_up (va_up (va_up S5.1 16 (S.1 16)) 80 0) 75 0) 74 0 := by rw [hSD]
        have ge : GE SD S5.2 := fun p p1 p2 => sd2 p (by omega)
        rcases draw_m V h5 u1 (K := K5) (S := SD) rfl rfl ge v9 with ⟨K6, S6, nn', m, nn1, nn2, a1, a2, a3, a4, a5, a6, a7⟩ | ⟨K6, S6, a1, a2, a3, a4, a5⟩
        · obtain ⟨⟨dn, -⟩, ⟨st75, stm⟩, stc, st74, sto, stw⟩ := id a5
          have ltm := VT.lt _ _ _ _ _ a7
          obtain ⟨K7, e1, e2⟩ := show_c (K := K6) (n := nn') (x1 := nI x) (D := 4) nn2 (fun y hy => (stc y hy).2) dn.1 nn' 0 K6 (by omega) (fun _ hx => absurd hx (by omega)) (fun _ _ => rfl) rfl rfl
          have kshow : KC 371 m_P_show (fun G => [.ref (cp_b G + 0), .int (nI x)]) K5 (fun _ => some (.int 1)) K7 := (c_P_show (D := 4) ⟨nI nn', K6, a1.mono (by omega), fun _ => e1, fun q => absurd (nI_le (b := 100) nn2 (by omega)) q⟩).mono (by omega)
          have f7 := e2.fk
          obtain ⟨e3, e4, e5, e6, e7, e8⟩ := e2
          have q7 := a3.2.2.1 7 (by decide)
          have w7 : ∀ q, rsz K7 q = rsz K6 q ∧ rat K7 q = rat K6 q := fun q => by unfold rsz rat; rw [e7]; exact ⟨rfl, rfl⟩
          have n7 : 86 ≤ K7.1.1 := by have := (b1.trans ((FK.wf a3).trans f7)).2.2.2.1; omega
          obtain ⟨K8, p1, p2, p3, p4, p5⟩ := keep_all (b := S6.2) V h5 34 x r 0 m 1 K7 a7 (by rw [(w7 7).2, q7.2]) (by rw [(w7 7).1, q7.1]) (by omega) n7
          have f8 : FK 100 K7 K8 := FK.krx p4 (by omega)
          have j8 := FJ.krx p4 n7
          have i08 : K8.2.1 0 = K7.2.1 0 := funext fun k => p4.2.2.2.1 0 (by omega) (by decide) k (Or.inl (by omega))
          obtain ⟨K9, hK9⟩ : ∃ K9, K9 = kP K8 0 11 K7.1.1 := ⟨_, rfl⟩
          have i9 : K9.2.1 = K8.2.1 := by rw [hK9, kP_i]
          have p03 : K9.2.1 0 3 = nI nn' := by rw [i9, j8.1.1]; exact e3
          have p2c : ∀ y, y < nn' → K9.2.1 2 y = K6.2.1 13 y := fun y hy => by rw [i9, j8.2.1]; exact e4 y hy
          obtain ⟨rr, l1, l2, l3⟩ := psh (K := K9) (n := nn') (D := 0) nn2 p03 nn' 0 (by omega) (fun _ hx => absurd hx (by omega))
          have r74 : rr = S6.1 74 := by
            rcases l2 with l2 | l2
            · rcases st74 with q | q
              · rw [l2, q]
              · obtain ⟨y, y1, y2⟩ := sto.mp q
                have : rr = 1 := l3.mpr ⟨y, y1, by rw [p2c y y1]; exact y2⟩
                rw [l2] at this; exact absurd this (by decide)
            · obtain ⟨y, y1, y2⟩ := l3.mp l2
              rw [l2, sto.mpr ⟨y, y1, by rw [← p2c y y1]; exact y2⟩]
          obtain ⟨K', hK'⟩ : ∃ K', K' = kI K9 0 12 rr := ⟨_, rfl⟩
          have f89 : FK 0 K8 K' := by rw [hK', hK9]; exact (FK.kP (by omega)).trans (FK.kI (by omega))
          have i' : ∀ k, k ≠ 12 → K'.2.1 0 k = K8.2.1 0 k := fun k hk => by rw [hK', kI_i, va_up_at, cp_up_ne hk, i9]
          have i2' : ∀ p, p ≠ 0 → K'.2.1 p = K8.2.1 p := fun p hp => by rw [hK', kI_i, cp_up_ne hp, i9]
          have w' : K'.2.2.2 = K6.2.2.2 := by rw [hK', hK9]; show K8.2.2.2 = _; rw [p4.2.2.2.2.2.2, e7]
          have z' : ∀ q, rsz K' q = rsz K6 q := fun q => by unfold rsz; rw [w']
          obtain ⟨SA, hSA⟩ : ∃ SA : cp_S, SA = (va_up (va_up (va_up S6.1 79 1) 81 (S6.1 74)) 82 (S6.1 75), S6.2) := ⟨_, rfl⟩
          have sa2 : SA.2 = S6.2 := by rw [hSA]
          have sa1 : SA.1 = va_up (va_up (va_up S6.1 79 1) 81 (S6.1 74)) 82 (S6.1 75) := by rw [hSA]
          obtain ⟨S', y1, y2, y3, y4, y5⟩ := chk_rows (S := SA) (m := m) (n := nn') (x1 := S.1 16) (x2 := -1) (x3 := nI r) nn2 (by omega) (by rw [sa1]; exact st75)
          have t' : ∀ k, k ≠ 3 → k ≠ 16 → k ≠ 80 → k ≠ 75 → k ≠ 74 → k ≠ 79 → k ≠ 81 → k ≠ 82 → S'.1 k = S5.1 k := fun k j1 j2 j3 j4 j5 j6 j7 j8 => by rw [y2, sa1, cp_up_ne j1, cp_up_ne j8, cp_up_ne j7, cp_up_ne j6, a4.1 k j5 j4, sd1, cp_up_ne j5, cp_up_ne j4, cp_up_ne j3, cp_up_ne j2]
          have t16 : S'.1 16 = nI rf := by
            rw [y2, sa1]
            show S6.1 16 = _
            rw [a4.1 16 (by decide) (by decide), sd1]
            exact h16
          have t79 : S'.1 79 = 1 := by rw [y2, sa1]; rfl
          have t80 : S'.1 80 = 0 := by
            rw [y2, sa1]
            show S6.1 80 = _
            rw [a4.1 80 (by decide) (by decide), sd1]
            rfl
          have t81 : S'.1 81 = S6.1 74 := by rw [y2, sa1]; rfl
          have t82 : S'.1 82 = nI m := by rw [y2, sa1]; exact st75
          have s30 : ∀ p, 30 ≤ p → p ≤ 38 → S'.2 p = S.2 p := fun p q1 q2 => by
            rw [y3 p (by omega) (by omega), sa2, a4.2 p (by omega) (by omega) (by omega) (by omega) (by omega) (by omega), sd2 p (by omega), sx.2.1 p (by omega), m4 p (by omega) (by omega), r6.2.1 p (by omega) (by omega), s2]
          have hR : RSV K' S' := by
            have r11 : K'.2.2.1 0 11 = K7.1.1 := by rw [hK', hK9]; show (kP K8 0 11 K7.1.1).2.2.1 0 11 = _; rw [kP_r, va_up_at, va_up_at]
            have i12 : K'.2.1 0 12 = rr := by rw [hK', kI_i, va_up_at, va_up_at]
            have tr8 : TR K8 (kbd S6.2) (fun _ _ => True) 34 K7.1.1 0 m := RTR.tr 34 _ _ _ _ p2 (fun _ _ _ _ _ _ => trivial)
            refine Or.inr ⟨by rw [r11]; exact f89.kfx.n (RTR.nd p2), by rw [t79]; decide, by rw [i12, t81, r74], fun q81 => Or.inr ⟨t80, m, 34, t82, by omega, by omega, by omega, ?_, fun y hy => ?_⟩⟩
            · rw [r11]
              refine TR.ft (rf := m) f89.kfx (fun p p1 p2' y hy => ?_) 34 _ _ _ (Nat.le_refl _) tr8
              obtain ⟨j1, j2, j3⟩ := y5 y hy
              rw [sa2] at j1 j2 j3
              unfold rbs kbd
              rcases (show p = 39 ∨ p = 40 ∨ p = 41 by omega) with rfl | rfl | rfl
              · show S'.2 82 y = if S6.2 79 y = 5 ∧ S6.2 80 y = -1 then 4 else S6.2 79 y
                rw [j1, if_neg (fun q => by
                  have := stw y hy q.1 q.2
                  rw [t81, this] at q81
                  exact absurd q81 (by decide))]
              · exact j2
              · exact j3
            · obtain ⟨j1, j2, j3⟩ := y5 y hy
              rw [sa2] at j1 j2 j3
              rw [j1, j2, j3]
              obtain ⟨g1', g2'⟩ := VT.rows V h5 hA _ _ _ _ _ a7 y (Nat.zero_le _) hy
              refine ⟨g1', fun e5' => ?_⟩
              obtain ⟨c, n', c1', c2', c3', c4', c5'⟩ := g2' e5' (fun q => by
                have := stw y hy e5' q
                rw [t81, this] at q81
                exact absurd q81 (by decide))
              have k30 : S.2 30 c = 1 := Classical.byContradiction fun q => by
                have := ar3 c c1' q
                omega
              refine ⟨c, n', c1', c2', c3', c4', by rw [s30 30 (by omega) (by omega)]; exact k30, ?_⟩
              rw [s30 31 (by omega) (by omega), (ar2 c c1' k30).1, c5']
          have h23 : K'.2.1 23 4 = S'.1 60 := by
            rw [i2' 23 (by decide), p4.2.2.2.1 23 (by omega) (by decide) 4 (Or.inl (by omega)), e5 23 (by decide) (by decide), a3.1 23 4 (by decide) (by decide), a23]
            exact (t' 60 (by decide) (by decide) (by decide) (by decide) (by decide) (by decide) (by decide) (by decide)).symm
          have hz' : rsz K' 7 ≤ 1048576 ∧ rsz K' 9 < 16000 ∧ rsz K' 11 < 16000 ∧ ∃ n, n ≤ 10000 ∧ BS K' n := by
            refine ⟨by rw [z', q7.1]; exact vN, by rw [z', a6]; omega, by rw [z', (a3.2.2.1 11 (by decide)).1]; exact v11, 0, by omega, ?_⟩
            unfold BS
            rw [z', z', z', (a3.2.2.1 15 (by decide)).1, (a3.2.2.1 17 (by decide)).1, (a3.2.2.1 19 (by decide)).1]
            exact tB
          have hP : PGE K' S' := ⟨nn', nn2, by rw [i' 3 (by decide), j8.1.1]; exact e3, by rw [y2, va_up_at], fun y hy => by
            obtain ⟨q1, c, q2, q3⟩ := stc y hy
            refine ⟨c, q2, ?_, ?_⟩
            · rw [i2' 2 (by decide), ← i9, p2c y hy]; exact q3
            · rw [y4 y hy, sa2, q1]; exact q3⟩
          have hFS : FS rf P S3 S' := b2.trans (FS.of (fun k hk => t' k (by omega) (by omega) (by omega) (by omega) (by omega) (by omega) (by omega) (by omega)) (fun p hp => by rw [y3 p (by omega) (by omega), sa2, a4.2 p (by omega) (by omega) (by omega) (by omega) (by omega) (by omega), sd2 p (by omega)]))
          obtain ⟨i1, i2⟩ := rd K3 S3 r5 r6 r10 K' S' (0 + (0 + (0 + (100 + 0)))) (b1.trans ((FK.wf a3).trans (f7.trans (f8.trans f89)))) hFS (by omega) (by rw [i' 1 (by decide), i08, e6 1 (by decide), a3.1 0 1 (by decide) (by decide)]; exact b3) ((t' 1 (by decide) (by decide) (by decide) (by decide) (by decide) (by decide) (by decide) (by decide)).trans b8) t16 hP hR h23 ((t' 58 (by decide) (by decide) (by decide) (by decide) (by decide) (by decide) (by decide) (by decide)).trans b11) hz'
          have n01 : (narrow (cp_ty 0 12) (.int rr) = .int rr ∧ fits (cp_ty 0 12) (.int rr) = true) := by rcases l2 with q | q <;> rw [q] <;> exact ⟨rfl, rfl⟩
          have n02 : (narrow (cp_ty 11 81) (.int (S6.1 74)) = .int (S6.1 74) ∧ fits (cp_ty 11 81) (.int (S6.1 74)) = true) := by rcases st74 with q | q <;> rw [q] <;> exact ⟨rfl, rfl⟩
          have n200 : ¬ nI nn' = -200 := fun e => by
            have := nI_pos (n := nn') (by omega)
            rw [e] at this; exact this (by decide)
          refine ⟨nI nn', K', S', c_P_check (D := 364) ⟨K1, o1.mono (by omega), K2.1.1, K3, kread, fun _ => ⟨nI x, K5, ktyp, fun _ => ⟨1, K7, kshow, fun _ => ⟨K7.1.1, K8, p1.mono (by omega), rr, K9, by rw [← hK9]; exact (c_P_pageShowsHole (D := 0) l1).mono (by omega), n01, by rw [← hK']; exact ⟨by rw [i' 3 (by decide), j8.1.1, e3], rfl⟩⟩, fun q => absurd q (by decide)⟩, fun q => absurd q (nI_m1 x31)⟩, fun q => absurd q q0⟩, c_M_check (b_M_check_0 ⟨-1, S3, mread, T5, m1, T7, m2, fun _ => ⟨nI r, S5, by rw [h16]; exact t2, fun _ => ⟨fun _ => ⟨vp_in_nI (show 0 < 110 by omega) (by decide), fun _ => ⟨nI nn', S6, by rw [← hSD]; exact a2, fun _ => ⟨n02, by rw [← hSA]; exact y1⟩, fun q => absurd q n200⟩, fun q => absurd rfl q⟩, fun q => absurd q nr1⟩, fun q => absurd q t3⟩, fun q => absurd (by decide) q⟩), i1, (t' 0 (by decide) (by decide) (by decide) (by decide) (by decide) (by decide) (by decide) (by decide)).trans b7, i2⟩
        · -- too long
          have t' : ∀ k, k ≠ 16 → k ≠ 80 → k ≠ 75 → k ≠ 74 → S6.1 k = S5.1 k := fun k j2 j3 j4 j5 => by rw [a4.1 k j5 j4, sd1, cp_up_ne j5, cp_up_ne j4, cp_up_ne j3, cp_up_ne j2]
          have j6 := FJ.wf a3
          have hz' : rsz K6 7 ≤ 1048576 ∧ rsz K6 9 < 16000 ∧ rsz K6 11 < 16000 ∧ ∃ n, n ≤ 10000 ∧ BS K6 n := by
            refine ⟨by rw [(a3.2.2.1 7 (by decide)).1]; exact vN, by omega, by rw [(a3.2.2.1 11 (by decide)).1]; exact v11, 0, by omega, ?_⟩
            unfold BS
            rw [(a3.2.2.1 15 (by decide)).1, (a3.2.2.1 17 (by decide)).1, (a3.2.2.1 19 (by decide)).1]
            exact tB
          have hFS : FS rf P S3 S6 := b2.trans (FS.of (fun k hk => t' k (by omega) (by omega) (by omega) (by omega)) (fun p hp => by rw [a4.2 p (by omega) (by omega) (by omega) (by omega) (by omega) (by omega), sd2 p (by omega)]))
          have t16 : S6.1 16 = nI rf := by
            rw [a4.1 16 (by decide) (by decide), sd1]
            exact h16
          obtain ⟨i1, i2⟩ := rd K3 S3 r5 r6 r10 K6 S6 (0 + 0) (b1.trans (FK.wf a3)) hFS (by omega) (by rw [a3.1 0 1 (by decide) (by decide)]; exact b3) ((t' 1 (by decide) (by decide) (by decide) (by decide)).trans b8) t16 (h.2.1.fr (j6.1.1.trans b4) (j6.2.1.trans b5) ((t' 3 (by decide) (by decide) (by decide) (by decide)).trans b9) (by rw [a4.2 28 (by decide) (by decide) (by decide) (by decide) (by decide) (by decide), sd2 28 (by decide)]; exact b10)) (Or.inl ⟨j6.2.2.trans b6, (t' 79 (by decide) (by decide) (by decide) (by decide)).trans b12⟩) (by rw [a3.1 23 4 (by decide) (by decide), a23]; exact (t' 60 (by decide) (by decide) (by decide) (by decide)).symm) ((t' 58 (by decide) (by decide) (by decide) (by decide)).trans b11) hz'
          have kshow : KC 371 m_P_show (fun G => [.ref (cp_b G + 0), .int (nI x)]) K5 (fun _ => some (.int 0)) K6 := (c_P_show (D := 4) ⟨nI 101, K6, a1.mono (by omega), fun q => absurd q (by decide), fun _ => ⟨rfl, rfl⟩⟩).mono (by omega)
          refine ⟨-200, K6, S6, c_P_check (D := 364) ⟨K1, o1.mono (by omega), K2.1.1, K3, kread, fun _ => ⟨nI x, K5, ktyp, fun _ => ⟨0, K6, kshow, fun q => absurd rfl q, fun _ => ⟨rfl, rfl⟩⟩, fun q => absurd q (nI_m1 x31)⟩, fun q => absurd q q0⟩, c_M_check (b_M_check_0 ⟨-1, S3, mread, T5, m1, T7, m2, fun _ => ⟨nI r, S5, by rw [h16]; exact t2, fun _ => ⟨fun _ => ⟨vp_in_nI (show 0 < 110 by omega) (by decide), fun _ => ⟨-200, S6, by rw [← hSD]; exact a2, fun q => absurd rfl q, fun _ => ⟨rfl, rfl⟩⟩, fun q => absurd rfl q⟩, fun q => absurd q nr1⟩, fun q => absurd q t3⟩, fun q => absurd (by decide) q⟩), i1, (t' 0 (by decide) (by decide) (by decide) (by decide)).trans b7, i2⟩
end CPFH
