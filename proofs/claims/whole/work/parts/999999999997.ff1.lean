/-! ===== the face: run, both at once ===== -/
section CPFS
variable {K K1 K2 K' : cp_K} {S S1 S2 S' : cp_S} {Ls : List Nat} {rf P : Nat}
theorem f_run (h : INV K S Ls rf P) {c : Nat} (hc : c < 65536) :
    (KT 372 m_P_run (fun G => [.ref (cp_b G + 0), .int (nI c)]) K 12 K.1.1 (kN K 99) ∧ MC 8 m_M_run [.int (nI c)] S (some (.int 0)) (va_up S.1 0 1, S.2)) ∨
    ∃ r K' S', KC 372 m_P_run (fun G => [.ref (cp_b G + 0), .int (nI c)]) K (fun _ => some (.int r)) K' ∧ MC 8 m_M_run [.int (nI c)] S (some (.int r)) S' ∧ INV K' S' Ls rf P ∧ S'.1 0 = 0 ∧ GRW 200 K K' := by
  have fl := find_L h hc
  obtain ⟨l1, l0⟩ := let_c hc
  by_cases hl : 65 ≤ c ∧ c ≤ 90
  rotate_left
  · rw [if_neg hl] at fl
    exact Or.inl ⟨t_P_run (D := 364) ⟨fun _ => ⟨rfl, rfl⟩, fun q => absurd fl q⟩, c_M_run (b_M_run_0 ⟨0, l0 hl, fun _ => ⟨fun q => absurd q (by decide), fun _ => ⟨rfl, rfl⟩⟩, fun q => absurd rfl q⟩)⟩
  rw [if_pos hl] at fl
  obtain ⟨l2, l3⟩ := l1 hl
  have hl26 : c - 65 < 26 := by omega
  have vi : vp_in (nI (c - 65)) 26 := vp_in_nI hl26 (by decide)
  have no : ¬ S.2 30 (c - 65) = 2 → MC 8 m_M_run [.int (nI c)] S (some (.int 0)) (va_up S.1 0 1, S.2) := fun q => by
    refine c_M_run (b_M_run_0 ⟨1, l2, fun q => absurd q (by decide), fun _ => ?_⟩)
    rw [l3, nI_clamp (by omega)]
    exact ⟨vi, fun e => absurd e q, fun _ => ⟨fun q => absurd q (by decide), fun _ => ⟨rfl, rfl⟩⟩⟩
  rcases ent_L h.2.2.1 hl26 with ⟨q1, q2⟩ | ⟨q1, q2, q3, -⟩ | ⟨q1, q2, q3, mm, m4, q5, q6⟩
  · exact Or.inl ⟨t_P_run (D := 364) ⟨fun _ => ⟨rfl, rfl⟩, fun q => absurd (fl.trans q2) q⟩, no (by rw [q1]; decide)⟩
  · have ne : ¬ K.2.2.1 4 (c - 65) = 0 := fun e => by have := q2.1; omega
    refine Or.inl ⟨t_P_run (D := 364) ⟨fun q => absurd (fl.symm.trans q) ne, fun _ => ?_⟩, no (by rw [q1]; decide)⟩
    rw [fl]
    exact ⟨q2, fun q => absurd q3 q, fun _ => ⟨rfl, rfl⟩⟩
  refine Or.inr ?_
  have ne : ¬ K.2.2.1 4 (c - 65) = 0 := fun e => by have := q2.1; omega
  have h26 := h.rf26
  have h16 : S.1 16 = nI rf := h.2.2.1.2.2.1.1
  have h58 : S.1 58 = 0 := h.2.2.2.2.2.1.2
  have ha86 : 86 ≤ K.1.1 := h.2.2.2.2.2.2.2.2
  obtain ⟨K1, tx, n, o1, ⟨o2, o3⟩, o4, ⟨z7, zB, z9, z11⟩, ⟨o9, o10⟩, o11⟩ := open_m h
  obtain ⟨K2, hK2⟩ : ∃ K2, K2 = kI K1 23 4 0 := ⟨_, rfl⟩
  obtain ⟨S1, hS1⟩ : ∃ S1 : cp_S, S1 = (va_up (va_up S.1 0 0) 60 0, S.2) := ⟨_, rfl⟩
  have fk2 : FK 0 K K2 := by rw [hK2]; exact o2.trans (FK.kI (by omega))
  have fj2 : FJ K K2 := by rw [hK2]; exact o3.trans (FJ.kI (by omega))
  have s1 : ∀ k, k ≠ 0 → k ≠ 60 → S1.1 k = S.1 k := fun k a b => by rw [hS1]; show va_up (va_up S.1 0 0) 60 0 k = _; rw [cp_up_ne b, cp_up_ne a]
  have s1' : S1.1 0 = 0 ∧ S1.1 60 = 0 := by rw [hS1]; exact ⟨rfl, rfl⟩
  have s2 : S1.2 = S.2 := by rw [hS1]
  have fs1 : FS rf P S S1 := FS.of (fun k hk => s1 k (by omega) (by omega)) (fun p _ => by rw [s2])
  have fg1 : FG S S1 := ⟨fun k hk => s1 k (by omega) (by omega), fun p _ => by rw [s2]⟩
  have i2 : ∀ p, p ≠ 23 → K2.2.1 p = K1.2.1 p := fun p hp => by rw [hK2, kI_i, cp_up_ne hp]
  have w2 : K2.2.2 = K1.2.2 ∧ K2.1 = K1.1 := by rw [hK2]; exact ⟨rfl, rfl⟩
  have h86 : 86 ≤ K2.1.1 := by rw [w2.2, o10]; exact ha86
  have zz : ∀ q, rsz K2 q = rsz K1 q := fun q => by unfold rsz; rw [w2.1]
  have rin : RIN tx n rf K2 S1 := o11 K2 S1 (i2 21 (by decide)) (i2 1 (by decide)) (by rw [w2.1]) w2.2 (s1 1 (by decide) (by decide)) (s1 16 (by decide) (by decide)) (by rw [s2])
  have hn80 : n ≤ 80 := rin.2.1.2.2.1
  -- the class's frame, the reference's frame
  have rk : ∀ (K3 : cp_K), KRX K2.1.1 K2.1.1 K2 K3 → (FJ K K3 ∧ K3.2.1 0 1 = 0 ∧ K3.2.1 23 4 = 0) ∧ (∀ q, rsz K3 q = rsz K1 q) ∧ 86 ≤ K3.1.1 := fun K3 a1 => by
    have j := FJ.krx a1 h86
    obtain ⟨b1, b2, b3, b4, b5, b6, b7⟩ := a1
    refine ⟨⟨fj2.trans j, ?_, ?_⟩, fun q => by rw [← zz]; unfold rsz; rw [b7], by omega⟩
    · rw [b4 0 (by omega) (by decide) 1 (Or.inl (by omega)), i2 0 (by decide)]; exact o4
    · rw [b4 23 (by omega) (by decide) 4 (Or.inl (by omega)), hK2, kI_i, va_up_at, va_up_at]
  have rs : ∀ (S3 : cp_S), RDF S1 S3 rf P → (S3.1 0 = 0 ∧ S3.1 1 = 0 ∧ S3.1 58 = 0 ∧ S3.1 60 = 0) ∧ S3.1 20 = nI rf ∧ FS rf P S S3 ∧ FG S S3 := fun S3 a => ⟨⟨(a.1 0 (by decide)).trans s1'.1, a.2.2.2.1.1, (a.1 58 (by decide)).trans ((s1 58 (by decide) (by decide)).trans h58), (a.1 60 (by decide)).trans s1'.2⟩, a.2.2.2.1.2, fs1.trans (FS.rdf (by omega) a), fg1.trans (FG.rdf a)⟩
  have mst : ∀ r S', (∃ r14 T13, MC 5 m_M_read [.int 218, .int 0, .int 0] S1 (some (.int r14)) T13 ∧ ∃ T16, MC 0 m_M_nothing [] T13 none T16 ∧ ∃ T18, MC 0 m_M_noNames [] T16 none T18 ∧ ((0 ≤ (r14 : Int32) → JJ 8 m_M_run (some (.int r)) S' 103 [(1, .int (nI c)), (2, .int (nI (c - 65))), (3, .int (nI rf)), (4, .int r14), (5, .int (T13.1 34))] (va_up T18.1 59 0, T18.2)) ∧ (¬ 0 ≤ (r14 : Int32) → ((¬ ((T13.1 34) : Int32) = T18.2 31 (c - 65) → JJ 8 m_M_run (some (.int r)) S' 103 [(1, .int (nI c)), (2, .int (nI (c - 65))), (3, .int (nI rf)), (4, .int r14), (5, .int (T13.1 34))] (va_up T18.1 59 0, T18.2)) ∧ (((T13.1 34) : Int32) = T18.2 31 (c - 65) → JJ 8 m_M_run (some (.int r)) S' 112 [(1, .int (nI c)), (2, .int (nI (c - 65))), (3, .int (nI rf)), (4, .int r14), (5, .int (T13.1 34)), (6, .int 1), (7, .int (nI rf)), (8, .int 0)] (va_up T18.1 59 0, T18.2)))))) → MC 8 m_M_run [.int (nI c)] S (some (.int r)) S' := fun r S' ⟨r14, T13, a1, T16, a2, T18, a3, a4, a5⟩ => by
    refine c_M_run (b_M_run_0 ⟨1, l2, fun q => absurd q (by decide), fun _ => ?_⟩)
    rw [l3, nI_clamp (by omega), h16]
    exact ⟨vi, fun _ => ⟨fun _ => ⟨r14, T13, by rw [← hS1]; exact a1, T16, a2, T18, a3, a4, fun q => ⟨vi, a5 q⟩⟩, fun q => absurd (by decide) q⟩, fun q => absurd q1 q⟩
  rcases read_terms_m (P := P) rin with ⟨K3, S3, p', r1, r2, r3, r4, r5, r6, r7⟩ | ⟨K3, S3, n1, m, r1, r2, r3, ⟨rn, rc, rm1, rm2, rq, r34⟩, r5, r6, r7, r8, r9, r10⟩
  · -- the text is no row of terms
    obtain ⟨⟨j3, c1, c23⟩, cz, -⟩ := rk K3 r5
    obtain ⟨⟨d0, d1, d58, d60⟩, d20, fs3, fg3⟩ := rs S3 r6
    obtain ⟨T5, T7, m1, m2, m3, m3', m4', m5⟩ := nn_m (S := S3)
    obtain ⟨S', hS'⟩ : ∃ S' : cp_S, S' = (va_up (va_up T7.1 59 0) 16 (nI rf), T7.2) := ⟨_, rfl⟩
    have s' : ∀ k, k ≠ 16 → k ≠ 59 → k ≠ 35 → k ≠ 40 → k ≠ 42 → S'.1 k = S3.1 k := fun k q1 q2 q3 q4 q5 => by rw [hS']; show va_up (va_up T7.1 59 0) 16 (nI rf) k = _; rw [cp_up_ne q1, cp_up_ne q2, m3 k q3 q4 q5]
    have s2' : S'.2 = T7.2 := by rw [hS']
    obtain ⟨i1, i2⟩ := INV.fg (c := 0 + 81) h (fk2.trans (FK.krx r5 r7)) j3 (fs3.trans (FS.of (fun k hk => s' k (by omega) (by omega) (by omega) (by omega) (by omega)) (fun p hp => by rw [s2', m4' p (by omega) (by omega)]))) (fg3.trans ⟨fun k hk => s' k (by omega) (by omega) (by omega) (by omega) (by omega), fun p hp => by rw [s2', m4' p (by omega) (by omega)]⟩) c1 ((s' 1 (by decide) (by decide) (by decide) (by decide) (by decide)).trans d1) (by rw [hS']; rfl) (c23.trans ((s' 60 (by decide) (by decide) (by decide) (by decide) (by decide)).trans d60).symm) ((s' 58 (by decide) (by decide) (by decide) (by decide) (by decide)).trans d58) ⟨by rw [cz, z7]; omega, by rw [cz]; exact z9, by rw [cz]; exact z11, 0, by omega, by unfold BS; rw [cz, cz, cz]; exact zB⟩
    have p0 : ¬ nI p' < 0 := nI_pos (by omega)
    have p0' : 0 ≤ nI p' := nI_le (a := 0) (by omega) (by omega)
    refine ⟨-1 - nI p', K3, S', c_P_run (D := 364) ⟨fun q => absurd (fl.symm.trans q) ne, fun _ => ?_⟩, mst _ _ ⟨nI p', S3, r4, T5, m1, T7, m2, fun _ => ?_, fun q => absurd p0' q⟩, i1, (s' 0 (by decide) (by decide) (by decide) (by decide) (by decide)).trans d0, i2.le (by omega)⟩
    · rw [fl]
      exact ⟨q2, fun _ => ⟨K1, o1.mono (by omega), 0, K3, by rw [← hK2]; exact r1.mono (by omega), fun q => absurd rfl q, fun _ => ⟨by rw [r2], rfl⟩⟩, fun q => absurd q q3⟩
    · have := run_b0 (S := (va_up T7.1 59 0, T7.2)) (x1 := nI c) (x2 := nI (c - 65)) (x3 := nI rf) (x4 := nI p') (x5 := S3.1 34)
      rw [if_neg p0] at this
      rw [hS']; exact this
  · obtain ⟨⟨j3, c1, c23⟩, cz, c86⟩ := rk K3 r5
    obtain ⟨⟨d0, d1, d58, d60⟩, d20, fs3, fg3⟩ := rs S3 r6
    obtain ⟨T5, T7, m1, m2, m3, m3', m4', m5⟩ := nn_m (S := S3)
    have fk3 : FK (0 + 81) K K3 := fk2.trans (FK.krx r5 r10)
    obtain ⟨T8, hT8⟩ : ∃ T8 : cp_S, T8 = (va_up T7.1 59 0, T7.2) := ⟨_, rfl⟩
    have t8 : ∀ k, k ≠ 59 → k ≠ 35 → k ≠ 40 → k ≠ 42 → T8.1 k = S3.1 k := fun k q2 q3 q4 q5 => by rw [hT8]; show va_up T7.1 59 0 k = _; rw [cp_up_ne q2, m3 k q3 q4 q5]
    have t82 : ∀ p, p ≠ 63 → p ≠ 64 → T8.2 p = S3.2 p := fun p a b => by rw [hT8]; exact m4' p a b
    have t8' : T8.1 35 = 0 ∧ T8.1 40 = 0 ∧ T8.1 42 = 0 ∧ T8.1 59 = 0 := by rw [hT8]; exact ⟨m3'.1, m3'.2.1, m3'.2.2, rfl⟩
    have fs8 : FS rf P S T8 := fs3.trans (FS.of (fun k hk => t8 k (by omega) (by omega) (by omega) (by omega)) (fun p hp => t82 p (by omega) (by omega)))
    have fg8 : FG S T8 := fg3.trans ⟨fun k hk => t8 k (by omega) (by omega) (by omega) (by omega), fun p hp => t82 p (by omega) (by omega)⟩
    have e31 : T8.2 31 (c - 65) = nI mm := by rw [fs8.2.1 31 (by omega) (by omega)]; exact q5
    have ent : K3.2.2.1 = K3.2.2.1 ∧ nd K3 (K.2.2.1 4 (c - 65)) 10 ∧ K3.2.1 (K.2.2.1 4 (c - 65)) 2 = nI mm := ⟨rfl, fk3.kfx.n q2, by rw [fk3.kfx.i q2]; exact q6⟩
    have kread : KC 371 m_Q_readTerms (fun G => [.ref (cp_b G + 21)]) (kI K1 23 4 0) (fun G => some (va_rf (kr G K2.1.1))) K3 := by rw [← hK2]; exact r1.mono (by omega)
    have q0 : ¬ K2.1.1 = 0 := by omega
    by_cases hmm : m = mm
    rotate_left
    · -- another number of terms
      have hne : ¬ nI m = nI mm := fun e => hmm ((nI_eq (by omega) (by omega)).mp e)
      obtain ⟨S', hS'⟩ : ∃ S' : cp_S, S' = (va_up T8.1 16 (nI rf), T8.2) := ⟨_, rfl⟩
      have s' : ∀ k, k ≠ 16 → S'.1 k = T8.1 k := fun k q1 => by rw [hS']; exact cp_up_ne q1
      have s2' : S'.2 = T8.2 := by rw [hS']
      obtain ⟨i1, i2⟩ := INV.fg h fk3 j3 (fs8.trans (by rw [hS']; exact FS.up (by decide))) (fg8.trans (by rw [hS']; exact FG.up (by decide))) c1 (((s' 1 (by decide)).trans (t8 1 (by decide) (by decide) (by decide) (by decide))).trans d1) (by rw [hS']; rfl) (c23.trans (((s' 60 (by decide)).trans (t8 60 (by decide) (by decide) (by decide) (by decide))).trans d60).symm) (((s' 58 (by decide)).trans (t8 58 (by decide) (by decide) (by decide) (by decide))).trans d58) ⟨by rw [cz, z7]; omega, by rw [cz]; exact z9, by rw [cz]; exact z11, 0, by omega, by unfold BS; rw [cz, cz, cz]; exact zB⟩
      refine ⟨-100, K3, S', c_P_run (D := 364) ⟨fun q => absurd (fl.symm.trans q) ne, fun _ => ?_⟩, mst _ _ ⟨-1, S3, r2, T5, m1, T7, m2, fun q => absurd q (by decide), fun _ => ⟨fun _ => ?_, fun q => ?_⟩⟩, i1, ((s' 0 (by decide)).trans (t8 0 (by decide) (by decide) (by decide) (by decide))).trans d0, i2.le (by omega)⟩
      · rw [fl]
        refine ⟨q2, fun _ => ⟨K1, o1.mono (by omega), K2.1.1, K3, kread, fun _ => ⟨rn, ent.2.1, fun q => ?_, fun _ => ⟨rfl, rfl⟩⟩, fun q => absurd q q0⟩, fun q => absurd q q3⟩
        rw [rc, ent.2.2] at q
        exact absurd q hne
      · have := run_b0 (S := T8) (x1 := nI c) (x2 := nI (c - 65)) (x3 := nI rf) (x4 := -1) (x5 := S3.1 34)
        rw [if_pos (by decide), t8'.2.2.2] at this
        rw [hS', ← hT8]; exact this
      · have e' : T7.2 31 (c - 65) = nI mm := by rw [hT8] at e31; exact e31
        rw [r34, e'] at q
        exact absurd q hne
    subst hmm
    have q34 : S3.1 34 = T7.2 31 (c - 65) := by rw [hT8] at e31; rw [r34]; exact e31.symm
    obtain ⟨⟨w1, w2'⟩, w3⟩ := r8
    obtain ⟨K4, hK4⟩ : ∃ K4, K4 = tbegin K3 0 := ⟨_, rfl⟩
    have fk34 : FK 0 K3 K4 := by rw [hK4]; exact tbg.1
    have i4 : ∀ p, p ≠ 24 → K4.2.1 p = K3.2.1 p := fun p hp => by rw [hK4]; exact tbg_i hp
    have w4 : K4.2.2 = K3.2.2 ∧ K4.1 = K3.1 := by rw [hK4]; exact ⟨rfl, rfl⟩
    have j34 : FJ K3 K4 := ⟨⟨by rw [i4 0 (by decide)], by rw [i4 0 (by decide)]⟩, i4 2 (by decide), by rw [w4.1]⟩
    have z4 : ∀ q, rsz K4 q = rsz K1 q := fun q => by rw [← cz]; unfold rsz; rw [w4.1]
    have fk4 : FK 81 K K4 := (fk3.trans fk34).le (by omega)
    obtain ⟨ar, ar1, ar2, ar3, ar4⟩ := h.dic (c := 81) (x := 0)
    have tst : TST ar rf (plx K4 T8 rf n1) 0 0 K4 T8 (fun _ _ => False) 0 0 [] 0 0 L0 := by
      refine tst_0 (np := n) (ar1 K4 T8 fk4 fs8) (by rw [z4]; exact z7) (by unfold BS; rw [z4, z4, z4]; exact zB) (by rw [z4]; exact z9) (by rw [z4]; exact z11) t8'.1 t8'.2.1 t8'.2.2.1 (fun c hc => by rw [hT8]; exact (m5 c hc).2) ((t8 20 (by decide) (by decide) (by decide) (by decide)).trans d20) (by rw [hK4]; exact tbg_4.2) ⟨fun _ => (t8 58 (by decide) (by decide) (by decide) (by decide)).trans d58, fun _ => by rw [hK4]; exact tbg_4.1⟩ ?_ (by omega) (by omega) (by omega)
      unfold PLI
      rw [t82 42 (by decide) (by decide)]
      exact r9
    have nk : NK K3 K4 := ⟨fun q k hq => by rw [i4 q (by omega)], by rw [w4.1], fun q c hq => ⟨hq.1, by rw [w4.2]; exact hq.2.1, by rw [w4.2]; exact hq.2.2⟩⟩
    have chn : CHN (TR K4 T8.2 (plx K4 T8 rf n1) 8) K4 m (K2.1.1 + 1) rf n1 := by
      refine CHN_nk nk (fun q i j t => TR.nk nk (t82 39 (by decide) (by decide)) (t82 40 (by decide) (by decide)) (t82 41 (by decide) (by decide)) _ _ _ _ t) m _ _ _ (RCH.chn (R' := TR K3 S3.2 (plx K4 T8 rf n1) 8) (RTR.lt 8) m _ _ _ _ _ r3 (fun q' i' j' a' e1 e2 e3 => ⟨RTR.nd e3, RTR.tr 8 _ _ _ _ e3 (fun q2 i2 f1 f2 f3 f4 => ⟨by omega, by omega, f3, ?_⟩)⟩))
      rw [i4 q2 (by omega), t82 42 (by decide) (by decide)]
      exact f4
    have eI : gI T8.2 = gI S3.2 := by unfold gI; rw [t82 39 (by decide) (by decide), t82 41 (by decide) (by decide)]
    have hI : n = 0 + (n1 - rf) + 2 * (gI T8.2 n1 - gI T8.2 rf) := by rw [eI]; exact w2'
    have hH : gH T8.2 n1 = gH T8.2 rf := gH_0 n1 w1 (fun x x1 x2 => by rw [t82 39 (by decide) (by decide)]; exact w3 rfl x x1 x2)
    have s60 : K4.2.1 23 4 = T8.1 60 := by rw [i4 23 (by decide), c23, t8 60 (by decide) (by decide) (by decide) (by decide), d60]
    have k04 : K4.2.1 0 1 = 0 := by rw [i4 0 (by decide)]; exact c1
    have q4 : (tbegin K3 0).2.2.1 K2.1.1 4 = K2.1.1 + 1 := by rw [← hK4, w4.1]; exact rq
    -- what is left as it was
    have base : ∀ (K' : cp_K) (S' : cp_S), KX K4 K' → SX 1 T8 S' → FK 81 K K' ∧ FJ K K' ∧ FS rf P S S' ∧ FG S S' ∧ K'.2.1 0 1 = 0 ∧ (S'.1 0 = 0 ∧ S'.1 1 = 0 ∧ S'.1 58 = 0) := fun K' S' kx sx => by
      have t : ∀ k, k ∉ ([35, 40, 42, 44, 59, 60, 61, 62, 63, 64, 70] : List Nat) → S'.1 k = S3.1 k := fun k hk => (sx.1 k hk).trans (t8 k (fun e => hk (by rw [e]; decide)) (fun e => hk (by rw [e]; decide)) (fun e => hk (by rw [e]; decide)) (fun e => hk (by rw [e]; decide)))
      exact ⟨(fk4.trans (FK.kx kx)).le (by omega), (j3.trans j34).trans (FJ.kx kx), fs8.trans (FS.sx sx), fg8.trans (FG.sx sx), by rw [kx.i (by decide) (by decide)]; exact k04, (t 0 (by decide)).trans d0, (t 1 (by decide)).trans d1, (t 58 (by decide)).trans d58⟩
    have kcl : ∀ r K', (∃ r11 T9, KC 371 m_T_wrongInArguments (fun G => [.ref (cp_b G + 24), va_rf (kr G K2.1.1)]) K3 (fun _ => some (.int r11)) T9 ∧ (((r11 : Int32) = (-1) → ∃ r14 T12, KC 371 m_U_carryOut (fun G => [.ref (cp_b G + 23), .int (nI c), .int 0]) T9 (fun _ => some (.int r14)) T12 ∧ ((¬ (r14 : Int32) = (-1) → ∃ r17 T15, KC 371 m_P_show (fun G => [.ref (cp_b G + 0), .int r14]) T12 (fun _ => some (.int r17)) T15 ∧ (((r17 : Int32) = 0 → (r = -200 ∧ K' = T15)) ∧ (¬ (r17 : Int32) = 0 → (r = T15.2.1 0 3 ∧ K' = T15)))) ∧ ((r14 : Int32) = (-1) → (r = -300 ∧ K' = T12)))) ∧ (¬ (r11 : Int32) = (-1) → (r = -100 - r11 ∧ K' = T9)))) → KC 372 m_P_run (fun G => [.ref (cp_b G + 0), .int (nI c)]) K (fun _ => some (.int r)) K' := fun r K' ⟨r11, T9, a1, a2, a3⟩ => by
      refine c_P_run (D := 364) ⟨fun q => absurd (fl.symm.trans q) ne, fun _ => ?_⟩
      rw [fl]
      refine ⟨q2, fun _ => ⟨K1, o1.mono (by omega), K2.1.1, K3, kread, fun _ => ⟨rn, ent.2.1, fun _ => ⟨r11, T9, a1, fun e => ?_, fun e => ?_⟩, fun q => absurd ?_ q⟩, fun q => absurd q q0⟩, fun q => absurd q q3⟩
      · obtain ⟨r14, T12, b1, b2, b3⟩ := a2 e
        refine ⟨r14, T12, b1, fun e => ?_, fun e => ?_⟩
        · obtain ⟨r17, T15, d1, d2, d3⟩ := b2 e
          exact ⟨r17, T15, d1, fun e => ⟨by rw [(d2 e).1], (d2 e).2⟩, fun e => ⟨by rw [(d3 e).1], (d3 e).2⟩⟩
        · exact ⟨by rw [(b3 e).1], (b3 e).2⟩
      · exact ⟨by rw [(a3 e).1], (a3 e).2⟩
      · rw [rc, ent.2.2]
    rcases wargs (p1 := K2.1.1) (x1 := nI c) (x2 := nI (c - 65)) (x3 := nI rf) (by omega) (by omega) rm2 m (K2.1.1 + 1) 0 rf 0 K4 T8 _ 0 0 tst (by omega) chn hH (by omega) ⟨Nat.le_refl _, Nat.le_refl _, by omega⟩ (by rw [z4, z7]; omega) with ⟨K5, S5, a1, a2, a3, a4, a5, a6, a7, a8⟩ | ⟨K5, S5, ρ5, nv5, nc5, a1, a2, a3, a4, a5, a6⟩
    · -- a term is wrong
      obtain ⟨b1, b2, b3, b4, b5, b6, b7, b8⟩ := base K5 S5 a3 a4
      obtain ⟨S', hS'⟩ : ∃ S' : cp_S, S' = (va_up S5.1 16 (nI rf), S5.2) := ⟨_, rfl⟩
      have s' : ∀ k, k ≠ 16 → S'.1 k = S5.1 k := fun k q1 => by rw [hS']; exact cp_up_ne q1
      obtain ⟨i1, i2⟩ := INV.fg h b1 b2 (b3.trans (by rw [hS']; exact FS.up (by decide))) (b4.trans (by rw [hS']; exact FG.up (by decide))) b5 ((s' 1 (by decide)).trans b7) (by rw [hS']; rfl) ((a5 s60).trans (s' 60 (by decide)).symm) ((s' 58 (by decide)).trans b8) ⟨by have := a8.1; omega, a8.2.1, a8.2.2.1, a8.2.2.2⟩
      obtain ⟨w, ww1, ww2⟩ := a7
      refine ⟨-100 - S5.1 59, K5, S', kcl _ _ ⟨K5.2.1 24 6, K5, c_T_wrongInArguments (D := 363) ⟨Or.inl rfl, rn, by rw [q4, ← hK4]; exact a1⟩, fun q => ?_, fun _ => ⟨by rw [a6], rfl⟩⟩, mst _ _ ⟨-1, S3, r2, T5, m1, T7, m2, fun q => absurd q (by decide), fun _ => ⟨fun q => absurd q34 q, fun _ => ?_⟩⟩, i1, (s' 0 (by decide)).trans b6, i2.le (by omega)⟩
      · rw [← a6, ww2] at q
        exact absurd q (nI_m1 (by omega))
      · rw [hS', r34, ← hT8]; exact a2
    · obtain ⟨u1, u2, u3, u4, u5⟩ := a6
      have tst5 := tst.mv a3 (Nat.le_refl _) rfl (Nat.zero_le _)
      have kx5 := a3.2.2.2.2.1
      have sx5 := a3.2.2.2.2.2.1
      have chn5 : CHN (TR K5 S5.2 (plx K4 T8 rf n1) 8) K5 m (K2.1.1 + 1) rf n1 := CHN_nk kx5.nk (fun q i j t => TR.nk kx5.nk (sx5.bk 39 (by omega)) (sx5.bk 40 (by omega)) (sx5.bk 41 (by omega)) _ _ _ _ t) m _ _ _ chn
      obtain ⟨S6, ρ6, nv6, nc6, e1, e2, e3, e4, e5, e6, e7⟩ := vargs (x1 := nI c) (x2 := nI (c - 65)) (x3 := nI rf) (x4 := -1) (by omega) rm2 K5 m (K2.1.1 + 1) 0 rf S5 ρ5 nv5 nc5 tst5 (by omega) chn5 a4 a5 (fun x hx => absurd hx (by omega)) (by omega) (by omega) (by omega)
      have kx6 := e2.2.2.2.2.1
      have sx6 := e2.2.2.2.2.2.1
      obtain ⟨b1, b2, b3, b4, b5, b6, b7, b8⟩ := base K5 S6 kx5 (sx5.trans sx6 (Nat.le_refl _))
      obtain ⟨⟨V6, hh6, hA6⟩, ⟨h35, h40⟩, h9, h11⟩ := e2.1.1
      have s606 : K5.2.1 23 4 = S6.1 60 := e2.2.2.2.1.1 (a3.2.2.2.1.1 s60)
      obtain ⟨S7, hS7⟩ : ∃ S7 : cp_S, S7 = (va_up S6.1 16 (nI rf), S6.2) := ⟨_, rfl⟩
      have s7 : ∀ k, k ≠ 16 → S7.1 k = S6.1 k := fun k q1 => by rw [hS7]; exact cp_up_ne q1
      have s72 : S7.2 = S6.2 := by rw [hS7]
      have fs7 : FS rf P S S7 := b3.trans (by rw [hS7]; exact FS.up (by decide))
      have fg7 : FG S S7 := b4.trans (by rw [hS7]; exact FG.up (by decide))
      have hB6 := e2.2.2.2.2.2.2.1
      obtain ⟨x, z, K6, S8, ρ8, nv8, nc8, w', g1, g2, ⟨⟨V8, A8, hρ⟩, ⟨kf8, bs8, -, z8a, z8b, -⟩, ⟨s35, s40, s860⟩, ⟨w100, -, -, -, -, y9, y11⟩, ⟨sc8, ar8⟩, -, -⟩, g4⟩ := run_m (K := K5) (S := S7) (n := 0) (c := c - 65) (m := m) (by rw [s72]; exact V6) hh6 hA6 (by rw [s7 35 (by decide)]; exact h35) (by rw [s7 40 (by decide)]; exact h40) (by rw [Nat.zero_add]; exact hB6) (by omega) (by omega) (by omega) (by rw [z4, z7] at u5; omega) h9 h11 (ar1 K5 S7 b1 fs7).1 hl26 (by rw [fs7.2.1 30 (by omega) (by omega)]; exact q1) (by rw [fs7.2.1 31 (by omega) (by omega)]; exact q5) m4 (fun x hx => by rw [s72]; exact e3 x hx)
      have e65 : nI (65 + (c - 65)) = nI c := by congr 1; omega
      rw [e65] at g1
      have fk8 : FK 81 K K6 := (b1.trans (((FK.kI (K := K5) (p := 23) (by omega)).trans (FK.kI (p := 23) (by omega))).trans (FK.kf kf8))).le (by omega)
      have fj8 : FJ K K6 := b2.trans (((FJ.kI (K := K5) (p := 23) (by decide)).trans (FJ.kI (p := 23) (by decide))).trans (FJ.kf kf8))
      have fs8' : FS rf P S S8 := fs7.trans (FS.of (fun k hk => sc8 k (by simp only [List.mem_cons, List.not_mem_nil, or_false]; omega)) (fun p hp => ar8 p (by omega)))
      have fg8' : FG S S8 := fg7.trans ⟨fun k hk => sc8 k (by simp only [List.mem_cons, List.not_mem_nil, or_false]; omega), fun p hp => ar8 p (by omega)⟩
      have k8 : K6.2.1 0 1 = 0 ∧ K6.2.1 23 4 = S8.1 60 := by
        rw [kf8.1]
        refine ⟨?_, ?_⟩
        · rw [kI_i, cp_up_ne (by decide), kI_i, cp_up_ne (by decide)]; exact b5
        · rw [kI_i, va_up_at, va_up_at, s860, s606, s7 60 (by decide)]
      have s8 : S8.1 0 = 0 ∧ S8.1 1 = 0 ∧ S8.1 58 = 0 ∧ S8.1 16 = nI rf := ⟨by rw [sc8 0 (by decide), s7 0 (by decide)]; exact b6, by rw [sc8 1 (by decide), s7 1 (by decide)]; exact b7, by rw [sc8 58 (by decide), s7 58 (by decide)]; exact b8, by rw [sc8 16 (by decide), hS7]; rfl⟩
      have vN := V8.2.2.2.2.2.2.2
      have kwr : KC 371 m_T_wrongInArguments (fun G => [.ref (cp_b G + 24), va_rf (kr G K2.1.1)]) K3 (fun _ => some (.int (-1))) K5 := c_T_wrongInArguments (D := 363) ⟨Or.inl rfl, rn, by rw [q4, ← hK4]; exact a1⟩
      have mcl : ∀ r S', (∀ x7 x8, JJ 8 m_M_run (some (.int r)) S' 211 (LR (nI c) (nI (c - 65)) (nI rf) (-1) m 1 x7 x8) S6) → MC 8 m_M_run [.int (nI c)] S (some (.int r)) S' := fun r S' w => mst _ _ ⟨-1, S3, r2, T5, m1, T7, m2, fun q => absurd q (by decide), fun _ => ⟨fun q => absurd q34 q, fun _ => by
        rw [r34, ← hT8]
        exact a2 _ _ (fun x7 x8 => b_M_run_165 (e1 _ _ w))⟩⟩
      rcases g4 with ⟨rfl, rfl⟩ | ⟨v, r, rfl, rfl, g5⟩
      · -- the run fails
        obtain ⟨i1, i2⟩ := INV.fg h fk8 fj8 fs8' fg8' k8.1 s8.2.1 s8.2.2.2 k8.2 s8.2.2.1 ⟨vN, y9, y11, 0, by omega, bs8⟩
        refine ⟨-300, K6, S8, kcl _ _ ⟨-1, K5, kwr, fun _ => ⟨-1, K6, g1.mono (by omega), fun q => absurd rfl q, fun _ => ⟨rfl, rfl⟩⟩, fun q => absurd rfl q⟩, mcl _ _ (fun x7 x8 => b_M_run_211 ⟨fun _ => ⟨-1, S8, by rw [← hS7]; exact g2, fun q => absurd rfl q, fun _ => ⟨fun q => absurd q (by decide), fun _ => ⟨rfl, rfl⟩⟩⟩, fun q => absurd q (by decide)⟩), i1, s8.1, i2.le (by omega)⟩
      · have v31 : v < 2 ^ 31 := by have := (V8.1.1 _ _ g5).1; omega
        have r31 : r < 2 ^ 31 := by have := (V8.1.1 _ _ g5).2.1; have := V8.2.2.2.2.2.1; omega
        have h5 : ∀ v r, ρ8 v r → ¬ rat K6 7 v = 5 := fun v r q e => by
          have := A8.2 v r q e
          omega
        rcases draw_m V8 h5 g5 (K := K6) (S := S8) rfl rfl (fun _ _ _ => rfl) y9 with ⟨K9, S9, nn', mr, nn1, nn2, f1, f2, f3, f4, f5, f6, f7⟩ | ⟨K9, S9, f1, f2, f3, f4, f5⟩
        · have hz9 : rsz K9 7 ≤ 1048576 ∧ rsz K9 9 < 16000 ∧ rsz K9 11 < 16000 ∧ ∃ n, n ≤ 10000 ∧ BS K9 n := by
            refine ⟨by rw [(f3.2.2.1 7 (by decide)).1]; exact vN, by omega, by rw [(f3.2.2.1 11 (by decide)).1]; exact y11, 0, by omega, ?_⟩
            unfold BS
            rw [(f3.2.2.1 15 (by decide)).1, (f3.2.2.1 17 (by decide)).1, (f3.2.2.1 19 (by decide)).1]
            exact bs8
          obtain ⟨K', S', x1, x2, x3, x4, x5, x6⟩ := shown h f1 nn2 f5 (fk8.trans (FK.wf f3)) (fj8.trans (FJ.wf f3)) (fs8'.trans (FS.fdr f4)) (fg8'.trans (FG.fdr f4)) (by rw [f3.1 0 1 (by decide) (by decide)]; exact k8.1) (by rw [f4.1 1 (by decide) (by decide)]; exact s8.2.1) (by rw [f4.1 16 (by decide) (by decide)]; exact s8.2.2.2) (by rw [f3.1 23 4 (by decide) (by decide), f4.1 60 (by decide) (by decide)]; exact k8.2) (by rw [f4.1 58 (by decide) (by decide)]; exact s8.2.2.1) (by rw [f4.1 0 (by decide) (by decide)]; exact s8.1) hz9
          refine ⟨nI nn', K', S', kcl _ _ ⟨-1, K5, kwr, fun _ => ⟨nI v, K6, g1.mono (by omega), fun _ => ⟨1, K', x1.mono (by omega), fun q => absurd q (by decide), fun _ => ⟨x2.symm, rfl⟩⟩, fun q => absurd q (nI_m1 v31)⟩, fun q => absurd rfl q⟩, mcl _ _ (fun x7 x8 => b_M_run_211 ⟨fun _ => ⟨nI r, S8, by rw [← hS7]; exact g2, fun _ => ⟨nI nn', S9, f2, fun _ => ⟨nI nn', S', x3, rfl, rfl⟩, fun q => absurd (nI_le (a := 0) (by omega) (by omega)) q⟩, fun q => absurd q (nI_m1 r31)⟩, fun q => absurd q (by decide)⟩), x4, x5, x6.le (by omega)⟩
        · have hz9 : rsz K9 7 ≤ 1048576 ∧ rsz K9 9 < 16000 ∧ rsz K9 11 < 16000 ∧ ∃ n, n ≤ 10000 ∧ BS K9 n := by
            refine ⟨by rw [(f3.2.2.1 7 (by decide)).1]; exact vN, by omega, by rw [(f3.2.2.1 11 (by decide)).1]; exact y11, 0, by omega, ?_⟩
            unfold BS
            rw [(f3.2.2.1 15 (by decide)).1, (f3.2.2.1 17 (by decide)).1, (f3.2.2.1 19 (by decide)).1]
            exact bs8
          obtain ⟨i1, i2⟩ := INV.fg h (fk8.trans (FK.wf f3)) (fj8.trans (FJ.wf f3)) (fs8'.trans (FS.fdr f4)) (fg8'.trans (FG.fdr f4)) (by rw [f3.1 0 1 (by decide) (by decide)]; exact k8.1) (by rw [f4.1 1 (by decide) (by decide)]; exact s8.2.1) (by rw [f4.1 16 (by decide) (by decide)]; exact s8.2.2.2) (by rw [f3.1 23 4 (by decide) (by decide), f4.1 60 (by decide) (by decide)]; exact k8.2) (by rw [f4.1 58 (by decide) (by decide)]; exact s8.2.2.1) hz9
          have kshow : KC 371 m_P_show (fun G => [.ref (cp_b G + 0), .int (nI v)]) K6 (fun _ => some (.int 0)) K9 := (c_P_show (D := 4) ⟨nI 101, K9, f1.mono (by omega), fun q => absurd q (by decide), fun _ => ⟨rfl, rfl⟩⟩).mono (by omega)
          refine ⟨-200, K9, S9, kcl _ _ ⟨-1, K5, kwr, fun _ => ⟨nI v, K6, g1.mono (by omega), fun _ => ⟨0, K9, kshow, fun _ => ⟨rfl, rfl⟩, fun q => absurd rfl q⟩, fun q => absurd q (nI_m1 v31)⟩, fun q => absurd rfl q⟩, mcl _ _ (fun x7 x8 => b_M_run_211 ⟨fun _ => ⟨nI r, S8, by rw [← hS7]; exact g2, fun _ => ⟨-200, S9, f2, fun q => absurd q (by decide), fun _ => ⟨rfl, rfl⟩⟩, fun q => absurd q (nI_m1 r31)⟩, fun q => absurd q (by decide)⟩), i1, by rw [f4.1 0 (by decide) (by decide)]; exact s8.1, i2.le (by omega)⟩
end CPFS
