/-! ===== the face: program, both at once ===== -/
section CPHQ
variable {K K1 K2 K0 K' : cp_K} {S S1 S0 S' : cp_S} {Ls : List Nat} {rf P : Nat}
theorem f_program (h : INV K S Ls rf P) {c : Nat} (hc : c < 65536) :
    (∃ ci x S', KT 372 m_P_program (fun G => [.ref (cp_b G + 0), .int (nI c)]) K ci K.1.1 (kN K 99) ∧ MC 6 m_M_program [.int (nI c)] S (some (.int 0)) S' ∧ INV K S' Ls rf P ∧ S'.1 0 = x ∧ ((ci = 12 ∧ x = 1) ∨ (ci = 13 ∧ x = 2))) ∨
    ∃ r K' S' Ls' rf' P', KC 372 m_P_program (fun G => [.ref (cp_b G + 0), .int (nI c)]) K (fun _ => some (.int r)) K' ∧ MC 6 m_M_program [.int (nI c)] S (some (.int r)) S' ∧ INV K' S' Ls' rf' P' ∧ S'.1 0 = 0 ∧ GRW 100 K K' := by
  have h26 := h.rf26
  rcases refuse_m h hc with ⟨a1, a2, a3⟩ | ⟨a1, a2, a3, a4⟩ | ⟨a1, ⟨a2, a3, a4⟩, a5, a6⟩
  · exact Or.inl ⟨12, 1, _, t_P_program (D := 364) (Or.inr ⟨12, K.1.1, kN K 99, KT.mono a2 (by omega), rfl, rfl⟩), c_M_program (b_M_program_0 ⟨0, _, a3, fun q => absurd rfl q, fun _ => ⟨rfl, rfl⟩⟩), h.f0 (x := 1), rfl, Or.inl ⟨rfl, rfl⟩⟩
  · exact Or.inl ⟨13, 2, _, t_P_program (D := 364) (Or.inr ⟨13, K.1.1, kN K 99, KT.mono a3 (by omega), rfl, rfl⟩), c_M_program (b_M_program_0 ⟨0, _, a4, fun q => absurd rfl q, fun _ => ⟨rfl, rfl⟩⟩), h.f0 (x := 2), rfl, Or.inr ⟨rfl, rfl⟩⟩
  refine Or.inr ?_
  obtain ⟨S1, hS1⟩ : ∃ S1 : cp_S, S1 = (va_up S.1 0 0, S.2) := ⟨_, rfl⟩
  rw [← hS1] at a6
  have s1 : ∀ k, k ≠ 0 → S1.1 k = S.1 k := fun k hk => by rw [hS1]; exact cp_up_ne hk
  have s10 : S1.1 0 = 0 := by rw [hS1]; rfl
  have s2 : S1.2 = S.2 := by rw [hS1]
  obtain ⟨l, hl⟩ : ∃ l, l = c - 65 := ⟨_, rfl⟩
  rw [← hl] at a2 a3 a4
  have l26 : l < 26 := by omega
  have ec : nI c = nI (65 + l) := by congr 1; omega
  have ecl : nI c - 65 = nI l := by
    rw [ec]
    have := pk_sub (a := 65 + l) (b := 65) (by omega)
    rw [show 65 + l - 65 = l by omega] at this
    exact this
  have hlen := h.len l26 a4
  have ha86 : 86 ≤ K.1.1 := h.2.2.2.2.2.2.2.2
  have h16 : S1.1 16 = nI rf := (s1 16 (by decide)).trans h.2.2.1.2.2.1.1
  have h23 : S1.1 23 = nI P := (s1 23 (by decide)).trans h.2.2.1.2.2.1.2
  have h58 : S1.1 58 = 0 := (s1 58 (by decide)).trans h.2.2.2.2.2.1.2
  have fs1 : FS rf P S S1 := FS.of (fun k hk => s1 k (by omega)) (fun p _ => by rw [s2])
  have fg1 : FG S S1 := ⟨fun k hk => s1 k (by omega), fun p _ => by rw [s2]⟩
  obtain ⟨K1, tx, n, o1, ⟨fk1, fj1⟩, o4, ⟨z7, zB, z9, z11⟩, ⟨o9, o10⟩, o11⟩ := open_m h
  have h86 : 86 ≤ K1.1.1 := by rw [o10]; exact ha86
  have rin : RIN tx n rf K1 S1 := o11 K1 S1 rfl rfl rfl rfl (s1 1 (by decide)) (s1 16 (by decide)) (by rw [s2])
  have hn80 : n ≤ 80 := rin.2.1.2.2.1
  have rk : ∀ (K3 : cp_K), KRX K1.1.1 K1.1.1 K1 K3 → (FJ K K3 ∧ K3.2.1 0 1 = 0 ∧ K3.2.1 23 4 = S1.1 60) ∧ (∀ q, rsz K3 q = rsz K1 q) ∧ 86 ≤ K3.1.1 := fun K3 b => by
    have j := FJ.krx b h86
    obtain ⟨b1, b2, b3, b4, b5, b6, b7⟩ := b
    refine ⟨⟨fj1.trans j, ?_, ?_⟩, fun q => by unfold rsz; rw [b7], by omega⟩
    · rw [b4 0 (by omega) (by decide) 1 (Or.inl (by omega))]; exact o4
    · rw [b4 23 (by omega) (by decide) 4 (Or.inl (by omega)), o9, s1 60 (by decide)]; exact h.2.2.2.2.1
  have rs : ∀ (S3 : cp_S), RDF S1 S3 rf P → (S3.1 0 = 0 ∧ S3.1 1 = 0 ∧ S3.1 58 = 0 ∧ S3.1 60 = S1.1 60 ∧ S3.1 23 = nI P ∧ S3.1 14 = nI Ls.length) ∧ S3.1 20 = nI rf ∧ FS rf P S S3 ∧ FG S S3 := fun S3 a => ⟨⟨(a.1 0 (by decide)).trans s10, a.2.2.2.1.1, (a.1 58 (by decide)).trans h58, a.1 60 (by decide), (a.1 23 (by decide)).trans h23, (a.1 14 (by decide)).trans ((s1 14 (by decide)).trans h.2.2.1.2.2.2.1.2)⟩, a.2.2.2.1.2, fs1.trans (FS.rdf (by omega) a), fg1.trans (FG.rdf a)⟩
  rcases read_prog_m (P := P) rin with ⟨K3, S3, p', r1, r2, r3, r4, r5, r6, r7⟩ | ⟨K3, S3, n1, z, ps, r1, r2, ⟨rp1, rp4, r34, r71⟩, ⟨rn, rc, rp, rz⟩, rcd, r5, r6, r7, r9, rnn, r10⟩
  · -- the text is no program
    obtain ⟨⟨j3, c1, c23⟩, cz, -⟩ := rk K3 r5
    obtain ⟨⟨d0, d1, d58, d60, d23, d14⟩, d20, fs3, fg3⟩ := rs S3 r6
    obtain ⟨S', hS'⟩ : ∃ S' : cp_S, S' = (va_up S3.1 16 (nI rf), S3.2) := ⟨_, rfl⟩
    have s' : ∀ k, k ≠ 16 → S'.1 k = S3.1 k := fun k q1 => by rw [hS']; exact cp_up_ne q1
    obtain ⟨i1, i2⟩ := INV.fg h (fk1.trans (FK.krx r5 r7)) j3 (fs3.trans (by rw [hS']; exact FS.up (by decide))) (fg3.trans (by rw [hS']; exact FG.up (by decide))) c1 ((s' 1 (by decide)).trans d1) (by rw [hS']; rfl) (c23.trans ((s' 60 (by decide)).trans d60).symm) ((s' 58 (by decide)).trans d58) ⟨by rw [cz, z7]; omega, by rw [cz]; exact z9, by rw [cz]; exact z11, 0, by omega, by unfold BS; rw [cz, cz, cz]; exact zB⟩
    have p0 : ¬ nI p' < 0 := nI_pos (by omega)
    have p0' : 0 ≤ nI p' := nI_le (a := 0) (by omega) (by omega)
    refine ⟨-1 - nI p', K3, S', Ls, rf, P, c_P_program (D := 364) (Or.inl ⟨K, a5.mono (by omega), K1, o1.mono (by omega), 0, K3, r1.mono (by omega), fun q => absurd rfl q, fun _ => ⟨by rw [r2], rfl⟩⟩), c_M_program (b_M_program_0 ⟨1, S1, a6, fun _ => ⟨nI p', S3, r4, fun _ => b_M_program_53 ⟨fun q => absurd q p0, fun _ => ⟨rfl, by rw [h16]; exact hS'⟩⟩, fun q => absurd p0' q⟩, fun q => absurd q (by decide)⟩), i1, (s' 0 (by decide)).trans d0, i2.le (by omega)⟩
  · obtain ⟨⟨j3, c1, c23⟩, cz, c86⟩ := rk K3 r5
    obtain ⟨⟨d0, d1, d58, d60, d23, d14⟩, d20, fs3, fg3⟩ := rs S3 r6
    have fk3 : FK (0 + 90) K K3 := fk1.trans (FK.krx r5 r10)
    have q0 : ¬ K1.1.1 = 0 := by omega
    have rlt := RCD.lt _ _ _ _ _ _ rcd
    -- the entry
    have kin := einit_p (K := K3) (p3 := K1.1.1) (l := l) (n := ps.length) rn l26 rc c86
    obtain ⟨Ke, hKe⟩ : ∃ Ke, Ke = EI K3 (nI (65 + l)) 1 (nI ps.length) 0 K1.1.1 := ⟨_, rfl⟩
    obtain ⟨f1, f2, f3, f4, ⟨f5, f6, f7, f8⟩, f9⟩ : Ke.1 = (K3.1.1 + 1, va_up K3.1.2 K3.1.1 10) ∧ Ke.2.2.2 = K3.2.2.2 ∧ (∀ p, p ≠ K3.1.1 → Ke.2.1 p = K3.2.1 p) ∧ (∀ p, p ≠ K3.1.1 → Ke.2.2.1 p = K3.2.2.1 p) ∧ (Ke.2.1 K3.1.1 0 = nI (65 + l) ∧ Ke.2.1 K3.1.1 1 = 1 ∧ Ke.2.1 K3.1.1 2 = nI ps.length ∧ Ke.2.1 K3.1.1 3 = 0) ∧ Ke.2.2.1 K3.1.1 4 = K1.1.1 := by rw [hKe]; exact EI_at
    rw [← hKe] at kin
    have ke1 : Ke.1.1 = K3.1.1 + 1 := by rw [f1]
    have fke : FK 1 K3 Ke := by
      refine ⟨fun p p1 _ _ _ _ _ _ _ => f3 p (by omega), fun p p1 _ _ => f4 p (by omega), fun p p1 => by rw [f1]; exact cp_up_ne (by omega), by omega, fun k => ⟨fun r hr => ?_, ?_⟩⟩
      · have := k r hr
        unfold rcap at this ⊢
        rw [f2]; exact this
      · unfold k_caps
        rw [f2, ke1]; omega
    have fje : FJ K3 Ke := ⟨⟨by rw [f3 0 (by omega)], by rw [f3 0 (by omega)]⟩, f3 2 (by omega), by rw [f4 0 (by omega)]⟩
    have fk0e : FK 91 K Ke := (fk3.trans fke).le (by omega)
    have npe : nd Ke K3.1.1 10 := ⟨c86, by omega, by rw [f1]; exact va_up_at⟩
    have ntr : nd Ke K1.1.1 9 := fke.kfx.n rn
    have trl := rn.2.1
    have et5 : Ke.2.2.1 K1.1.1 5 = z := by rw [f4 _ (by omega)]; exact rz
    have et4 : Ke.2.2.1 K1.1.1 4 = K3.2.2.1 K1.1.1 4 := by rw [f4 _ (by omega)]
    have rcde : RCD Ke S3.2 rf 12 z rf n1 (K1.1.1 + 1 + ps.length) K3.1.1 := by
      refine RCD.loc (by omega) 12 z rf n1 _ _ rcd (fun x x1 x2 => ⟨fun f => by rw [f3 x (by omega)], by rw [f1]; exact cp_up_ne (by omega), by rw [f4 x (by omega)], by rw [f4 x (by omega)]⟩) (fun x x1 x2 _ => by rw [f4 x (by omega)]) (fun x _ _ => ⟨rfl, rfl, rfl, rfl⟩)
    have pche : PCH Ke ps (K3.2.2.1 K1.1.1 4) z := PCH.ft fke.kfx _ _ _ rp
    obtain ⟨ar, ar1, ar2, ar3, ar4⟩ := h.dic (c := 91) (x := 0)
    have cx : ICX Ke S3.2 ar l ps.length K3.1.1 := ⟨(ar1 Ke S3 fk0e fs3).2, npe, f5, f7, l26, rp4⟩
    have ze : ∀ q, rsz Ke q = rsz K1 q := fun q => by rw [← cz]; unfold rsz; rw [f2]
    have ist0 : IST Ke Ke 0 (fun _ => False) := ⟨KF.refl, by unfold BS; rw [ze, ze, ze]; exact zB, fun c _ => ⟨fun e => e.elim, fun ⟨x, x1, _⟩ => absurd x1 (by omega)⟩⟩
    obtain ⟨Kp, sc1, g1, g2, g3⟩ := wip_lp (D := 39) npe f9 ntr et5 ps _ 0 Ke _ pche ist0 (by omega)
    rw [Nat.zero_add] at g1
    have z0 : ¬ z = 0 := by have := (RCD.nd rcd).1; omega
    have invs : INVS S3.2 ps.length rf rf n1 (fun c => c ∈ ps) := by
      refine ⟨fun p m e q1 q2 => absurd q1 (by omega), fun c hc => ⟨fun hm => Or.inl ?_, fun e => ?_⟩⟩
      · obtain ⟨i, hi, e⟩ := List.getElem_of_mem hm
        exact ⟨i, hi, by rw [r71 i hi, e]⟩
      · rcases e with ⟨k, k1, k2⟩ | ⟨p, m, e, q1, q2, -⟩
        · rw [r71 k k1] at k2
          have hlt : ps[k] < 26 := PCH_26 ps _ _ rp _ (List.getElem_mem k1)
          have := (nI_eq (by omega) (by omega)).mp k2
          rw [← this]
          exact List.getElem_mem k1
        · exact absurd q1 (by omega)
    have g1' : IST Ke Kp ps.length (fun c => c ∈ ps) := ⟨g1.1, g1.2.1, fun c hc => by
      rw [← g1.2.2 c hc, g2 c hc]
      exact ⟨Or.inr, fun e => e.elim (fun e => e.elim) id⟩⟩
    obtain ⟨r, K5, k1, k2, k3⟩ := wrg_all (start := rf) (rf := rf) cx 12 z rf n1 Kp ps.length _ ⟨_, _, rcde⟩ (Nat.le_refl _) g1' (by omega) invs (fun y y1 y2 => by
      obtain ⟨w, w1, w2⟩ := r9.1 y y1 y2
      exact ⟨w, by omega, w2⟩)
    have jc := g3 r K5 (k1.mono (by omega)) z0
    have kwr : KC 371 m_I_wrongInProgram (fun G => [.ref (cp_b G + 25), va_rf (kr G K3.1.1)]) Ke (fun _ => some (.int r)) K5 := by
      refine (c_I_wrongInProgram (D := 39) ⟨npe, by rw [f9]; exact ntr, ?_⟩).mono (by omega)
      rw [f9, et4]
      exact jc
    have kf5 : KF [15, 17, 19] Ke K5 := g1.1.trans k2.1
    have fk5 : FK 91 K K5 := (fk0e.trans (FK.kf kf5)).le (by omega)
    have fj5 : FJ K K5 := (j3.trans fje).trans (FJ.kf kf5)
    have hz5 : rsz K5 7 ≤ 1048576 ∧ rsz K5 9 < 16000 ∧ rsz K5 11 < 16000 ∧ ∃ n, n ≤ 10000 ∧ BS K5 n := ⟨by rw [(kf5.2.2.1 7 (by decide)).1, ze, z7]; omega, by rw [(kf5.2.2.1 9 (by decide)).1, ze]; exact z9, by rw [(kf5.2.2.1 11 (by decide)).1, ze]; exact z11, ps.length, by omega, k2.2.1⟩
    have i51 : K5.2.1 0 1 = 0 := by rw [kf5.1, f3 0 (by omega)]; exact c1
    have i523 : K5.2.1 23 4 = S1.1 60 := by rw [kf5.1, f3 23 (by omega)]; exact c23
    have v1 : vp_in (nI l) 26 := vp_in_nI l26 (by decide)
    have ops := RCD.ops _ _ _ _ _ _ rcd
    rcases k3 with ⟨rfl, gd⟩ | ⟨y, y1, y2, y3, y4, rfl⟩
    rotate_left
    · -- the code is wrong
      obtain ⟨w, w1, w2⟩ := r9.1 y y1 y2
      obtain ⟨S', hS'⟩ : ∃ S' : cp_S, S' = (va_up (va_up S3.1 59 (S3.2 42 (y - rf))) 16 (nI rf), S3.2) := ⟨_, rfl⟩
      have s' : ∀ k, k ≠ 16 → k ≠ 59 → S'.1 k = S3.1 k := fun k q1 q2 => by rw [hS']; show va_up (va_up S3.1 59 (S3.2 42 (y - rf))) 16 (nI rf) k = _; rw [cp_up_ne q1, cp_up_ne q2]
      have s2' : S'.2 = S3.2 := by rw [hS']
      obtain ⟨i1, i2⟩ := INV.fg h fk5 fj5 (fs3.trans (FS.of (fun k hk => s' k (by omega) (by omega)) (fun p _ => by rw [s2']))) (fg3.trans ⟨fun k hk => s' k (by omega) (by omega), fun p _ => by rw [s2']⟩) i51 ((s' 1 (by decide) (by decide)).trans d1) (by rw [hS']; rfl) (i523.trans ((s' 60 (by decide) (by decide)).trans d60).symm) ((s' 58 (by decide) (by decide)).trans d58) hz5
      have irc := MC_irc_bad (S := S3) (l := l) (n := ps.length) (start := rf) (n1 := n1) (rf := rf) (y := y) (by omega) r7 d20 rp4 l26 ops y2 y1 y1 (by omega) y3 y4
      have mbad : JJ 6 m_M_program (some (.int (-100 - S3.2 42 (y - rf)))) S' 53 [(1, .int (nI c)), (2, .int (nI c - 65)), (3, .int (S1.1 16)), (4, .int (-1)), (5, .int (S3.1 34))] (va_up S3.1 59 (S3.2 42 (y - rf)), S3.2) := by
        refine b_M_program_53 ⟨fun _ => ⟨?_, by rw [h16]; exact hS'⟩, fun q => absurd (by decide) q⟩
        show some (Value.int (-100 - S3.2 42 (y - rf))) = some (.int ((-100) - va_up S3.1 59 (S3.2 42 (y - rf)) 59))
        rw [va_up_at]
      refine ⟨-100 - S3.2 42 (y - rf), K5, S', Ls, rf, P, c_P_program (D := 364) (Or.inl ⟨K, a5.mono (by omega), K1, o1.mono (by omega), K1.1.1, K3, r1.mono (by omega), fun _ => ⟨Ke, by rw [ec]; exact kin.mono (by omega), _, K5, kwr, fun q => ?_, fun _ => ⟨rfl, rfl⟩⟩, fun q => absurd q q0⟩), c_M_program (b_M_program_0 ⟨1, S1, a6, fun _ => ⟨-1, S3, r2, fun q => absurd q (by decide), fun _ => ⟨0, _, by rw [ecl, h16, r34]; exact irc, fun q => absurd rfl q, fun _ => mbad⟩⟩, fun q => absurd q (by decide)⟩), i1, (s' 0 (by decide) (by decide)).trans d0, i2.le (by omega)⟩
      rw [w2] at q
      exact absurd q (nI_m1 (by omega))
    · -- it is right
      have irc := MC_irc_ok (S := S3) (l := l) (n := ps.length) (start := rf) (n1 := n1) (by omega) r7 rp4 l26 ops (by omega) gd
      have npe5 : nd K5 K3.1.1 10 := kf5.nd npe
      have i32 : K5.2.1 3 2 = nI Ls.length := by rw [fk5.1 3 (by omega) (by decide) (by decide) (by decide) (by decide) (by decide) (by decide) (by decide)]; exact h.2.2.1.2.2.2.1.1
      obtain ⟨K', ke, en⟩ := ent_g (K := K5) (l := l) (len := Ls.length) (e := K3.1.1) l26 hlen npe5 (by rw [kf5.1]; exact f5) i32
      have cnt5 : K5.2.1 K3.1.1 2 = nI ps.length := by rw [kf5.1]; exact f7
      rw [cnt5] at ke
      obtain ⟨S7, hS7⟩ : ∃ S7 : cp_S, S7 = (S3.1, va_up (va_up (va_up (va_up S3.2 32 (upd (S3.2 32) l (nI rf))) 33 (upd (S3.2 33) l (nI P))) 34 (upd (S3.2 34) l 0)) 36 (upd (S3.2 36) l (nI rf))) := ⟨_, rfl⟩
      have s71 : S7.1 = S3.1 := by rw [hS7]
      have s72 : ∀ p, ¬ (32 ≤ p ∧ p ≤ 34) → p ≠ 36 → S7.2 p = S3.2 p := fun p hp h36 => by
        rw [hS7]
        show va_up (va_up (va_up (va_up S3.2 32 (upd (S3.2 32) l (nI rf))) 33 (upd (S3.2 33) l (nI P))) 34 (upd (S3.2 34) l 0)) 36 (upd (S3.2 36) l (nI rf)) p = _
        rw [cp_up_ne h36, cp_up_ne (by omega), cp_up_ne (by omega), cp_up_ne (by omega)]
      have s73 : S7.2 32 = upd (S3.2 32) l (nI rf) ∧ S7.2 33 = upd (S3.2 33) l (nI P) ∧ S7.2 34 = upd (S3.2 34) l 0 ∧ S7.2 36 = upd (S3.2 36) l (nI rf) := by rw [hS7]; exact ⟨rfl, rfl, rfl, rfl⟩
      obtain ⟨S', u1, u2, u3, u4, u5, u6, u7, u8⟩ := prg_rows (S := S7) (n := ps.length) (x1 := nI c) (x3 := nI rf) (x4 := -1) l26 hlen rp4 (by rw [s71]; exact d14)
      have mcl : MC 6 m_M_program [.int (nI c)] S (some (.int (nI ps.length))) S' := by
        refine c_M_program (b_M_program_0 ⟨1, S1, a6, fun _ => ⟨-1, S3, r2, fun q => absurd q (by decide), fun _ => ⟨1, S3, by rw [ecl, h16, r34]; exact irc, fun _ => ?_, fun q => absurd q (by decide)⟩⟩, fun q => absurd q (by decide)⟩)
        rw [ecl, h16, r34, d23, nI_clamp (show l < 2 ^ 31 by omega), ← hS7]
        exact ⟨v1, v1, v1, v1, u1⟩
      have kcl : KC 372 m_P_program (fun G => [.ref (cp_b G + 0), .int (nI c)]) K (fun _ => some (.int (nI ps.length))) K' := c_P_program (D := 364) (Or.inl ⟨K, a5.mono (by omega), K1, o1.mono (by omega), K1.1.1, K3, r1.mono (by omega), fun _ => ⟨Ke, by rw [ec]; exact kin.mono (by omega), _, K5, kwr, fun _ => ⟨_, K', ke.mono (by omega), rfl, rfl⟩, fun q => absurd rfl q⟩, fun q => absurd q q0⟩)
      -- the new state
      have t30 : S'.2 30 l = 2 := by rw [u4, pk_us]
      have t31 : S'.2 31 l = nI ps.length := by rw [u5, pk_us]
      have t32 : S'.2 32 l = nI rf := by rw [u3 32 (by decide) (by decide) (by decide) (by decide), s73.1, pk_us]
      have t33 : S'.2 33 l = nI P := by rw [u3 33 (by decide) (by decide) (by decide) (by decide), s73.2.1, pk_us]
      have t36 : S'.2 36 l = nI rf := by rw [u3 36 (by decide) (by decide) (by decide) (by decide), s73.2.2.2, pk_us]
      have hb : ∀ p, 30 ≤ p → p ≤ 36 → ∀ c, c ≠ l → S'.2 p c = S3.2 p c := fun p p1 p2 c hcl => by
        rcases (show p = 30 ∨ p = 31 ∨ p = 32 ∨ p = 33 ∨ p = 34 ∨ p = 35 ∨ p = 36 by omega) with rfl | rfl | rfl | rfl | rfl | rfl | rfl
        · rw [u4, pk_un hcl, s72 30 (by omega) (by decide)]
        · rw [u5, pk_un hcl, s72 31 (by omega) (by decide)]
        · rw [u3 32 (by decide) (by decide) (by decide) (by decide), s73.1, pk_un hcl]
        · rw [u3 33 (by decide) (by decide) (by decide) (by decide), s73.2.1, pk_un hcl]
        · rw [u3 34 (by decide) (by decide) (by decide) (by decide), s73.2.2.1, pk_un hcl]
        · rw [u3 35 (by decide) (by decide) (by decide) (by decide), s72 35 (by omega) (by decide)]
        · rw [u3 36 (by decide) (by decide) (by decide) (by decide), s73.2.2.2, pk_un hcl]
      have hk : ∀ k, k ≠ 14 → S'.1 k = S3.1 k := fun k k0 => by rw [u2, cp_up_ne k0, s71]
      have ha : ∀ p, ¬ (30 ≤ p ∧ p ≤ 38) → S'.2 p = S3.2 p := fun p hp => by rw [u3 p (by omega) (by omega) (by omega) (by omega), s72 p (by omega) (by omega)]
      have e30 : ∀ c, S3.2 30 c = S.2 30 c ∧ S3.2 31 c = S.2 31 c := fun c => by rw [fs3.2.1 30 (by omega) (by omega), fs3.2.1 31 (by omega) (by omega)]; exact ⟨rfl, rfl⟩
      have ev : ∀ (K2 : cp_K) (b2 : Nat → Nat → Int32) (ar : Nat → Nat), KFX K' K2 → OLD n1 S'.2 b2 → OLP P S'.2 b2 → OLC K' S'.2 K2 b2 (l :: Ls) → AOK b2 ar → (S'.2 30 l = 1 → CST K2 b2 ar l) ∧ (S'.2 30 l = 2 → PROG K2 b2 ar l ∧ ∃ m, m ≤ 4 ∧ b2 31 l = nI m ∧ K2.2.1 (K2.2.2.1 4 l) 2 = nI m) := fun K2 b2 ar' kx od op oc ok => by
        refine ⟨fun e => absurd (t30.symm.trans e) (by decide), fun _ => ?_⟩
        obtain ⟨o1', o2', o3'⟩ := oc l List.mem_cons_self
        have k5x : KFX K5 K2 := en.kfx.trans kx
        have kex : KFX Ke K2 := (FK.kf kf5).kfx.trans k5x
        have w31 : b2 31 l = nI ps.length := (o2' 31 (by omega) (by omega)).trans t31
        have e4' : K2.2.2.1 4 l = K3.1.1 := by rw [o1', en.2.2.2.2, if_pos rfl]
        have z4' : K2.2.2.1 K3.1.1 4 = K1.1.1 := by rw [kex.r npe]; exact f9
        have lets : ∀ c ∈ Ls, b2 30 c = S.2 30 c ∧ b2 31 c = S.2 31 c := fun c hcm => by
          obtain ⟨-, o3, -⟩ := oc c (List.mem_cons_of_mem _ hcm)
          have hcl : c ≠ l := fun e => a4 (e ▸ hcm)
          rw [o3 30 (by omega) (by omega), o3 31 (by omega) (by omega), hb 30 (by omega) (by omega) c hcl, hb 31 (by omega) (by omega) c hcl]
          exact e30 c
        have l0 : S3.2 30 l = 0 := by rw [(e30 l).1]; exact a2
        have nb : NEWB S3.2 S'.2 ar' l ps.length := by
          refine ⟨⟨ha 39 (by omega), ha 40 (by omega), ha 41 (by omega)⟩, ⟨t30, t31⟩, fun c hc26 hcl => ⟨⟨hb 30 (by omega) (by omega) c hcl, hb 31 (by omega) (by omega) c hcl⟩, ?_⟩⟩
          by_cases hcm : c ∈ Ls
          · rcases (DSK.ne _ _ _ h.2.2.1.1 c hcm).2.1 with q | q
            · right; left
              obtain ⟨q1, q2⟩ := ok c hc26 (by rw [(lets c hcm).1]; exact q)
              rw [(e30 c).1, (e30 c).2, ← (lets c hcm).2]
              exact ⟨q, q1, q2⟩
            · right; right
              rw [(e30 c).1]; exact q
          · left
            rw [(e30 c).1]; exact (h.2.2.1.2.1 c hc26 hcm).1
        have cr := RCD.cr nb l0 12 z rf n1 _ _ (fun c => c ∈ ps) rcde (Nat.le_refl _) gd invs
        have cr2 := CR.ft (K' := K2) (b' := b2) (rf := n1) kex od (fun c hc26 q => by
          have hm : c ∈ l :: Ls := Classical.byContradiction fun q' => by
            have hcl : c ≠ l := fun e => q' (by rw [e]; exact List.mem_cons_self)
            rw [hb 30 (by omega) (by omega) c hcl, (e30 c).1] at q
            exact q (h.2.2.1.2.1 c hc26 (fun e => q' (List.mem_cons_of_mem _ e))).1
          obtain ⟨-, o3, -⟩ := oc c hm
          exact ⟨o3 30 (by omega) (by omega), o3 31 (by omega) (by omega)⟩) 12 _ _ _ _ (Nat.le_refl _) cr
        have c2 : K2.2.1 K3.1.1 2 = nI ps.length := by rw [kex.i npe]; exact f7
        refine ⟨⟨ps, 12, rf, n1, by rw [e4']; exact kex.n npe, ?_, by rw [e4', z4']; exact kex.n ntr, rp1, rp4, w31, fun x hx => ?_, ?_, (o2' 36 (by omega) (by omega)).trans t36, by omega, ?_⟩, ps.length, rp4, w31, by rw [e4']; exact c2⟩
        · rw [e4', kex.i npe, f6]; decide
        · rw [o3' x (by omega), u7 x hx, s72 71 (by omega) (by decide)]
          exact r71 x hx
        · rw [e4', z4', kex.r ntr, et4, et5]
          exact PCH.ft kex _ _ _ pche
        · rw [e4', z4', kex.r ntr, et5]
          exact cr2
      have htx : TXT K' S' := by
        refine ⟨fun j hj => ?_, 0, by omega, ?_, ?_, fun _ => 32, fun x hx => absurd hx (by omega)⟩
        · rw [en.2.1 1 (by decide) (by decide), fk5.1 1 (by omega) (by decide) (by decide) (by decide) (by decide) (by decide) (by decide) (by decide)]
          exact h.1.1 j hj
        · rw [en.2.1 0 (by decide) (by decide)]; exact i51
        · rw [hk 1 (by decide)]; exact d1
      obtain ⟨i1, i2⟩ := INV.ent2 (S' := S') (rf' := n1) (P' := P) h fk5 fj5 fs3 (fg3.trans ⟨fun k hk' => hk k (by omega), fun p hp => ha p (by omega)⟩) l26 a2 a4 en hb (fun c x hcl hx => by rw [u8 c x hcl hx, s72 37 (by omega) (by decide)]) (fun x => by
        rw [u6, s72 38 (by omega) (by decide)]
        by_cases e : x = Ls.length
        · rw [if_pos e, e, pk_us]
        · rw [if_neg e, pk_un e]) (fun p p1 p2 x hx => by rw [ha p (by omega)]) (fun p p1 p2 x hx => by rw [ha p (by omega)]) (by rw [u2, va_up_at]) (by rw [hk 16 (by decide)]; exact r7) (by rw [hk 23 (by decide)]; exact d23) ⟨by omega, by omega⟩ ⟨Nat.le_refl _, by omega⟩ ⟨Or.inr t30, ps.length, by omega, t31⟩ t32 t33 ev (hk 20 (by decide)) htx (by rw [en.2.1 23 (by decide) (by decide), hk 60 (by decide), d60]; exact i523) (by rw [hk 58 (by decide)]; exact d58) hz5
      exact ⟨nI ps.length, K', S', l :: Ls, n1, P, kcl, mcl, i1, by rw [hk 0 (by decide)]; exact d0, i2.le (by omega)⟩
end CPHQ
