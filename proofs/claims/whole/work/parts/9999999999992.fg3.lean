section CPGD
variable {K K1 K2 K0 K' : cp_K} {S S1 S0 S' : cp_S} {Ls : List Nat} {rf P : Nat}
theorem TXT.fr (h : TXT K S) (h1 : K'.2.1 1 = K.2.1 1) (h2 : K'.2.1 0 1 = K.2.1 0 1) (h3 : S'.1 1 = S.1 1) (h4 : S'.2 27 = S.2 27) : TXT K' S' := by
  obtain ⟨a0, n, a1, a2, a3, tx, a4⟩ := h
  exact ⟨fun j hj => by rw [h1]; exact a0 j hj, n, a1, h2.trans a2, h3.trans a3, tx, fun x hx => by rw [h1, h4]; exact a4 x hx⟩
theorem TR.mono {b : Nat → Nat → Int32} {pl : Nat → Nat → Prop} : ∀ (k k' p i j : Nat), k ≤ k' → TR K b pl k p i j → TR K b pl k' p i j
  | 0, _, _, _, _, _, h => h.elim
  | k + 1, 0, _, _, _, hk, _ => absurd hk (by omega)
  | k + 1, k' + 1, p, i, j, hk, h => by
    unfold TR at h ⊢
    obtain ⟨h0, h1, h⟩ := h
    refine ⟨h0, h1, ?_⟩
    rcases h with h | h | h | h | ⟨q1, q2, c, m, q3, q4, q5, q6, q7, q8, q9⟩
    · exact Or.inl h
    · exact Or.inr (Or.inl h)
    · exact Or.inr (Or.inr (Or.inl h))
    · exact Or.inr (Or.inr (Or.inr (Or.inl h)))
    · exact Or.inr (Or.inr (Or.inr (Or.inr ⟨q1, q2, c, m, q3, q4, q5, q6, q7, q8, CHN_pl (fun q i j => TR.mono k k' q i j (by omega)) m _ _ _ q9⟩)))
theorem f_lemma (h : INV K S Ls rf P) {c : Nat} (hc : c < 65536) :
    (∃ ci x S', KT 9 m_P_lemma (fun G => [.ref (cp_b G + 0), .int (nI c)]) K ci K.1.1 (kN K 99) ∧ MC 2 m_M_lemma [.int (nI c)] S none S' ∧ INV K S' Ls rf P ∧ S'.1 0 = x ∧ ((ci = 12 ∧ x = 1) ∨ (ci = 13 ∧ x = 2))) ∨
    ∃ K' S' Ls' rf' P', KC 9 m_P_lemma (fun G => [.ref (cp_b G + 0), .int (nI c)]) K (fun _ => none) K' ∧ MC 2 m_M_lemma [.int (nI c)] S none S' ∧ INV K' S' Ls' rf' P' ∧ S'.1 0 = 0 ∧ GRW 10 K K' := by
  have h26 := h.rf26
  rcases refuse_m h hc with ⟨a1, a2, a3⟩ | ⟨a1, a2, a3, a4⟩ | ⟨a1, ⟨a2, a3, a4⟩, a5, a6⟩
  · exact Or.inl ⟨12, 1, _, t_P_lemma (D := 1) (Or.inr ⟨12, K.1.1, kN K 99, a2, rfl, rfl⟩), c_M_lemma (b_M_lemma_0 ⟨0, _, a3, fun q => absurd rfl q, fun _ => ⟨fun q => absurd q (by decide), fun _ => ⟨rfl, rfl⟩⟩⟩), (h.f0 (x := 1)).f0 (x := 1), rfl, Or.inl ⟨rfl, rfl⟩⟩
  · exact Or.inl ⟨13, 2, _, t_P_lemma (D := 1) (Or.inr ⟨13, K.1.1, kN K 99, a3, rfl, rfl⟩), c_M_lemma (b_M_lemma_0 ⟨0, _, a4, fun _ => ⟨fun _ => ⟨fun q => absurd q (by decide), fun _ => ⟨rfl, rfl⟩⟩, fun q => absurd rfl q⟩, fun q => absurd (show (2 : Int32) = 1 from q) (by decide)⟩), (h.f0 (x := 2)).f0 (x := 2), rfl, Or.inr ⟨rfl, rfl⟩⟩
  obtain ⟨S1, hS1⟩ : ∃ S1 : cp_S, S1 = (va_up S.1 0 0, S.2) := ⟨_, rfl⟩
  have h1 : INV K S1 Ls rf P := by rw [hS1]; exact h.f0
  rw [← hS1] at a6
  have s10 : S1.1 0 = 0 := by rw [hS1]; rfl
  have n01 : ¬ S1.1 0 = 1 := by rw [s10]; decide
  rcases h1.2.2.2.1 with ⟨r1, r2⟩ | ⟨r1, r2, r3, r4⟩
  · exact Or.inl ⟨13, 2, _, t_P_lemma (D := 1) (Or.inl ⟨K, a5, fun _ => ⟨rfl, rfl⟩, fun q => absurd r1 q⟩), c_M_lemma (b_M_lemma_0 ⟨1, S1, a6, fun _ => ⟨fun q => absurd q (by decide), fun _ => ⟨fun _ => ⟨fun q => absurd q (by decide), fun _ => ⟨rfl, rfl⟩⟩, fun q => absurd r2 q⟩⟩, fun q => absurd q n01⟩), h1.f0 (x := 2), rfl, Or.inr ⟨rfl, rfl⟩⟩
  have nz : ¬ K.2.2.1 0 11 = 0 := fun e => by have := r1.1; omega
  by_cases h81 : S1.1 81 = 0
  rotate_left
  · have k12 : ¬ K.2.1 0 12 = 0 := fun e => h81 (r3.mp e)
    exact Or.inl ⟨13, 2, _, t_P_lemma (D := 1) (Or.inl ⟨K, a5, fun q => absurd q nz, fun _ => ⟨fun q => absurd q k12, fun _ => ⟨rfl, rfl⟩⟩⟩), c_M_lemma (b_M_lemma_0 ⟨1, S1, a6, fun _ => ⟨fun q => absurd q (by decide), fun _ => ⟨fun q => absurd q r2, fun _ => ⟨fun q => absurd q h81, fun _ => ⟨fun q => absurd q (by decide), fun _ => ⟨rfl, rfl⟩⟩⟩⟩⟩, fun q => absurd q n01⟩), h1.f0 (x := 2), rfl, Or.inr ⟨rfl, rfl⟩⟩
  refine Or.inr ?_
  have k12 : K.2.1 0 12 = 0 := r3.mpr h81
  obtain ⟨l, hl⟩ : ∃ l, l = c - 65 := ⟨_, rfl⟩
  rw [← hl] at a2 a3 a4
  have l26 : l < 26 := by omega
  have ec : nI c = nI (65 + l) := by congr 1; omega
  have ecl : nI c - 65 = nI l := by
    rw [ec]
    have := pk_sub (a := 65 + l) (b := 65) (by omega)
    rw [show 65 + l - 65 = l by omega] at this
    exact this
  have hlen := h.len l26 a4
  have h86 : 86 ≤ K.1.1 := h.2.2.2.2.2.2.2.2
  have e16 : S1.1 16 = nI rf := h1.2.2.1.2.2.1.1
  have e23 : S1.1 23 = nI P := h1.2.2.1.2.2.1.2
  have e14 : S1.1 14 = nI Ls.length := h1.2.2.1.2.2.2.1.2
  have e32 : K.2.1 3 2 = nI Ls.length := h1.2.2.1.2.2.2.1.1
  have s2 : S1.2 = S.2 := by rw [hS1]
  -- the class makes two nodes
  obtain ⟨Kb, hKb⟩ : ∃ Kb, Kb = nadd (ninit (kN K 9) K.1.1 16 0 0) K.1.1 ((ninit (kN K 9) K.1.1 16 0 0).2.2.1 0 11) := ⟨_, rfl⟩
  obtain ⟨b1, b2, b3, b4, b5, b6, b7, b8, b9⟩ := N1_at (K := K) (s := 16) (r := (ninit (kN K 9) K.1.1 16 0 0).2.2.1 0 11)
  rw [← hKb] at b1 b2 b3 b4 b5 b6 b7 b8
  have b11 : (ninit (kN K 9) K.1.1 16 0 0).2.2.1 0 11 = K.2.2.1 0 11 := by
    unfold ninit
    simp only [kP_r, kI_r]
    rw [cp_up_ne (by omega), cp_up_ne (by omega), cp_up_ne (by omega)]
    rw [kN_r (by omega)]
  obtain ⟨Kd, hKd⟩ : ∃ Kd, Kd = nadd (ninit (kN Kb 9) Kb.1.1 17 0 0) Kb.1.1 K.1.1 := ⟨_, rfl⟩
  obtain ⟨d1, d2, d3, d4, d5, d6, d7, d8, d9⟩ := N1_at (K := Kb) (s := 17) (r := K.1.1)
  rw [← hKd] at d1 d2 d3 d4 d5 d6 d7 d8
  have nb : Kb.1.1 = K.1.1 + 1 := by rw [b1]
  have nd' : Kd.1.1 = K.1.1 + 2 := by rw [d1]; show Kb.1.1 + 1 = _; omega
  have di : ∀ p, p < K.1.1 → Kd.2.1 p = K.2.1 p := fun p hp => by rw [d3 p (by omega), b3 p (by omega)]
  have dr : ∀ p, p < K.1.1 → Kd.2.2.1 p = K.2.2.1 p := fun p hp => by rw [d4 p (by omega), b4 p (by omega)]
  have dt : ∀ p, p < K.1.1 → Kd.1.2 p = K.1.2 p := fun p hp => by
    rw [d1]
    show va_up Kb.1.2 Kb.1.1 9 p = _
    rw [cp_up_ne (by omega), b1]
    exact cp_up_ne (by omega)
  have dw : Kd.2.2.2 = K.2.2.2 := d2.trans b2
  have fkd : FK 2 K Kd := by
    refine ⟨fun p p1 _ _ _ _ _ _ _ => di p p1, fun p p1 _ _ => dr p p1, dt, by omega, fun k => ⟨fun r hr => ?_, ?_⟩⟩
    · have := k r hr
      unfold rcap at this ⊢
      rw [dw]; exact this
    · unfold k_caps
      rw [dw, nd']; omega
  have fjd : FJ K Kd := ⟨⟨by rw [di 0 (by omega)], by rw [di 0 (by omega)]⟩, di 2 (by omega), by rw [dr 0 (by omega)]⟩
  have nq : nd Kd K.1.1 9 := ⟨h86, by omega, by
    rw [d1]
    show va_up Kb.1.2 Kb.1.1 9 K.1.1 = 9
    rw [cp_up_ne (by omega), b1]
    exact va_up_at⟩
  have nt : nd Kd (K.1.1 + 1) 9 := ⟨by omega, by omega, by
    rw [d1, ← nb]
    exact va_up_at⟩
  rw [nb] at d5 d6 d7 d8
  have q4 : Kd.2.2.1 K.1.1 4 = K.2.2.1 0 11 := by rw [d4 _ (by omega), b6, b11]
  have q6 : Kd.2.2.1 K.1.1 6 = 0 := by rw [d4 _ (by omega), b8]
  have q0 : Kd.2.1 K.1.1 0 = 16 := by rw [d3 _ (by omega), b5]
  have chs : CHS Kd [16] (Kd.2.2.1 (K.1.1 + 1) 4) := by
    rw [d6]
    exact ⟨nq, q0, q6⟩
  have kin := einit_c (K := Kd) (p3 := K.1.1 + 1) (ss := [16]) nt l26 (by decide) chs (by omega)
  obtain ⟨K', ke, en⟩ := ent_c (K := Kd) (x2 := 0) (cnt := nI (cso 14 [16])) (cond := if cso 15 ([16] : List Int32) = 0 then 0 else 1) (p3 := K.1.1 + 1) l26 hlen (by rw [di 3 (by omega)]; exact e32) (by omega)
  have kcl : KC 9 m_P_lemma (fun G => [.ref (cp_b G + 0), .int (nI c)]) K (fun _ => none) K' := by
    refine c_P_lemma (D := 1) (Or.inl ⟨K, a5, fun q => absurd q nz, fun _ => ⟨fun _ => ⟨fun q => absurd b9 q, ?_⟩, fun q => absurd k12 q⟩⟩)
    rw [← hKb, ← hKd, ec, nb]
    exact ⟨fun q => absurd (by rw [← nb]; exact d9) q, _, kin, _, K', ke, rfl, rfl⟩
  -- the reference takes the rows
  obtain ⟨m, hm100, hst⟩ : ∃ m, m ≤ 100 ∧ ((S1.1 80 = 0 ∧ S1.1 82 = nI m) ∨ (¬ S1.1 80 = 0 ∧ m = 0)) := by
    rcases r4 h81 with ⟨w1, -⟩ | ⟨w1, m, k, w2, -, w4, -⟩
    · exact ⟨0, by omega, Or.inr ⟨w1, rfl⟩⟩
    · exact ⟨m, w4, Or.inl ⟨w1, w2⟩⟩
  have v1 : vp_in (nI l) 26 := vp_in_nI l26 (by decide)
  obtain ⟨rv, hrv⟩ : ∃ rv : Int32, rv = if S1.1 80 = 0 then nI rf else -2 := ⟨_, rfl⟩
  obtain ⟨S3, hS3⟩ : ∃ S3 : cp_S, S3 = (va_up S1.1 0 0, va_up (va_up (va_up (va_up S1.2 32 (upd (S1.2 32) l (nI rf))) 33 (upd (S1.2 33) l (nI P))) 34 (upd (S1.2 34) l 0)) 35 (upd (S1.2 35) l rv)) := ⟨_, rfl⟩
  have s31 : ∀ k, k ≠ 0 → S3.1 k = S1.1 k := fun k hk => by rw [hS3]; exact cp_up_ne hk
  have s32 : ∀ p, ¬ (32 ≤ p ∧ p ≤ 35) → S3.2 p = S1.2 p := fun p hp => by
    rw [hS3]
    show va_up (va_up (va_up (va_up S1.2 32 (upd (S1.2 32) l (nI rf))) 33 (upd (S1.2 33) l (nI P))) 34 (upd (S1.2 34) l 0)) 35 (upd (S1.2 35) l rv) p = _
    rw [cp_up_ne (by omega), cp_up_ne (by omega), cp_up_ne (by omega), cp_up_ne (by omega)]
  have s33 : S3.2 32 = upd (S1.2 32) l (nI rf) ∧ S3.2 33 = upd (S1.2 33) l (nI P) ∧ S3.2 34 = upd (S1.2 34) l 0 ∧ S3.2 35 = upd (S1.2 35) l rv := by rw [hS3]; exact ⟨rfl, rfl, rfl, rfl⟩
  obtain ⟨S', g1, g2, g3, g4, g5, g6, g7, g8, g9, g10⟩ := lem_rows (S := S3) (rf := rf) (m := m) (l := l) (len := Ls.length) (x1 := nI c) (x2 := 1) l26 hlen (by rw [s31 14 (by decide)]; exact e14) (by rw [s31 16 (by decide)]; exact e16) (by omega) hm100 (by rw [s31 20 (by decide)]; exact h1.2.2.2.2.2.1.1) (by rw [s31 80 (by decide), s31 82 (by decide)]; exact hst)
  have mcl : MC 2 m_M_lemma [.int (nI c)] S none S' := by
    refine c_M_lemma (b_M_lemma_0 ⟨1, S1, a6, fun _ => ⟨fun q => absurd q (by decide), fun _ => ⟨fun q => absurd q r2, fun _ => ⟨fun _ => ⟨fun _ => ?_, fun q => absurd (by decide) q⟩, fun q => absurd h81 q⟩⟩⟩, fun q => absurd q n01⟩)
    rw [ecl, e16, e23, nI_clamp (show l < 2 ^ 31 by omega)]
    refine ⟨v1, v1, v1, fun q => ⟨v1, ?_⟩, fun q => ⟨v1, ?_⟩⟩
    · have e : S3 = (va_up S1.1 0 0, va_up (va_up (va_up (va_up S1.2 32 (upd (S1.2 32) l (nI rf))) 33 (upd (S1.2 33) l (nI P))) 34 (upd (S1.2 34) l 0)) 35 (upd (S1.2 35) l (nI rf))) := by rw [hS3, hrv, if_pos q]
      rw [← e]; exact g1
    · have e : S3 = (va_up S1.1 0 0, va_up (va_up (va_up (va_up S1.2 32 (upd (S1.2 32) l (nI rf))) 33 (upd (S1.2 33) l (nI P))) 34 (upd (S1.2 34) l 0)) 35 (upd (S1.2 35) l (-2))) := by rw [hS3, hrv, if_neg q]
      rw [← e]; exact g1
  -- the new state
  have t30 : S'.2 30 l = 1 := by rw [g6, pk_us]
  have t31 : S'.2 31 l = nI 0 := by rw [g7, pk_us]; rfl
  have t32 : S'.2 32 l = nI rf := by rw [g5 32 (by decide) (by decide) (by decide) (by omega), s33.1, pk_us]
  have t33 : S'.2 33 l = nI P := by rw [g5 33 (by decide) (by decide) (by decide) (by omega), s33.2.1, pk_us]
  have t34 : S'.2 34 l = nI 0 := by rw [g5 34 (by decide) (by decide) (by decide) (by omega), s33.2.2.1, pk_us]; rfl
  have t35 : S'.2 35 l = rv := by rw [g5 35 (by decide) (by decide) (by decide) (by omega), s33.2.2.2, pk_us]
  have hb : ∀ p, 30 ≤ p → p ≤ 36 → ∀ c, c ≠ l → S'.2 p c = S.2 p c := fun p p1 p2 c hcl => by
    rw [← s2]
    rcases (show p = 30 ∨ p = 31 ∨ p = 32 ∨ p = 33 ∨ p = 34 ∨ p = 35 ∨ p = 36 by omega) with rfl | rfl | rfl | rfl | rfl | rfl | rfl
    · rw [g6, pk_un hcl, s32 30 (by omega)]
    · rw [g7, pk_un hcl, s32 31 (by omega)]
    · rw [g5 32 (by decide) (by decide) (by decide) (by omega), s33.1, pk_un hcl]
    · rw [g5 33 (by decide) (by decide) (by decide) (by omega), s33.2.1, pk_un hcl]
    · rw [g5 34 (by decide) (by decide) (by decide) (by omega), s33.2.2.1, pk_un hcl]
    · rw [g5 35 (by decide) (by decide) (by decide) (by omega), s33.2.2.2, pk_un hcl]
    · rw [g5 36 (by decide) (by decide) (by decide) (by omega), s32 36 (by omega)]
  have hk : ∀ k, k ≠ 0 → k ≠ 14 → k ≠ 16 → S'.1 k = S.1 k := fun k k0 k1 k2 => by rw [g2 k k1 k2, s31 k k0, hS1]; exact cp_up_ne k0
  have ha : ∀ p, ¬ (30 ≤ p ∧ p ≤ 43) → S'.2 p = S.2 p := fun p hp => by rw [g5 p (by omega) (by omega) (by omega) (by omega), s32 p (by omega), s2]
  have ho : OLD rf S.2 S'.2 := fun p p1 p2 x hx => by rw [g9 p p1 p2 x hx, s32 p (by omega), s2]
  have k4 := en.kfx
  have ev : ∀ (K2 : cp_K) (b2 : Nat → Nat → Int32) (ar : Nat → Nat), KFX K' K2 → OLD (rf + m) S'.2 b2 → OLP P S'.2 b2 → OLC K' S'.2 K2 b2 (l :: Ls) → AOK b2 ar → (S'.2 30 l = 1 → CST K2 b2 ar l) ∧ (S'.2 30 l = 2 → PROG K2 b2 ar l ∧ ∃ m, m ≤ 4 ∧ b2 31 l = nI m ∧ K2.2.1 (K2.2.2.1 4 l) 2 = nI m) := fun K2 b2 ar kx od op oc ok => by
    refine ⟨fun _ => ?_, fun e => absurd (t30.symm.trans e) (by decide)⟩
    obtain ⟨o1, o2, -⟩ := oc l List.mem_cons_self
    obtain ⟨en1, en2⟩ := en.nd (by omega)
    have kdx : KFX Kd K2 := k4.trans kx
    have w31 : b2 31 l = nI 0 := (o2 31 (by omega) (by omega)).trans t31
    have ar0 : ar l = 0 := by
      have := ok l l26 ((o2 30 (by omega) (by omega)).trans t30)
      have e := this.1
      rw [w31] at e
      exact ((nI_eq (by omega) (by omega)).mp e).symm
    have e4 : K2.2.2.1 4 l = Kd.1.1 := o1.trans en2
    rw [en2] at en1
    have n2 : nd K2 Kd.1.1 10 := kx.n en1
    obtain ⟨-, -, -, -, -, z1, z2, z3, z4⟩ := en
    have y4 : K2.2.2.1 Kd.1.1 4 = K.1.1 + 1 := by rw [kx.r en1]; exact z4
    have nt2 : nd K2 (K.1.1 + 1) 9 := kdx.n nt
    have nq2 : nd K2 K.1.1 9 := kdx.n nq
    have u4 : K2.2.2.1 (K.1.1 + 1) 4 = K.1.1 := by rw [kdx.r nt]; exact d6
    have u5 : K2.2.2.1 (K.1.1 + 1) 5 = K.1.1 := by rw [kdx.r nt]; exact d7
    have v4 : K2.2.2.1 K.1.1 4 = K.2.2.1 0 11 := by rw [kdx.r nq]; exact q4
    have kkx : KFX K K2 := fkd.kfx.trans kdx
    refine ⟨40, P, 0, 100, Nat.le_refl _, by omega, by omega, Nat.le_refl _, by omega, by rw [ar0]; exact w31, (o2 33 (by omega) (by omega)).trans t33, (o2 34 (by omega) (by omega)).trans t34, by rw [e4]; exact n2, by rw [e4, kx.i en1]; exact z1, by rw [e4, kx.i en1, ar0]; exact z2, ?_, by rw [e4, y4]; exact nt2, ?_⟩
    · rw [e4, kx.i en1, z3]
      exact ⟨fun _ x hx => absurd hx (by omega), fun _ => rfl⟩
    · rw [e4, y4, u4, u5]
      refine ⟨rfl, ar0, nq2, by rw [v4]; exact kkx.n r1, ?_⟩
      rw [v4, (o2 35 (by omega) (by omega)).trans t35]
      rcases r4 h81 with ⟨w1, w2⟩ | ⟨w1, m', k, w2, w3, w4, w5, w6, w7⟩
      · refine Or.inl ⟨by rw [kkx.i r1]; exact w2, ?_⟩
        rw [hrv, if_neg w1]
      · have em : m' = m := by
          rcases hst with ⟨-, e⟩ | ⟨e, -⟩
          · exact (nI_eq (by omega) (by omega)).mp (w2.symm.trans e)
          · exact absurd w1 e
        subst em
        have rows : ∀ x, x < m' → b2 39 (rf + x) = S1.2 82 x ∧ b2 40 (rf + x) = S1.2 83 x ∧ b2 41 (rf + x) = S1.2 84 x := fun x hx => by
          obtain ⟨x1, x2, x3⟩ := g10 x hx
          rw [od 39 (by omega) (by omega) (rf + x) (by omega), od 40 (by omega) (by omega) (rf + x) (by omega), od 41 (by omega) (by omega) (rf + x) (by omega), x1, x2, x3, s32 82 (by omega), s32 83 (by omega), s32 84 (by omega)]
          exact ⟨rfl, rfl, rfl⟩
        refine Or.inr ⟨rf, rf + m', by rw [hrv, if_pos w1], ⟨?_, fun x x1 x2 => ?_⟩, by omega, by omega⟩
        · have tr0 : TR K2 (rbs S1.2) (fun _ _ => True) k (K.2.2.1 0 11) 0 m' := TR.ft (rf := m') kkx (fun _ _ _ _ _ => rfl) k _ _ _ (Nat.le_refl _) w6
          have := TR.sh2 (b' := b2) (s := rf) k _ 0 m' (fun x x1 x2 => rows x x2) tr0
          exact TR.mono _ _ _ _ _ w5 this
        · obtain ⟨y1, y2, y3⟩ := rows (x - rf) (by omega)
          rw [show rf + (x - rf) = x by omega] at y1 y2 y3
          obtain ⟨f1, f2⟩ := w7 (x - rf) (by omega)
          rw [y1, y2, y3]
          refine ⟨fun e => ?_, fun c e => ?_, fun c mm e1 e2 hc26 e3 hmm => ?_⟩
          · rcases f1 with q | q | q <;> rw [q] at e <;> exact absurd e (by decide)
          · rcases f1 with q | q | q <;> rw [q] at e <;> exact absurd e (by decide)
          · obtain ⟨c0, n0, f3, f4, f5, f6, f7, f8⟩ := f2 e1
            have ec0 : c = c0 := (nI_eq (by omega) (by omega)).mp (e2.symm.trans f4)
            subst ec0
            have en0 : mm = n0 := (nI_eq (by omega) (by omega)).mp (e3.symm.trans f6)
            subst en0
            rw [s2] at f7 f8
            have hcl : c ≠ l := fun e => by rw [e, a2] at f7; exact absurd f7 (by decide)
            have cm : c ∈ Ls := Classical.byContradiction fun q => by
              rw [(h.2.2.1.2.1 c f3 q).1] at f7
              exact absurd f7 (by decide)
            obtain ⟨-, o3, -⟩ := oc c (List.mem_cons_of_mem _ cm)
            have b30 : b2 30 c = 1 := by rw [o3 30 (by omega) (by omega), hb 30 (by omega) (by omega) c hcl]; exact f7
            have b31 : b2 31 c = nI mm := by rw [o3 31 (by omega) (by omega), hb 31 (by omega) (by omega) c hcl]; exact f8
            obtain ⟨ok1, ok2⟩ := ok c f3 b30
            rw [b31] at ok1
            exact (nI_eq (by omega) (by omega)).mp ok1
  have hz : rsz Kd 7 ≤ 1048576 ∧ rsz Kd 9 < 16000 ∧ rsz Kd 11 < 16000 ∧ ∃ n, n ≤ 10000 ∧ BS Kd n := by
    have z : ∀ q, rsz Kd q = rsz K q := fun q => by unfold rsz; rw [dw]
    unfold BS
    rw [z, z, z, z, z, z]
    exact h.2.2.2.2.2.2.1
  obtain ⟨i1, i2⟩ := INV.enter (S' := S') (rf' := rf + m) (P' := P) h fkd fjd FS.refl ⟨fun k hk' => hk k (by omega) (by omega) (by omega), fun p hp => ha p (by omega)⟩ l26 a2 a4 en hb (fun c x hcl hx => by rw [g5 37 (by decide) (by decide) (by decide) (by omega), s32 37 (by omega), s2]) (fun x => by
    rw [g8, s32 38 (by omega), s2]
    by_cases e : x = Ls.length
    · rw [if_pos e, e, pk_us]
    · rw [if_neg e, pk_un e]) ho (fun p p1 p2 x hx => by rw [ha p (by omega)]) g3 g4 (by rw [hk 23 (by decide) (by decide) (by decide)]; exact h.2.2.1.2.2.1.2) ⟨by omega, by omega⟩ ⟨Nat.le_refl _, by omega⟩ ⟨Or.inl t30, 0, by omega, t31⟩ t32 t33 ev (hk 20 (by decide) (by decide) (by decide)) (h.1.fr (by rw [en.2.1 1 (by omega) (by decide) (by decide), di 1 (by omega)]) (by rw [en.2.1 0 (by omega) (by decide) (by decide), di 0 (by omega)]) (hk 1 (by decide) (by decide) (by decide)) (ha 27 (by omega))) (by rw [en.2.1 23 (by omega) (by decide) (by decide), di 23 (by omega), hk 60 (by decide) (by decide) (by decide)]; exact h.2.2.2.2.1) (by rw [hk 58 (by decide) (by decide) (by decide)]; exact h.2.2.2.2.2.1.2) hz
  exact ⟨K', S', l :: Ls, rf + m, P, kcl, mcl, i1, by rw [g2 0 (by decide) (by decide), hS3]; rfl, i2.le (by omega)⟩
end CPGD
