/-! ===== the face: what a working call leaves as it was; opening the text; the page ===== -/
/-- the class: all but what a call works with -/
def FK (c : Nat) (K K' : cp_K) : Prop := (∀ p, p < K.1.1 → p ≠ 0 → p ≠ 2 → p ≠ 6 → p ≠ 13 → p ≠ 21 → p ≠ 23 → p ≠ 24 → K'.2.1 p = K.2.1 p) ∧ (∀ p, p < K.1.1 → p ≠ 0 → p ≠ 21 → K'.2.2.1 p = K.2.2.1 p) ∧ (∀ p, p < K.1.1 → K'.1.2 p = K.1.2 p) ∧ K.1.1 ≤ K'.1.1 ∧ (KO K → KO K' ∧ 64 * K'.1.1 + k_caps K ≤ 64 * (K.1.1 + c) + k_caps K')
/-- page and result of the class -/
def FJ (K K' : cp_K) : Prop := (K'.2.1 0 3 = K.2.1 0 3 ∧ K'.2.1 0 12 = K.2.1 0 12) ∧ K'.2.1 2 = K.2.1 2 ∧ K'.2.2.1 0 11 = K.2.2.1 0 11
def FS (rf P : Nat) (S S' : cp_S) : Prop := (∀ k, k = 14 ∨ k = 23 → S'.1 k = S.1 k) ∧ (∀ p, 30 ≤ p → p ≤ 38 → S'.2 p = S.2 p) ∧ OLD rf S.2 S'.2 ∧ OLP P S.2 S'.2 ∧ ((∃ r, r < 2720 ∧ S.1 20 = nI r) → ∃ r, r < 2720 ∧ S'.1 20 = nI r)
def FG (S S' : cp_S) : Prop := (∀ k, k = 3 ∨ (79 ≤ k ∧ k ≤ 82) → S'.1 k = S.1 k) ∧ ∀ p, p = 28 ∨ (82 ≤ p ∧ p ≤ 84) → S'.2 p = S.2 p
section CPFD
variable {K K1 K2 K' : cp_K} {S S1 S2 S' : cp_S} {Ls : List Nat} {rf P c c1 c2 : Nat}
theorem FK.refl : FK 0 K K := ⟨fun _ _ _ _ _ _ _ _ _ => rfl, fun _ _ _ _ => rfl, fun _ _ => rfl, Nat.le_refl _, fun h => ⟨h, Nat.le_refl _⟩⟩
theorem FK.trans (h : FK c1 K K1) (g : FK c2 K1 K2) : FK (c1 + c2) K K2 := by
  obtain ⟨a1, a2, a3, a4, a5⟩ := h
  obtain ⟨b1, b2, b3, b4, b5⟩ := g
  refine ⟨fun p h1 h2 h3 h4 h5 h6 h7 h8 => (b1 p (by omega) h2 h3 h4 h5 h6 h7 h8).trans (a1 p h1 h2 h3 h4 h5 h6 h7 h8), fun p h1 h2 h3 => (b2 p (by omega) h2 h3).trans (a2 p h1 h2 h3), fun p h1 => (b3 p (by omega)).trans (a3 p h1), by omega, fun k => ?_⟩
  obtain ⟨a6, a7⟩ := a5 k
  obtain ⟨b6, b7⟩ := b5 a6
  exact ⟨b6, by omega⟩
theorem FK.le (h : FK c1 K K1) (hc : c1 ≤ c2) : FK c2 K K1 := ⟨h.1, h.2.1, h.2.2.1, h.2.2.2.1, fun k => ⟨(h.2.2.2.2 k).1, by have := (h.2.2.2.2 k).2; omega⟩⟩
theorem FK.kfx (h : FK c K K') : KFX K K' := ⟨h.2.2.2.1, fun q q1 q2 => ⟨h.2.2.1 q q2, h.1 q q2 (by omega) (by omega) (by omega) (by omega) (by omega) (by omega) (by omega), h.2.1 q q2 (by omega) (by omega)⟩⟩
theorem FK.kf {rs : List Nat} (h : KF rs K K') : FK 0 K K' := ⟨fun p _ _ _ _ _ _ _ _ => by rw [h.1], fun p _ _ _ => by rw [h.2.1], fun p hp => h.2.2.2.2.1 p hp, h.2.2.2.1, h.2.2.2.2.2⟩
theorem FJ.kf {rs : List Nat} (h : KF rs K K') : FJ K K' := ⟨⟨by rw [h.1], by rw [h.1]⟩, by rw [h.1], by rw [h.2.1]⟩
theorem FK.kx (h : KX K K') : FK 0 K K' := by
  have hi := fun p (a : p ≠ 23) (b : p ≠ 24) => h.i a b
  obtain ⟨I, g, -⟩ := h
  exact ⟨fun p _ _ _ _ _ _ h7 h8 => hi p h7 h8, fun p _ _ _ => by rw [g.2.1], fun p hp => g.2.2.2.2.1 p hp, g.2.2.2.1, g.2.2.2.2.2⟩
theorem FJ.kx (h : KX K K') : FJ K K' := by
  have hi := fun p (a : p ≠ 23) (b : p ≠ 24) => h.i a b
  obtain ⟨I, g, -⟩ := h
  exact ⟨⟨by rw [hi 0 (by decide) (by decide)], by rw [hi 0 (by decide) (by decide)]⟩, hi 2 (by decide) (by decide), by rw [g.2.1]⟩
theorem FK.wf (h : WF K K') : FK 0 K K' := ⟨fun p _ _ _ h3 h4 _ _ _ => funext fun k => h.1 p k h4 (fun e => h3 e.1), fun p _ _ _ => by rw [h.2.1], fun p hp => h.2.2.2.2.1 p hp, h.2.2.2.1, h.2.2.2.2.2⟩
theorem FJ.wf (h : WF K K') : FJ K K' := ⟨⟨h.1 0 3 (by decide) (by decide), h.1 0 12 (by decide) (by decide)⟩, funext fun k => h.1 2 k (by decide) (by omega), by rw [h.2.1]⟩
theorem FK.krx (h : KRX K.1.1 K.1.1 K K') (hc : K'.1.1 ≤ K.1.1 + c) : FK c K K' := by
  obtain ⟨h1, h2, h3, h4, h5, h6, h7⟩ := h
  refine ⟨fun p p1 _ _ _ _ p2 _ _ => funext fun k => h4 p p1 p2 k (Or.inl (by omega)), fun p p1 _ _ => funext fun k => h6 p p1 k (Or.inl (by omega)) (Or.inl (by omega)), h2, h1, fun k => ⟨fun r hr => ?_, ?_⟩⟩
  · have := k r hr
    unfold rcap at this ⊢
    rw [h7]; exact this
  · unfold k_caps
    rw [h7]; omega
theorem FJ.krx (h : KRX K.1.1 K.1.1 K K') (h86 : 86 ≤ K.1.1) : FJ K K' := by
  obtain ⟨h1, h2, h3, h4, h5, h6, h7⟩ := h
  exact ⟨⟨h4 0 (by omega) (by decide) 3 (Or.inl (by omega)), h4 0 (by omega) (by decide) 12 (Or.inl (by omega))⟩, funext fun k => h4 2 (by omega) (by decide) k (Or.inl (by omega)), h6 0 (by omega) 11 (Or.inl (by omega)) (Or.inl (by omega))⟩
theorem FK.kI {p k : Nat} {x : Int32} (h : p = 0 ∨ p = 2 ∨ p = 6 ∨ p = 13 ∨ p = 21 ∨ p = 23 ∨ p = 24) : FK 0 K (kI K p k x) := ⟨fun q _ _ _ _ _ _ _ _ => by rw [kI_i, cp_up_ne (by omega)], fun _ _ _ _ => rfl, fun _ _ => rfl, Nat.le_refl _, fun h => ⟨h, Nat.le_refl _⟩⟩
theorem FK.kP {p k x : Nat} (h : p = 0 ∨ p = 21) : FK 0 K (kP K p k x) := ⟨fun q _ _ _ _ _ _ _ _ => rfl, fun q _ _ _ => by rw [kP_r, cp_up_ne (by omega)], fun _ _ => rfl, Nat.le_refl _, fun h => ⟨h, Nat.le_refl _⟩⟩
theorem FJ.refl : FJ K K := ⟨⟨rfl, rfl⟩, rfl, rfl⟩
theorem FJ.trans (h : FJ K K1) (g : FJ K1 K2) : FJ K K2 := ⟨⟨g.1.1.trans h.1.1, g.1.2.trans h.1.2⟩, g.2.1.trans h.2.1, g.2.2.trans h.2.2⟩
theorem FJ.kI {p k : Nat} {x : Int32} (h : p ≠ 0 ∧ p ≠ 2) : FJ K (kI K p k x) := ⟨⟨by rw [kI_i, cp_up_ne (by omega)], by rw [kI_i, cp_up_ne (by omega)]⟩, by rw [kI_i, cp_up_ne (by omega)], rfl⟩
theorem FS.refl : FS rf P S S := ⟨fun _ _ => rfl, fun _ _ _ => rfl, fun _ _ _ _ _ => rfl, fun _ _ _ _ _ => rfl, fun h => h⟩
theorem FS.trans (h : FS rf P S S1) (g : FS rf P S1 S2) : FS rf P S S2 := ⟨fun k hk => (g.1 k hk).trans (h.1 k hk), fun p p1 p2 => (g.2.1 p p1 p2).trans (h.2.1 p p1 p2), fun p p1 p2 x hx => (g.2.2.1 p p1 p2 x hx).trans (h.2.2.1 p p1 p2 x hx), fun p p1 p2 x hx => (g.2.2.2.1 p p1 p2 x hx).trans (h.2.2.2.1 p p1 p2 x hx), fun q => g.2.2.2.2 (h.2.2.2.2 q)⟩
theorem FG.refl : FG S S := ⟨fun _ _ => rfl, fun _ _ => rfl⟩
theorem FG.trans (h : FG S S1) (g : FG S1 S2) : FG S S2 := ⟨fun k hk => (g.1 k hk).trans (h.1 k hk), fun p hp => (g.2 p hp).trans (h.2 p hp)⟩
/-- scalars and arrays by lists -/
theorem FS.of (h1 : ∀ k, k = 14 ∨ k = 20 ∨ k = 23 → S'.1 k = S.1 k) (h2 : ∀ p, (30 ≤ p ∧ p ≤ 41) ∨ (44 ≤ p ∧ p ≤ 48) → S'.2 p = S.2 p) : FS rf P S S' := ⟨fun k hk => h1 k (by omega), fun p p1 p2 => h2 p (by omega), fun p p1 p2 x _ => by rw [h2 p (by omega)], fun p p1 p2 x _ => by rw [h2 p (by omega)], fun q => by rw [h1 20 (by omega)]; exact q⟩
theorem FS.rdf (hrf : rf ≤ 2600) (h : RDF S S' rf P) : FS rf P S S' := ⟨fun k hk => h.1 k (by simp only [List.mem_cons, List.not_mem_nil, or_false]; omega), fun p p1 p2 => h.2.1 p (by omega) (by omega), h.2.2.1, h.2.2.2.2, fun _ => ⟨rf, by omega, h.2.2.2.1.2⟩⟩
theorem FG.rdf (h : RDF S S' rf P) : FG S S' := ⟨fun k hk => h.1 k (by simp only [List.mem_cons, List.not_mem_nil, or_false]; omega), fun p hp => h.2.1 p (by omega) (by omega)⟩
theorem FS.sx {lev : Nat} (h : SX lev S S') : FS rf P S S' := FS.of (fun k hk => h.1 k (by simp only [List.mem_cons, List.not_mem_nil, or_false]; omega)) (fun p hp => h.2.1 p (by omega))
theorem FG.sx {lev : Nat} (h : SX lev S S') : FG S S' := ⟨fun k hk => h.1 k (by simp only [List.mem_cons, List.not_mem_nil, or_false]; omega), fun p hp => h.2.1 p (by omega)⟩
theorem FS.fdr (h : FDR S S') : FS rf P S S' := FS.of (fun k hk => h.1 k (by omega) (by omega)) (fun p hp => h.2 p (by omega) (by omega) (by omega) (by omega) (by omega) (by omega))
theorem FG.fdr (h : FDR S S') : FG S S' := ⟨fun k hk => h.1 k (by omega) (by omega), fun p hp => h.2 p (by omega) (by omega) (by omega) (by omega) (by omega) (by omega)⟩
theorem FS.up {k : Nat} {x : Int32} (h : k ≠ 14 ∧ k ≠ 20 ∧ k ≠ 23) : FS rf P S (va_up S.1 k x, S.2) := FS.of (fun j hj => cp_up_ne (by omega)) (fun _ _ => rfl)
theorem FG.up {k : Nat} {x : Int32} (h : k ≠ 3 ∧ ¬ (79 ≤ k ∧ k ≤ 82)) : FG S (va_up S.1 k x, S.2) := ⟨fun j hj => cp_up_ne (by omega), fun _ _ => rfl⟩
theorem PGE.fr (h : PGE K S) (h1 : K'.2.1 0 3 = K.2.1 0 3) (h2 : K'.2.1 2 = K.2.1 2) (h3 : S'.1 3 = S.1 3) (h4 : S'.2 28 = S.2 28) : PGE K' S' := by
  obtain ⟨w, b1, b2, b3, b4⟩ := h
  exact ⟨w, b1, h1.trans b2, h3.trans b3, fun x hx => by rw [h2, h4]; exact b4 x hx⟩
theorem RSV.fg (h : RSV K S) (fk : FK c K K') (fj : FJ K K') (fg : FG S S') (fs : FS rf P S S') : RSV K' S' := h.fr fk.kfx fj.2.2 fj.1.2 (fun k k1 k2 => fg.1 k (by omega)) (fun p p1 p2 => fg.2 p (by omega)) (fun c _ h => ⟨by rw [fs.2.1 30 (by omega) (by omega)]; exact h, by rw [fs.2.1 31 (by omega) (by omega)]⟩)
theorem INV.fr (h : INV K S Ls rf P) (fk : FK c K K') (fs : FS rf P S S') (t1 : K'.2.1 0 1 = 0) (t2 : S'.1 1 = 0) (h16 : S'.1 16 = nI rf) (hpg : PGE K' S') (hrs : RSV K' S') (hs : K'.2.1 23 4 = S'.1 60) (h58 : S'.1 58 = 0) (hm : rsz K' 7 ≤ 1048576 ∧ rsz K' 9 < 16000 ∧ rsz K' 11 < 16000 ∧ ∃ n, n ≤ 10000 ∧ BS K' n) : INV K' S' Ls rf P ∧ GRW c K K' := by
  obtain ⟨⟨a0, n, a1, a2, a3, tx, a4⟩, b, cc, d, ⟨e1, ⟨e2, e3⟩, e4, e5, e6⟩⟩ := h
  obtain ⟨k1, k2⟩ := fk.2.2.2.2 e5
  have i1 : K'.2.1 1 = K.2.1 1 := fk.1 1 (by omega) (by decide) (by decide) (by decide) (by decide) (by decide) (by decide) (by decide)
  refine ⟨⟨⟨fun j hj => by rw [i1]; exact a0 j hj, 0, by omega, t1, t2, fun _ => 32, fun x hx => absurd hx (by omega)⟩, hpg, ?_, hrs, ⟨hs, ⟨fs.2.2.2.2 e2, h58⟩, hm, k1, by have := fk.2.2.2.1; omega⟩⟩, fk.2.2.2.1, k2⟩
  refine cc.fr fk.kfx (fun x => by rw [fk.2.1 4 (by omega) (by decide) (by decide)]) ?_ ?_ (fun p p1 p2 => fs.2.1 p p1 p2) fs.2.2.1 fs.2.2.2.1 ⟨h16.trans cc.2.2.1.1.symm, fs.1 23 (by omega), fs.1 14 (by omega)⟩
  · rw [fk.1 3 (by omega) (by decide) (by decide) (by decide) (by decide) (by decide) (by decide) (by decide)]
  · exact fk.1 5 (by omega) (by decide) (by decide) (by decide) (by decide) (by decide) (by decide) (by decide)
theorem INV.rf26 (h : INV K S Ls rf P) : rf ≤ 2600 ∧ P ≤ 156 := by
  have h1 := DSK.bd _ _ _ h.2.2.1.1
  have h2 := nodup_26 26 _ (DSK.len _ _ _ h.2.2.1.1) (fun x hx => (DSK.ne _ _ _ h.2.2.1.1 x hx).1)
  omega
/-- opening the text -/
theorem open_m (h : INV K S Ls rf P) : ∃ K1 tx n, KC 8 m_P_openText (fun G => [.ref (cp_b G + 0)]) K (fun _ => none) K1 ∧ (FK 0 K K1 ∧ FJ K K1) ∧ K1.2.1 0 1 = 0 ∧ (rsz K1 7 = 0 ∧ BS K1 0 ∧ rsz K1 9 < 16000 ∧ rsz K1 11 < 16000) ∧ (K1.2.1 23 = K.2.1 23 ∧ K1.1 = K.1) ∧ ∀ K2 S1, K2.2.1 21 = K1.2.1 21 → K2.2.1 1 = K1.2.1 1 → K2.2.2.1 21 = K1.2.2.1 21 → K2.1 = K1.1 → S1.1 1 = S.1 1 → S1.1 16 = S.1 16 → S1.2 27 = S.2 27 → RIN tx n rf K2 S1 := by
  have h26 := h.rf26
  obtain ⟨⟨a0, n, a1, a2, a3, tx, a4⟩, b, cc, d, ⟨e1, ⟨e2, e3⟩, ⟨m1, m2, m3, nb, m4, m5⟩, e5, e6⟩⟩ := h
  obtain ⟨Ka, hKa⟩ : ∃ Ka, Ka = kI (qopen K (K.2.1 0 1)) 0 1 0 := ⟨_, rfl⟩
  obtain ⟨K1, hK1⟩ : ∃ K1, K1 = bcut (kcut Ka 7 0) 0 := ⟨_, rfl⟩
  have kc : KF [7] Ka (kcut Ka 7 0) := KF.cut
  have kb : KF [15, 17, 19] (kcut Ka 7 0) K1 := by rw [hK1]; exact KF.bcut
  have k1 : KF [7, 15, 17, 19] Ka K1 := (kc.sub (by decide)).trans (kb.sub (by decide))
  have wa : Ka.2.2.2 = K.2.2.2 ∧ Ka.1 = K.1 := by rw [hKa]; exact ⟨rfl, rfl⟩
  have ra : ∀ q, rsz Ka q = rsz K q := fun q => by unfold rsz; rw [wa.1]
  have ia : Ka.2.1 = va_up (va_up (va_up K.2.1 21 (va_up (K.2.1 21) 1 (if (nI 80) < K.2.1 0 1 then nI 80 else K.2.1 0 1))) 21 (va_up (va_up (K.2.1 21) 1 (if (nI 80) < K.2.1 0 1 then nI 80 else K.2.1 0 1)) 2 0)) 0 (va_up (K.2.1 0) 1 0) := by
    rw [hKa, kI_i]
    unfold qopen
    rw [kI_i, kI_i, kP_i, va_up_at, cp_up_ne (show (0 : Nat) ≠ 21 by decide), cp_up_ne (show (0 : Nat) ≠ 21 by decide)]
  have sz : (if (nI 80) < K.2.1 0 1 then nI 80 else K.2.1 0 1) = nI n := by rw [a2, if_neg (nI_nlt (by omega) (by omega))]
  rw [sz] at ia
  have ra2 : Ka.2.2.1 = va_up K.2.2.1 21 (va_up (K.2.2.1 21) 0 1) := by rw [hKa]; rfl
  have fa : FK 0 K Ka ∧ FJ K Ka := by
    refine ⟨⟨fun p _ p0 _ _ _ p21 _ _ => by rw [ia, cp_up_ne p0, cp_up_ne p21, cp_up_ne p21], fun p _ _ p21 => by rw [ra2, cp_up_ne p21], fun p _ => by rw [wa.2], by rw [wa.2]; exact Nat.le_refl _, fun k => ⟨fun r hr => ?_, ?_⟩⟩, ⟨⟨?_, ?_⟩, ?_, ?_⟩⟩
    · have := k r hr
      unfold rcap at this ⊢
      rw [wa.1]; exact this
    · unfold k_caps
      rw [wa.1, wa.2]; omega
    · rw [ia, va_up_at, cp_up_ne (by decide)]
    · rw [ia, va_up_at, cp_up_ne (by decide)]
    · rw [ia, cp_up_ne (by decide), cp_up_ne (by decide), cp_up_ne (by decide)]
    · rw [ra2, cp_up_ne (by decide)]
  have zr := kc.2.2.1
  refine ⟨K1, tx, n, c_P_openText (D := 0) ⟨rfl, by rw [hK1, hKa]⟩, ⟨fa.1.trans (FK.kf k1), fa.2.trans (FJ.kf k1)⟩, ?_, ⟨?_, ?_, ?_, ?_⟩, ⟨?_, ?_⟩, fun K2 S1 q1 q2 q3 q4 q5 q6 q7 => ?_⟩
  · rw [k1.1, ia, va_up_at, va_up_at]
  · rw [(kb.2.2.1 7 (by decide)).1]
    have := kcut_sz (K := Ka) (r := 7) (q := 7) (j := 0) (Nat.zero_le _) (by rw [ra]; omega)
    rw [if_pos rfl] at this
    exact this
  · rw [hK1]
    refine bcut_BS (m := 0) (n := nb) ?_ (Nat.zero_le _) (by omega)
    unfold BS
    rw [(zr 15 (by decide)).1, (zr 17 (by decide)).1, (zr 19 (by decide)).1, ra, ra, ra]
    exact m5
  · rw [(k1.2.2.1 9 (by decide)).1, ra]; exact m2
  · rw [(k1.2.2.1 11 (by decide)).1, ra]; exact m3
  · rw [k1.1, ia, cp_up_ne (by decide), cp_up_ne (by decide), cp_up_ne (by decide)]
  · rw [hK1]
    unfold bcut
    rw [kcut_1, kcut_1, kcut_1, kcut_1, wa.2]
  · have i21 : K1.2.1 21 = va_up (va_up (K.2.1 21) 1 (nI n)) 2 0 := by rw [k1.1, ia, cp_up_ne (by decide), va_up_at]
    have i1 : K1.2.1 1 = K.2.1 1 := by rw [k1.1, ia, cp_up_ne (by decide), cp_up_ne (by decide), cp_up_ne (by decide)]
    have r21 : K1.2.2.1 21 = va_up (K.2.2.1 21) 0 1 := by rw [k1.2.1, ra2, va_up_at]
    have n1 : K1.1 = K.1 := by
      rw [hK1]
      unfold bcut
      rw [kcut_1, kcut_1, kcut_1, kcut_1, wa.2]
    refine ⟨⟨by rw [q1, i21, va_up_at]; rfl, by rw [q1, i21, cp_up_ne (by decide), va_up_at], ⟨by rw [q3, r21, va_up_at], by rw [q1, i21, cp_up_ne (by decide), va_up_at]; exact nI_le (b := 80) a1 (by omega), fun j hj => by rw [q2, i1]; exact a0 j hj⟩, by rw [q4, n1]; exact e6⟩, ⟨q5.trans a3, q6.trans cc.2.2.1.1, a1, by omega⟩, fun x hx => by rw [q2, i1, q7]; exact a4 x hx⟩
/-- the page: both copy what is written -/
def SHW (K K' : cp_K) (n : Nat) : Prop := K'.2.1 0 3 = nI n ∧ (∀ x, x < n → K'.2.1 2 x = K.2.1 13 x) ∧ (∀ p, p ≠ 0 → p ≠ 2 → K'.2.1 p = K.2.1 p) ∧ (∀ k, k ≠ 3 → K'.2.1 0 k = K.2.1 0 k) ∧ K'.2.2 = K.2.2 ∧ K'.1 = K.1
theorem show_c {n : Nat} {x1 : Int32} {D : Nat} (hn : n ≤ 100) (hc : ∀ x, x < n → ∃ c, c < 128 ∧ K.2.1 13 x = nI c) (hd : K.2.1 6 4 = nI n) : ∀ (rem i : Nat) (Ki : cp_K), i + rem = n → (∀ x, x < i → Ki.2.1 2 x = K.2.1 13 x) → (∀ p, p ≠ 2 → Ki.2.1 p = K.2.1 p) → Ki.2.2 = K.2.2 → Ki.1 = K.1 → ∃ K', JC (D + 8) m_P_show (fun _ => .inl (some (.int 1))) K' 19 (fun G => [(0, .ref (cp_b G + 0)), (1, .int x1), (2, .int (nI n)), (3, .int (nI i))]) (fun _ => []) Ki ∧ SHW K K' n := by
  intro rem
  induction rem with
  | zero =>
    intro i Ki hi h1 h2 h3 h4
    have : i = n := by omega
    subst this
    refine ⟨kI Ki 0 3 (nI i), b_P_show_19 ⟨fun _ => ⟨rfl, rfl⟩, fun q => absurd (Int32.le_refl _) q⟩, ?_, fun x hx => ?_, fun p p0 p2 => ?_, fun k hk => ?_, h3, h4⟩
    · rw [kI_i, va_up_at, va_up_at]
    · rw [kI_i, cp_up_ne (by decide)]; exact h1 x hx
    · rw [kI_i, cp_up_ne p0]; exact h2 p p2
    · rw [kI_i, va_up_at, cp_up_ne hk, h2 0 (by decide)]
  | succ rem ih =>
    intro i Ki hi h1 h2 h3 h4
    obtain ⟨c, c1, c2⟩ := hc i (by omega)
    obtain ⟨K', a1, a2⟩ := ih (i + 1) (kI Ki 2 i (nI c)) (by omega) (fun x hx => by
      rw [kI_i, va_up_at]
      by_cases e : x = i
      · rw [e, va_up_at, c2]
      · rw [cp_up_ne e]; exact h1 x (by omega)) (fun p hp => by rw [kI_i, cp_up_ne hp]; exact h2 p hp) h3 h4
    refine ⟨K', b_P_show_19 ⟨fun q => absurd ((nI_leq (by omega) (by omega)).mp q) (by omega), fun _ => ⟨nI c, Ki, (c_V_written (D := 0) ?_).mono (by omega), vp_in_nI (show i < 100 by omega) (by decide), ?_⟩⟩, a2⟩
    · unfold wp_V_written_0
      rw [h2 6 (by decide), hd, h2 13 (by decide), nI_clamp (show i < 2 ^ 31 by omega), c2]
      exact ⟨fun q => absurd q (nI_pos (by omega)), fun _ => ⟨fun q => absurd ((nI_leq (by omega) (by omega)).mp q) (by omega), fun _ => ⟨vp_in_nI (show i < 101 by omega) (by decide), rfl, rfl, nar_k c1⟩⟩⟩
    · rw [nI_clamp (show i < 2 ^ 31 by omega), (nar_ch c c1).1, nI_1]
      exact a1
theorem MC_show {n : Nat} (hn : n ≤ 100) : ∃ S', MC 0 m_M_show [.int (nI n)] S (some (.int (nI n))) S' ∧ S'.1 = va_up S.1 3 (nI n) ∧ (∀ p, p ≠ 28 → S'.2 p = S.2 p) ∧ ∀ x, x < n → S'.2 28 x = S.2 29 x := by
  have lp : ∀ (rem i : Nat) (Si : cp_S), i + rem = n → Si.1 = S.1 → (∀ p, p ≠ 28 → Si.2 p = S.2 p) → (∀ x, x < i → Si.2 28 x = S.2 29 x) → ∃ S', JJ 0 m_M_show (some (.int (nI n))) S' 2 [(1, .int (nI n)), (2, .int (nI i))] Si ∧ S'.1 = va_up S.1 3 (nI n) ∧ (∀ p, p ≠ 28 → S'.2 p = S.2 p) ∧ ∀ x, x < n → S'.2 28 x = S.2 29 x := by
    intro rem
    induction rem with
    | zero =>
      intro i Si hi h1 h2 h3
      have : i = n := by omega
      subst this
      exact ⟨(va_up Si.1 3 (nI i), Si.2), b_M_show_2 ⟨fun _ => ⟨rfl, rfl⟩, fun q => absurd (Int32.le_refl _) q⟩, by rw [h1], h2, h3⟩
    | succ rem ih =>
      intro i Si hi h1 h2 h3
      obtain ⟨S', a1, a2⟩ := ih (i + 1) (Si.1, va_up Si.2 28 (upd (Si.2 28) i (Si.2 29 i))) (by omega) h1 (fun p hp => by rw [← h2 p hp]; exact cp_up_ne hp) (fun x hx => by
        show va_up Si.2 28 (upd (Si.2 28) i (Si.2 29 i)) 28 x = _
        rw [va_up_at]
        by_cases e : x = i
        · rw [e, pk_us, h2 29 (by decide)]
        · rw [pk_un e]; exact h3 x (by omega))
      refine ⟨S', b_M_show_2 ⟨fun q => absurd ((nI_leq (by omega) (by omega)).mp q) (by omega), fun _ => ⟨vp_in_nI (show i < 110 by omega) (by decide), vp_in_nI (show i < 100 by omega) (by decide), ?_⟩⟩, a2⟩
      rw [nI_clamp (show i < 2 ^ 31 by omega), nI_1]
      exact a1
  obtain ⟨S', a1, a2⟩ := lp n 0 S (by omega) rfl (fun _ _ => rfl) (fun x hx => absurd hx (by omega))
  exact ⟨S', c_M_show (b_M_show_0 a1), a2⟩
theorem psh {n : Nat} {D : Nat} (hn : n ≤ 100) (hd : K.2.1 0 3 = nI n) : ∀ (rem i : Nat), i + rem = n → (∀ x, x < i → ¬ K.2.1 2 x = 95) → ∃ r : Int32, JC (D + 8) m_P_pageShowsHole (fun _ => .inl (some (.int r))) K 2 (fun G => [(0, .ref (cp_b G + 0)), (1, .int (nI i))]) (fun _ => []) K ∧ (r = 0 ∨ r = 1) ∧ (r = 1 ↔ ∃ x, x < n ∧ K.2.1 2 x = 95) := by
  intro rem
  induction rem with
  | zero =>
    intro i hi h
    have : i = n := by omega
    subst this
    exact ⟨0, b_P_pageShowsHole_2 ⟨fun _ => ⟨rfl, rfl⟩, fun q => absurd (by rw [hd]; exact Int32.le_refl _) q⟩, Or.inl rfl, fun q => absurd q (by decide), fun ⟨x, x1, x2⟩ => absurd x2 (h x x1)⟩
  | succ rem ih =>
    intro i hi h
    have vi : vp_in (nI i) 100 := vp_in_nI (show i < 100 by omega) (by decide)
    have ng : ¬ K.2.1 0 3 ≤ nI i := fun q => by rw [hd] at q; exact absurd ((nI_leq (by omega) (by omega)).mp q) (by omega)
    by_cases e : K.2.1 2 i = 95
    · refine ⟨1, b_P_pageShowsHole_2 ⟨fun q => absurd q ng, fun _ => ⟨vi, fun q => absurd ?_ q, fun _ => ⟨rfl, rfl⟩⟩⟩, Or.inr rfl, fun _ => ⟨i, by omega, e⟩, fun _ => rfl⟩
      rw [nI_clamp (show i < 2 ^ 31 by omega)]; exact e
    · obtain ⟨r, a1, a2⟩ := ih (i + 1) (by omega) (fun x hx => by
        by_cases g : x = i
        · rw [g]; exact e
        · exact h x (by omega))
      refine ⟨r, b_P_pageShowsHole_2 ⟨fun q => absurd q ng, fun _ => ⟨vi, fun _ => ?_, fun q => absurd ?_ e⟩⟩, a2⟩
      · rw [nI_1]; exact a1
      · rw [nI_clamp (show i < 2 ^ 31 by omega)] at q; exact q
theorem MC_noNames : ∃ S', MC 0 m_M_noNames [] S none S' ∧ S'.1 = S.1 ∧ (∀ p, p ≠ 63 → p ≠ 64 → S'.2 p = S.2 p) ∧ ∀ x, x < 26 → S'.2 63 x = -1 ∧ S'.2 64 x = -1 := by
  have lp : ∀ (rem i : Nat) (Si : cp_S), i + rem = 26 → Si.1 = S.1 → (∀ p, p ≠ 63 → p ≠ 64 → Si.2 p = S.2 p) → (∀ x, x < i → Si.2 63 x = -1 ∧ Si.2 64 x = -1) → ∃ S', JJ 0 m_M_noNames none S' 2 [(1, .int (nI i))] Si ∧ S'.1 = S.1 ∧ (∀ p, p ≠ 63 → p ≠ 64 → S'.2 p = S.2 p) ∧ ∀ x, x < 26 → S'.2 63 x = -1 ∧ S'.2 64 x = -1 := by
    intro rem
    induction rem with
    | zero =>
      intro i Si hi h1 h2 h3
      have : i = 26 := by omega
      subst this
      exact ⟨Si, b_M_noNames_2 ⟨fun _ => ⟨rfl, rfl⟩, fun q => absurd (by decide) q⟩, h1, h2, h3⟩
    | succ rem ih =>
      intro i Si hi h1 h2 h3
      obtain ⟨S', a1, a2⟩ := ih (i + 1) (Si.1, va_up (va_up Si.2 63 (upd (Si.2 63) i (-1))) 64 (upd (Si.2 64) i (-1))) (by omega) h1 (fun p hp hp' => by
        rw [← h2 p hp hp']
        show va_up (va_up Si.2 63 (upd (Si.2 63) i (-1))) 64 (upd (Si.2 64) i (-1)) p = Si.2 p
        rw [cp_up_ne hp', cp_up_ne hp]) (fun x hx => by
        show va_up (va_up Si.2 63 (upd (Si.2 63) i (-1))) 64 (upd (Si.2 64) i (-1)) 63 x = -1 ∧ va_up (va_up Si.2 63 (upd (Si.2 63) i (-1))) 64 (upd (Si.2 64) i (-1)) 64 x = -1
        rw [cp_up_ne (by decide), va_up_at, va_up_at]
        by_cases e : x = i
        · rw [e, pk_us, pk_us]; exact ⟨rfl, rfl⟩
        · rw [pk_un e, pk_un e]; exact h3 x (by omega))
      refine ⟨S', b_M_noNames_2 ⟨fun q => absurd ((nI_leq (a := 26) (by omega) (by omega)).mp q) (by omega), fun _ => ⟨vp_in_nI (show i < 260 by omega) (by decide), vp_in_nI (show i < 26 by omega) (by decide), ?_⟩⟩, a2⟩
      rw [nI_clamp (show i < 2 ^ 31 by omega), nI_1]
      exact a1
  obtain ⟨S', a1, a2⟩ := lp 26 0 S (by omega) rfl (fun _ _ _ => rfl) (fun x hx => absurd hx (by omega))
  exact ⟨S', c_M_noNames (b_M_noNames_0 a1), a2⟩
end CPFD
