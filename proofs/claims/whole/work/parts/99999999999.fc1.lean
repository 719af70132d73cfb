/-! ===== the face: refusing, opening the text, retracting ===== -/
section CPFB
variable {K K' : cp_K} {S S' : cp_S} {Ls : List Nat} {rf P : Nat}
theorem kN_KFX {c : Nat} : KFX K (kN K c) := ⟨Nat.le_succ _, fun q _ q2 => ⟨cp_up_ne (by omega), cp_up_ne (by omega), cp_up_ne (by omega)⟩⟩
theorem kN_i {c p : Nat} (h : p < K.1.1) : (kN K c).2.1 p = K.2.1 p := cp_up_ne (by omega)
theorem kN_r {c p : Nat} (h : p < K.1.1) : (kN K c).2.2.1 p = K.2.2.1 p := cp_up_ne (by omega)
theorem GRW.kN {c : Nat} : GRW 1 K (kN K c) := ⟨Nat.le_succ _, by show 64 * (K.1.1 + 1) + k_caps K ≤ 64 * (K.1.1 + 1) + k_caps K; omega⟩
theorem INV.kn (h : INV K S Ls rf P) {c : Nat} : INV (kN K c) S Ls rf P := by
  obtain ⟨⟨a0, n, a1, a2, a3, tx, a4⟩, ⟨w, b1, b2, b3, b4⟩, cc, d, e⟩ := h
  have h86 := e.2.2.2.2
  have ki : ∀ p, p < 86 → (kN K c).2.1 p = K.2.1 p := fun p hp => kN_i (by omega)
  refine ⟨⟨fun j hj => by rw [ki 1 (by omega)]; exact a0 j hj, n, a1, by rw [ki 0 (by omega)]; exact a2, a3, tx, fun x hx => by rw [ki 1 (by omega)]; exact a4 x hx⟩, ⟨w, b1, by rw [ki 0 (by omega)]; exact b2, b3, fun x hx => by rw [ki 2 (by omega)]; exact b4 x hx⟩, cc.fr kN_KFX (fun x => by rw [kN_r (by omega)]) (by rw [ki 3 (by omega)]) (ki 5 (by omega)) (fun _ _ _ => rfl) (fun _ _ _ _ _ => rfl) (fun _ _ _ _ _ => rfl) ⟨rfl, rfl, rfl⟩, d.fr kN_KFX (by rw [kN_r (by omega)]) (by rw [ki 0 (by omega)]) (fun _ _ _ => rfl) (fun _ _ _ => rfl) (fun _ _ h => ⟨h, rfl⟩), ?_⟩
  obtain ⟨e1, e2, e3, e4, e5⟩ := e
  exact ⟨by rw [ki 23 (by omega)]; exact e1, e2, e3, e4, by show 86 ≤ K.1.1 + 1; omega⟩
/-- refusing a letter -/
theorem refuse_m (h : INV K S Ls rf P) {c : Nat} (hc : c < 65536) :
    (¬ (65 ≤ c ∧ c ≤ 90) ∧ KT 8 m_P_refuseUnlessFree (fun G => [.ref (cp_b G + 0), .int (nI c)]) K 12 K.1.1 (kN K 99) ∧ MC 1 m_M_mayName [.int (nI c)] S (some (.int 0)) (va_up S.1 0 1, S.2)) ∨
    ((65 ≤ c ∧ c ≤ 90) ∧ ¬ S.2 30 (c - 65) = 0 ∧ KT 8 m_P_refuseUnlessFree (fun G => [.ref (cp_b G + 0), .int (nI c)]) K 13 K.1.1 (kN K 99) ∧ MC 1 m_M_mayName [.int (nI c)] S (some (.int 0)) (va_up S.1 0 2, S.2)) ∨
    ((65 ≤ c ∧ c ≤ 90) ∧ (S.2 30 (c - 65) = 0 ∧ K.2.2.1 4 (c - 65) = 0 ∧ ¬ (c - 65) ∈ Ls) ∧ KC 8 m_P_refuseUnlessFree (fun G => [.ref (cp_b G + 0), .int (nI c)]) K (fun _ => none) K ∧ MC 1 m_M_mayName [.int (nI c)] S (some (.int 1)) (va_up S.1 0 0, S.2)) := by
  have fl := find_L h hc
  obtain ⟨l1, l0⟩ := let_c hc
  have i1 : (65 ≤ nI c ∧ nI c ≤ 90) ↔ (65 ≤ c ∧ c ≤ 90) := by
    rw [show (65 : Int32) = nI 65 from rfl, show (90 : Int32) = nI 90 from rfl, nI_leq (by omega) (by omega), nI_leq (by omega) (by omega)]
  by_cases hl : 65 ≤ c ∧ c ≤ 90
  · rw [if_pos hl] at fl
    obtain ⟨l2, l3⟩ := l1 hl
    have vi : vp_in (nI (c - 65)) 26 := vp_in_nI (show c - 65 < 26 by omega) (by decide)
    have one : ¬ ((if 65 ≤ nI c ∧ nI c ≤ 90 then 1 else 0 : Int32) = 0) := by rw [if_pos (i1.mpr hl)]; decide
    have used : ¬ S.2 30 (c - 65) = 0 → nd K (K.2.2.1 4 (c - 65)) 10 → KT 8 m_P_refuseUnlessFree (fun G => [.ref (cp_b G + 0), .int (nI c)]) K 13 K.1.1 (kN K 99) ∧ MC 1 m_M_mayName [.int (nI c)] S (some (.int 0)) (va_up S.1 0 2, S.2) := fun q1 q2 => by
      have ne : ¬ K.2.2.1 4 (c - 65) = 0 := fun e => by have := q2.1; omega
      refine ⟨t_P_refuseUnlessFree (D := 0) ⟨fun _ => ?_, fun q => absurd q one⟩, c_M_mayName (b_M_mayName_0 ⟨1, l2, fun _ => ?_, fun q => absurd q (by decide)⟩)⟩
      · rw [fl]
        exact ⟨fun q => absurd q ne, fun _ => ⟨rfl, rfl⟩⟩
      · rw [l3, nI_clamp (by omega)]
        exact ⟨vi, fun q => absurd q q1, fun _ => ⟨fun _ => ⟨rfl, rfl, rfl⟩, fun q => absurd q (by decide)⟩⟩
    rcases ent_L h.2.2.1 (show c - 65 < 26 by omega) with ⟨q1, q2⟩ | ⟨q1, q2, q3, -⟩ | ⟨q1, q2, q3, -⟩
    · refine Or.inr (Or.inr ⟨hl, ⟨q1, q2, fun hm => ?_⟩, c_P_refuseUnlessFree (D := 0) ⟨fun _ => ?_, fun q => absurd q one⟩, c_M_mayName (b_M_mayName_0 ⟨1, l2, fun _ => ?_, fun q => absurd q (by decide)⟩)⟩)
      · rcases (DSK.ne _ _ _ h.2.2.1.1 _ hm).2.1 with e | e
        · rw [q1] at e; exact absurd e (by decide)
        · rw [q1] at e; exact absurd e (by decide)
      · rw [fl]
        exact ⟨fun _ => ⟨rfl, rfl⟩, fun q => absurd q2 q⟩
      · rw [l3, nI_clamp (by omega)]
        exact ⟨vi, fun _ => ⟨fun q => absurd rfl q, fun _ => ⟨rfl, rfl, rfl⟩⟩, fun q => absurd q1 q⟩
    · have q0 : ¬ S.2 30 (c - 65) = 0 := by rw [q1]; decide
      obtain ⟨u1, u2⟩ := used q0 q2
      exact Or.inr (Or.inl ⟨hl, q0, u1, u2⟩)
    · have q0 : ¬ S.2 30 (c - 65) = 0 := by rw [q1]; decide
      obtain ⟨u1, u2⟩ := used q0 q2
      exact Or.inr (Or.inl ⟨hl, q0, u1, u2⟩)
  · have nul : (if 65 ≤ nI c ∧ nI c ≤ 90 then 1 else 0 : Int32) = 0 := if_neg (fun q => hl (i1.mp q))
    exact Or.inl ⟨hl, t_P_refuseUnlessFree (D := 0) ⟨fun q => absurd nul q, fun _ => ⟨rfl, rfl⟩⟩, c_M_mayName (b_M_mayName_0 ⟨0, l0 hl, fun q => absurd rfl q, fun _ => ⟨fun _ => ⟨rfl, rfl, rfl⟩, fun q => absurd q (by decide)⟩⟩)⟩
/-- retracting -/
theorem f_retract (h : INV K S Ls rf P) :
    (KT 8 m_P_retract (fun G => [.ref (cp_b G + 0)]) K 13 K.1.1 (kN K 99) ∧ MC 0 m_M_retract [] S (some (.int 0)) (va_up S.1 0 1, S.2)) ∨
    ∃ r K' S' Ls' rf' P', KC 8 m_P_retract (fun G => [.ref (cp_b G + 0)]) K (fun _ => some (.int r)) K' ∧ MC 0 m_M_retract [] S (some (.int r)) S' ∧ INV K' S' Ls' rf' P' ∧ S'.1 0 = 0 ∧ GRW 0 K K' := by
  obtain ⟨⟨a0, n, a1, a2, a3, tx, a4⟩, ⟨w, b1, b2, b3, b4⟩, ⟨c1, c2, ⟨c3, c4⟩, ⟨c5, c6⟩, c7⟩, d, e⟩ := h
  cases Ls with
  | nil =>
    have z1 : K.2.1 3 2 = 0 := c5
    have z2 : S.1 14 = 0 := c6
    refine Or.inl ⟨t_P_retract (D := 0) ⟨fun q => absurd q (by rw [if_pos z1]; decide), fun _ => ⟨rfl, rfl⟩⟩, c_M_retract (b_M_retract_0 ⟨fun q => absurd z2 q, fun _ => ⟨fun q => absurd q (by decide), fun _ => ⟨rfl, rfl, rfl⟩⟩⟩)⟩
  | cons l Ls =>
    have hln := nodup_26 26 _ (DSK.len _ _ _ c1) (fun x hx => (DSK.ne _ _ _ c1 x hx).1)
    rw [List.length_cons] at c5 c6 hln
    have hne := DSK.ne _ _ _ c1
    obtain ⟨l1, l2, l3, rf0, P0, l4, l5, l6, l7, l8, l9, -, l11⟩ := c1
    obtain ⟨s1, s2, s3⟩ := c7
    have p1 : nI (Ls.length + 1) - 1 = nI Ls.length := nI_pred _
    have nz : ¬ nI (Ls.length + 1) = 0 := nI_ne0 (by omega) (by omega)
    have e65 : nI (65 + l) - 65 = nI l := by
      have := pk_sub (a := 65 + l) (b := 65) (by omega)
      rw [show 65 + l - 65 = l by omega] at this
      exact this
    obtain ⟨K', hK'⟩ : ∃ K', K' = kP (kI (kP K 0 11 0) 3 2 (nI Ls.length)) 4 l 0 := ⟨_, rfl⟩
    have ki : K'.2.1 = va_up K.2.1 3 (va_up (K.2.1 3) 2 (nI Ls.length)) := by rw [hK']; rfl
    have kr : K'.2.2.1 = va_up (va_up K.2.2.1 0 (va_up (K.2.2.1 0) 11 0)) 4 (va_up (K.2.2.1 4) l 0) := by rw [hK']; rfl
    have k1 : K'.1 = K.1 ∧ K'.2.2.2 = K.2.2.2 := by rw [hK']; exact ⟨rfl, rfl⟩
    have kq : ∀ p, p ≠ 3 → K'.2.1 p = K.2.1 p := fun p hp => by rw [ki, cp_up_ne hp]
    have k4 : ∀ c, c ≠ l → K'.2.2.1 4 c = K.2.2.1 4 c := fun c hc => by rw [kr, va_up_at, cp_up_ne hc]
    have kf : KFX K K' := ⟨by rw [k1.1]; exact Nat.le_refl _, fun q q1 _ => ⟨by rw [k1.1], kq q (by omega), by rw [kr, cp_up_ne (by omega), cp_up_ne (by omega)]⟩⟩
    obtain ⟨S', hS'⟩ : ∃ S' : cp_S, S' = (va_up (va_up (va_up (va_up (va_up S.1 0 0) 14 (nI Ls.length)) 16 (nI rf0)) 23 (nI P0)) 79 0, va_up S.2 30 (upd (S.2 30) l 0)) := ⟨_, rfl⟩
    have hS1 : S'.1 = va_up (va_up (va_up (va_up (va_up S.1 0 0) 14 (nI Ls.length)) 16 (nI rf0)) 23 (nI P0)) 79 0 := by rw [hS']
    have hS2 : S'.2 = va_up S.2 30 (upd (S.2 30) l 0) := by rw [hS']
    have sk : ∀ k, k ∉ ([0, 14, 16, 23, 79] : List Nat) → S'.1 k = S.1 k := fun k hk => by
      simp only [List.mem_cons, List.not_mem_nil, or_false, not_or] at hk
      rw [hS1, cp_up_ne hk.2.2.2.2, cp_up_ne hk.2.2.2.1, cp_up_ne hk.2.2.1, cp_up_ne hk.2.1, cp_up_ne hk.1]
    have sa : ∀ p, p ≠ 30 → S'.2 p = S.2 p := fun p hp => by rw [hS2, cp_up_ne hp]
    have s30 : ∀ c, c ≠ l → S'.2 30 c = S.2 30 c := fun c hc => by rw [hS2, va_up_at, pk_un hc]
    have dl : ∀ c ∈ Ls, c ≠ l := fun c hc e => l2 (e ▸ hc)
    have bd := DSK.bd _ _ _ l11
    refine Or.inr ⟨nI (65 + l), K', S', Ls, rf0, P0, c_P_retract (D := 0) ⟨fun _ => ⟨nI (65 + l), K', c_D_removeLatest (D := 1) ?_, rfl, rfl, nar_k (by omega)⟩, fun q => absurd (by rw [c5, if_neg nz]) q⟩, c_M_retract (b_M_retract_0 ?_), ⟨⟨fun j hj => by rw [kq 1 (by decide)]; exact a0 j hj, n, a1, by rw [kq 0 (by decide)]; exact a2, by rw [sk 1 (by decide)]; exact a3, tx, fun x hx => by rw [kq 1 (by decide), sa 27 (by decide)]; exact a4 x hx⟩, ⟨w, b1, by rw [kq 0 (by decide)]; exact b2, by rw [sk 3 (by decide)]; exact b3, fun x hx => by rw [kq 2 (by decide), sa 28 (by decide)]; exact b4 x hx⟩, ⟨DSK.ft kf _ _ _ (fun p p1 p2 x _ => by rw [sa p (by omega)]) (fun p p1 p2 x _ => by rw [sa p (by omega)]) (fun c hc => ⟨k4 c (dl c hc), fun p p1 p2 => ?_, fun x _ => by rw [sa 37 (by decide)]⟩) l11, fun c hc hm => ?_, ⟨?_, ?_⟩, ⟨?_, ?_⟩, ?_⟩, Or.inl ⟨?_, ?_⟩, ?_⟩, ?_, GRW.of k1.1 k1.2⟩
    · unfold wp_D_removeLatest_0
      have t32 : (kP K 0 11 0).2.1 3 2 = nI (Ls.length + 1) := c5
      rw [t32, p1]
      have u32 : (kI (kP K 0 11 0) 3 2 (nI Ls.length)).2.1 3 2 = nI Ls.length := by rw [kI_i, va_up_at, va_up_at]
      have u5 : (kI (kP K 0 11 0) 3 2 (nI Ls.length)).2.1 5 Ls.length = nI (65 + l) := by rw [kI_i, cp_up_ne (by decide)]; exact s1
      rw [u32, nI_clamp (show Ls.length < 2 ^ 31 by omega), u5, e65, nI_clamp (show l < 2 ^ 31 by omega)]
      exact ⟨fun _ => ⟨vp_in_nI (show Ls.length < 26 by omega) (by decide), fun q => absurd q (nI_pos (by omega)), fun _ => ⟨fun q => absurd ((nI_leq (a := 26) (by omega) (by omega)).mp q) (by omega), fun _ => ⟨vp_in_nI l1 (by decide), rfl, hK', nar_k (by omega)⟩⟩⟩, fun q => absurd q nz⟩
    · unfold wp_M_retract_0
      rw [c6, p1, nI_clamp (show Ls.length < 2 ^ 31 by omega), s2, nI_clamp (show l < 2 ^ 31 by omega), l4, l5]
      have ech : (Int32.toUInt32 (65 + nI l) % 65536).toInt32 = nI (65 + l) := by
        rw [show (65 : Int32) = nI 65 from rfl, nI_add]
        exact (nar_ch _ (by omega)).2
      rw [ech]
      have vl : vp_in (nI l) 26 := vp_in_nI l1 (by decide)
      exact ⟨fun _ => ⟨fun _ => ⟨vp_in_nI (show Ls.length < 26 by omega) (by decide), vl, vl, vl, rfl, hS', nar_k (by omega)⟩, fun q => absurd (by decide) q⟩, fun q => absurd q nz⟩
    · by_cases hp : p = 30
      · subst hp; exact s30 c (dl c hc)
      · rw [sa p hp]
    · by_cases hcl : c = l
      · subst hcl
        exact ⟨by rw [hS2, va_up_at, pk_us], by rw [kr, va_up_at, va_up_at]⟩
      · rw [s30 c hcl, k4 c hcl]
        exact c2 c hc (fun q => (List.mem_cons.mp q).elim hcl hm)
    · rw [hS1, cp_up_ne (by decide), cp_up_ne (by decide), va_up_at]
    · rw [hS1, cp_up_ne (by decide), va_up_at]
    · rw [ki, va_up_at, va_up_at]
    · rw [hS1, cp_up_ne (by decide), cp_up_ne (by decide), cp_up_ne (by decide), va_up_at]
    · rw [kq 5 (by decide), sa 38 (by decide)]; exact s3
    · rw [kr, cp_up_ne (by decide), va_up_at, va_up_at]
    · rw [hS1, va_up_at]
    · obtain ⟨e1, ⟨e2, e3⟩, ⟨e4, e5, e6, m, e7, e8⟩, e9, e10⟩ := e
      have rr : ∀ q, rsz K' q = rsz K q := fun q => by unfold rsz; rw [k1.2]
      refine ⟨by rw [kq 23 (by decide), sk 60 (by decide)]; exact e1, ⟨by rw [sk 20 (by decide)]; exact e2, by rw [sk 58 (by decide)]; exact e3⟩, ⟨by rw [rr]; exact e4, by rw [rr]; exact e5, by rw [rr]; exact e6, m, e7, by unfold BS; rw [rr, rr, rr]; exact e8⟩, ?_, by rw [k1.1]; exact e10⟩
      intro r hr
      have := e9 r hr
      unfold rcap at this ⊢
      rw [k1.2]
      exact this
    · rw [hS1, cp_up_ne (by decide), cp_up_ne (by decide), cp_up_ne (by decide), cp_up_ne (by decide), va_up_at]
end CPFB
