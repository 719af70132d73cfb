/-! ===== running: [ ===== -/
section CPCH
variable {S T U : cp_S} {e i s x : Nat} {y : Int32}
theorem MC_cho_e (h : TOPF S e i s y) (hs : s < 2) (hc : MC 2 m_M_child [.int (nI i), .int (nI s)] S (some (.int (nI x))) S) (m : MC 0 m_M_enter [.int (nI x), .int y] S none T) : MC 3 m_M_choose [.int (nI e), .int (nI i), .int (nI s)] S none T := by
  obtain ⟨h1, h2, h3, h4, h5, h6, h7⟩ := h
  refine c_M_choose (b_M_choose_0 ⟨fun hn => absurd hn (nI_ge (a := s) (b := 2) (by omega) (by omega)), fun _ => ⟨nI x, S, hc, vp_in_nI (show e < 32 by omega) (by decide), T, ?_, rfl, rfl⟩⟩)
  rw [nI_clamp (by omega), h5]
  exact m
theorem MC_cho_3 {r : Nat} (h : TOPF S e i 3 y) (g : S.2 75 (8 * e + 2) = nI r) (m : MC 0 m_M_give [.int (nI r)] S none T) : MC 3 m_M_choose [.int (nI e), .int (nI i), .int (nI 3)] S none T := by
  obtain ⟨h1, h2, h3, h4, h5, h6, h7⟩ := h
  refine c_M_choose (b_M_choose_0 ⟨fun _ => ⟨fun hn => absurd rfl hn, fun _ => ?_⟩, fun hn => absurd (by decide) hn⟩)
  rw [show (8 : Int32) = nI 8 from rfl, pk_mul, show (2 : Int32) = nI 2 from rfl, nI_add, nI_clamp (show 8 * e + 2 < 2 ^ 31 by omega), g]
  exact ⟨vp_in_nI (show 8 * e + 2 < 256 by omega) (by decide), T, m, rfl, rfl⟩
/-- the decision: yes is 1, 0 or -1 -/
theorem MC_cho_2 {r0 r1 s0 s1 : Nat} {yes : Int32} (h : TOPF S e i 2 y) (g0 : S.2 75 (8 * e) = nI r0) (g1 : S.2 75 (8 * e + 1) = nI r1) (m0 : MC 0 m_M_seen [.int (nI r0)] S (some (.int (nI s0))) S) (m1 : MC 0 m_M_seen [.int (nI r1)] S (some (.int (nI s1))) S) (b0 : s0 < 6000) (b1 : s1 < 6000) (hop : S.2 40 i = 61 ∨ S.2 40 i = 60)
    (weq : S.2 40 i = 61 → MC 2 m_M_compare [.int (nI s0), .int (nI s1)] S (some (.int yes)) U) (wlt : S.2 40 i = 60 → U = S ∧ yes = if S.2 52 s0 = 0 ∧ S.2 52 s1 = 0 then (if S.2 53 s1 ≤ S.2 53 s0 then 0 else 1) else -1) (hy : yes = -1 ∨ yes = 0 ∨ yes = 1) (h74 : U.2 74 e = y)
    (wf : yes = -1 → T = fld U) (wg : yes = 0 → ∃ x, MC 2 m_M_child [.int (nI i), .int 3] U (some (.int (nI x))) U ∧ MC 0 m_M_enter [.int (nI x), .int y] U none T) (w1 : yes = 1 → ∃ x, MC 2 m_M_child [.int (nI i), .int 2] U (some (.int (nI x))) U ∧ MC 0 m_M_enter [.int (nI x), .int y] U none T) : MC 3 m_M_choose [.int (nI e), .int (nI i), .int (nI 2)] S none T := by
  obtain ⟨h1, h2, h3, h4, h5, h6, h7⟩ := h
  have v74 : vp_in (nI e) (cp_ml 74) := vp_in_nI (show e < 32 by omega) (by decide)
  have v0 : vp_in (nI s0) 6000 := vp_in_nI b0 (by omega)
  have v1 : vp_in (nI s1) 6000 := vp_in_nI b1 (by omega)
  have ce : (nI e).toNatClampNeg = e := nI_clamp (by omega)
  refine c_M_choose (b_M_choose_0 ⟨fun _ => ⟨fun _ => ?_, fun hn => absurd hn (by decide)⟩, fun hn => absurd (by decide) hn⟩)
  rw [show (8 : Int32) = nI 8 from rfl, pk_mul, nI_clamp (show 8 * e < 2 ^ 31 by omega), g0]
  refine ⟨vp_in_nI (show 8 * e < 256 by omega) (by decide), nI s0, S, m0, ?_⟩
  rw [nI_1, nI_clamp (show 8 * e + 1 < 2 ^ 31 by omega), g1]
  refine ⟨vp_in_nI (show 8 * e + 1 < 256 by omega) (by decide), nI s1, S, m1, vp_in_nI (show i < 2720 by omega) (by decide), ?_⟩
  rw [nI_clamp (show s0 < 2 ^ 31 by omega), nI_clamp (show s1 < 2 ^ 31 by omega), nI_clamp (show i < 2 ^ 31 by omega)]
  rcases hop with hop | hop
  · -- =
    refine ⟨fun hn => absurd hop hn, fun _ => ⟨yes, U, weq hop, ?_, ?_⟩⟩
    · intro q
      refine ⟨fun q1 => ?_, fun q1 => ?_⟩
      · rcases hy with hy | hy | hy
        · rw [hy] at q; exact absurd q (by decide)
        · obtain ⟨x, c1, c2⟩ := wg hy
          exact ⟨nI x, U, c1, v74, T, by rw [ce, h74]; exact c2, rfl, rfl⟩
        · exact absurd hy q1
      · obtain ⟨x, c1, c2⟩ := w1 q1
        exact ⟨nI x, U, c1, v74, T, by rw [ce, h74]; exact c2, rfl, rfl⟩
    · intro q
      rcases hy with hy | hy | hy
      · exact ⟨rfl, wf hy⟩
      · rw [hy] at q; exact absurd (by decide) q
      · rw [hy] at q; exact absurd (by decide) q
  · -- <
    obtain ⟨rfl, hyes⟩ := wlt hop
    refine ⟨fun _ => ⟨v0, ?_⟩, fun hn => absurd (hop.symm.trans hn) (by decide)⟩
    have no : ¬ (U.2 52 s0 = 0 ∧ U.2 52 s1 = 0) → JJ 3 m_M_choose none T 117 [(1, .int (nI e)), (2, .int (nI i)), (3, .int (nI 2)), (4, .int (nI s0)), (5, .int (nI s1))] U := fun q => by
      rw [if_neg q] at hyes
      exact b_M_choose_117 ⟨fun hn => absurd hn (by decide), fun _ => ⟨rfl, wf hyes⟩⟩
    by_cases q0 : U.2 52 s0 = 0
    · refine ⟨fun hn => absurd q0 hn, fun _ => ⟨v1, ?_⟩⟩
      by_cases q1 : U.2 52 s1 = 0
      · rw [if_pos ⟨q0, q1⟩] at hyes
        refine ⟨fun _ => ⟨v0, v1, fun q => ?_, fun q => ?_⟩, fun hn => absurd q1 hn⟩
        · rw [if_pos q] at hyes
          obtain ⟨x, c1, c2⟩ := wg hyes
          exact ⟨fun _ => ⟨fun _ => ⟨nI x, U, c1, v74, T, by rw [ce, h74]; exact c2, rfl, rfl⟩, fun hn => absurd hn (by decide)⟩, fun hn => absurd (by decide) hn⟩
        · rw [if_neg q] at hyes
          obtain ⟨x, c1, c2⟩ := w1 hyes
          exact ⟨fun _ => ⟨fun hn => absurd rfl hn, fun _ => ⟨nI x, U, c1, v74, T, by rw [ce, h74]; exact c2, rfl, rfl⟩⟩, fun hn => absurd (by decide) hn⟩
      · exact ⟨fun hn => absurd hn q1, fun _ => no (fun q => q1 q.2)⟩
    · exact ⟨fun _ => no (fun q => q0 q.1), fun hn => absurd hn q0⟩
end CPCH
section CPCC
variable {D p q0 q1 : Nat} {x2 x3 r5 r8 : Int32} {K T3 T6 K' : cp_K} {o : cp_G → cp_O}
theorem cho_cls (hp : nd K p 9) (e4 : K.2.2.1 p 4 = q0) (n0 : nd K q0 9) (e6 : K.2.2.1 q0 6 = q1) (n1 : ¬ q1 = 0) (k0 : KC (D + 7) m_U_workAndLook (fun G => [.ref (cp_b G + 23), va_rf (kr G q0), .int (x2 + 1), .int x3]) K (fun _ => some (.int r5)) T3) (h5 : ¬ r5 = -1) (k1 : KC (D + 7) m_U_workAndLook (fun G => [.ref (cp_b G + 23), va_rf (kr G q1), .int (x2 + 1), .int x3]) T3 (fun _ => some (.int r8)) T6) (np : nd T6 p 9)
    (w : (r8 = -1 → o = (fun _ => .inl (some (.int (-1)))) ∧ K' = T6) ∧ (¬ r8 = -1 → (¬ T6.2.1 p 0 = 12 → JC (D + 8) m_U_choose o K' 101 (fun G => [(0, .ref (cp_b G + 23)), (1, va_rf (kr G p)), (2, .int x2), (3, .int x3), (4, va_rf (kr G q0)), (5, va_rf (kr G q1)), (6, .int r5), (7, .int r8), (8, .int 0)]) (fun _ => []) T6) ∧ (T6.2.1 p 0 = 12 → (¬ arn T6 r5 r8 = 0 → JC (D + 8) m_U_choose o K' 101 (fun G => [(0, .ref (cp_b G + 23)), (1, va_rf (kr G p)), (2, .int x2), (3, .int x3), (4, va_rf (kr G q0)), (5, va_rf (kr G q1)), (6, .int r5), (7, .int r8), (8, .int 1)]) (fun _ => []) T6) ∧ (arn T6 r5 r8 = 0 → o = (fun _ => .inl (some (.int (-1)))) ∧ K' = T6)))) : wp_U_choose_0 D o K' K p x2 x3 := by
  subst e4
  subst e6
  have h0 : ¬ K.2.2.1 p 4 = 0 := by have := n0.1; omega
  refine ⟨hp, fun _ => ⟨n0, r5, T3, k0, fun _ => ⟨r8, T6, k1, np, fun q => ⟨fun hn => absurd hn n1, fun _ => ⟨w.1, fun h8 => (w.2 h8).1 q⟩⟩, fun q => ⟨fun hn => absurd hn n1, fun _ => ⟨w.1, fun h8 => (w.2 h8).2 q⟩⟩⟩, fun hn => absurd hn h5⟩, fun hn => absurd hn h0⟩
theorem cho_f1 (hp : nd K p 9) (e4 : K.2.2.1 p 4 = q0) (n0 : nd K q0 9) (n1 : ¬ K.2.2.1 q0 6 = 0) (k0 : KC (D + 7) m_U_workAndLook (fun G => [.ref (cp_b G + 23), va_rf (kr G q0), .int (x2 + 1), .int x3]) K (fun _ => some (.int (-1))) T3) (np : nd T3 p 9) (w : o = (fun _ => .inl (some (.int (-1)))) ∧ K' = T3) : wp_U_choose_0 D o K' K p x2 x3 := by
  subst e4
  have h0 : ¬ K.2.2.1 p 4 = 0 := by have := n0.1; omega
  refine ⟨hp, fun _ => ⟨n0, -1, T3, k0, fun hn => absurd rfl hn, fun _ => ⟨np, fun _ => ⟨fun hn => absurd hn n1, fun _ => w⟩, fun _ => ⟨fun hn => absurd hn n1, fun _ => w⟩⟩⟩, fun hn => absurd hn h0⟩
end CPCC
theorem WPO.cmp {ar : Nat → Nat} {hl : List Nat} {C : Nat} {K K1 K2 : cp_K} {S S1 S2 : cp_S} {ρ ρ1 : Nat → Nat → Prop} {nv nc nv1 nc1 e w w1 B n n1 c1 u1 : Nat} (h : WPO ar hl C K S ρ nv nc e w B n K1 S1 ρ1 nv1 nc1 w1 n1 c1 u1) (hh : ∀ h ∈ hl, h + 3 ≤ rsz K1 7) (kf : KF [11] K1 K2) (h11 : rsz K2 11 < 16000) (fc : FC S1 S2) : WPO ar hl C K S ρ nv nc e w B n K2 S2 ρ1 nv1 nc1 w1 n1 c1 u1 := by
  obtain ⟨⟨V, hA, h3⟩, ⟨h4, h5, h6, h7, h8, h9⟩, ⟨h10, h11', h12, h13⟩, ⟨a1, a2, a3, a4, a5, a6, a7, a8⟩, ⟨f1, f2, f3, f4, f5⟩, h15, h16⟩ := h
  have k7 := kf.2.2.1 7 (by decide)
  have a2' : ∀ p, p < 58 ∨ 60 < p → S2.2 p = S1.2 p := fun p hp => fc.2 p (by omega) (by omega) (by omega)
  refine ⟨⟨?_, by rw [k7.2]; exact hA, h3⟩, ⟨KU.trans h4 (KU.of kf (KU.s h4) (by decide)), ⟨?_, ?_, ?_⟩, fun q hq x hx => ?_, by omega, by omega, fun x hx => by rw [k7.2]; exact h9 x hx⟩, ⟨?_, ?_, ?_, ?_⟩, ⟨a1, a2, a3, a4, a5, a6, ?_, h11⟩, ⟨fun k hk => ?_, fun p hp => ?_, fun p p1 p2 x hx => ?_, fun x hx => ?_, fun p p1 p2 x hx => ?_⟩, fun p p1 p2 r hr => ?_, fun t ht => ?_⟩
  · rw [k7.1, k7.2]; exact V.ga hh (fun p p1 p2 => a2' p (by omega))
  · rw [(kf.2.2.1 15 (by decide)).1]; exact h5.1
  · rw [(kf.2.2.1 17 (by decide)).1]; exact h5.2.1
  · rw [(kf.2.2.1 19 (by decide)).1]; exact h5.2.2
  · rw [(kf.2.2.1 q (by simp; omega)).2]; exact h6 q hq x hx
  · rw [fc.1 35 (by decide)]; exact h10
  · rw [fc.1 40 (by decide)]; exact h11'
  · rw [fc.1 61 (by decide)]; exact h12
  · rw [fc.1 60 (by decide)]; exact h13
  · rw [(kf.2.2.1 9 (by decide)).1]; exact a7
  · rw [fc.1 k (fun q => hk (by rw [q]; decide))]; exact f1 k hk
  · by_cases hp2 : p < 58 ∨ 60 < p
    · rw [a2' p hp2]; exact f2 p hp
    · omega
  · rw [a2' p (by omega)]; exact f3 p p1 p2 x hx
  · rw [a2' 75 (by omega)]; exact f4 x hx
  · rw [a2' p (by omega)]; exact f5 p p1 p2 x hx
  · rw [a2' p (by omega)]; exact h15 p p1 p2 r hr
  · rw [a2' 56 (by omega)]; exact h16 t ht
