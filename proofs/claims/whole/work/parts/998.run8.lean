/-! ===== running: + and - ===== -/
section CPRA
variable {S T : cp_S} {e i s x : Nat} {y : Int32}
theorem MC_add_e (h : TOPF S e i s y) (hs : s < 2) (hc : MC 2 m_M_child [.int (nI i), .int (nI s)] S (some (.int (nI x))) S) (m : MC 0 m_M_enter [.int (nI x), .int y] S none T) : MC 3 m_M_add [.int (nI e), .int (nI i), .int (nI s)] S none T := by
  obtain ⟨h1, h2, h3, h4, h5, h6, h7⟩ := h
  refine c_M_add (b_M_add_0 ⟨fun hn => absurd hn (nI_ge (a := s) (b := 2) (by omega) (by omega)), fun _ => ⟨nI x, S, hc, vp_in_nI (show e < 32 by omega) (by decide), T, ?_, rfl, rfl⟩⟩)
  rw [nI_clamp (by omega), h5]
  exact m
theorem MC_add_2 {r0 r1 s0 s1 : Nat} {U V : cp_S} (h : TOPF S e i 2 y) (g0 : S.2 75 (8 * e) = nI r0) (g1 : S.2 75 (8 * e + 1) = nI r1) (m0 : MC 0 m_M_seen [.int (nI r0)] S (some (.int (nI s0))) S) (m1 : MC 0 m_M_seen [.int (nI r1)] S (some (.int (nI s1))) S) (b0 : s0 < 6000) (b1 : s1 < 6000)
    (w : (¬ (S.2 52 s0 = 0 ∧ S.2 52 s1 = 0) → V = fld S) ∧ (S.2 52 s0 = 0 ∧ S.2 52 s1 = 0 → (S.2 39 i = 6 ∨ S.2 39 i = 7) ∧ ∃ r, MC 0 m_M_value [.int 0, .int (if S.2 39 i = 6 then S.2 53 s0 + S.2 53 s1 else S.2 53 s0 - S.2 53 s1)] S (some (.int r)) U ∧ MC 0 m_M_give [.int r] U none V)) : MC 3 m_M_add [.int (nI e), .int (nI i), .int (nI 2)] S none V := by
  obtain ⟨h1, h2, h3, h4, h5, h6, h7⟩ := h
  refine c_M_add (b_M_add_0 ⟨fun _ => ?_, fun hn => absurd (by decide) hn⟩)
  rw [show (8 : Int32) = nI 8 from rfl, pk_mul, nI_clamp (show 8 * e < 2 ^ 31 by omega), g0]
  refine ⟨vp_in_nI (show 8 * e < 256 by omega) (by decide), nI s0, S, m0, ?_⟩
  rw [nI_1, nI_clamp (show 8 * e + 1 < 2 ^ 31 by omega), g1]
  refine ⟨vp_in_nI (show 8 * e + 1 < 256 by omega) (by decide), nI s1, S, m1, vp_in_nI (show s0 < 6000 by omega) (by decide), ?_⟩
  rw [nI_clamp (show s0 < 2 ^ 31 by omega), nI_clamp (show s1 < 2 ^ 31 by omega), nI_clamp (show i < 2 ^ 31 by omega)]
  have v0 : vp_in (nI s0) 6000 := vp_in_nI b0 (by omega)
  have v1 : vp_in (nI s1) 6000 := vp_in_nI b1 (by omega)
  by_cases q0 : S.2 52 s0 = 0
  · refine ⟨fun hn => absurd q0 hn, fun _ => ⟨v1, ?_⟩⟩
    by_cases q1 : S.2 52 s1 = 0
    · refine ⟨fun _ => ⟨vp_in_nI (show i < 2720 by omega) (by decide), ?_⟩, fun hn => absurd q1 hn⟩
      obtain ⟨hop, r, w1, w2⟩ := w.2 ⟨q0, q1⟩
      by_cases q6 : S.2 39 i = 6
      · rw [if_pos q6] at w1
        exact ⟨fun hn => absurd q6 hn, fun _ => ⟨v0, v1, r, U, w1, V, w2, rfl, rfl⟩⟩
      · rw [if_neg q6] at w1
        exact ⟨fun _ => ⟨v0, v1, r, U, w1, V, w2, rfl, rfl⟩, fun hn => absurd hn q6⟩
    · exact ⟨fun hn => absurd hn q1, fun _ => ⟨rfl, w.1 (fun q => q1 q.2)⟩⟩
  · exact ⟨fun _ => ⟨rfl, w.1 (fun q => q0 q.1)⟩, fun hn => absurd hn q0⟩
end CPRA
section CPRR
variable {ar : Nat → Nat} {hl : List Nat} {C : Nat} {K : cp_K} {S : cp_S} {ρ : Nat → Nat → Prop} {nv nc e w B n p frame i : Nat} {y : Int32}
theorem CHN2 {R : Nat → Nat → Nat → Prop} {q i j : Nat} (h : CHN R K 2 q i j) : nd K q 9 ∧ nd K (K.2.2.1 q 6) 9 ∧ ∃ i1, R q i i1 ∧ R (K.2.2.1 q 6) i1 j := by
  obtain ⟨h1, i1, h2, h3, i2, h4, -, h5⟩ := h
  subst h5
  exact ⟨h1, h3, i1, h2, h4⟩
/-- related values are numbers on both sides -/
theorem arn_of {f : Nat → Int32} {N : Nat} {a : Nat → Nat → Int32} (V : VI f N a nv nc ρ hl C) {K : cp_K} (e1 : rat K 7 = f) (e2 : rsz K 7 = N) {u0 s0 u1 s1 : Nat} (h0 : ρ u0 s0) (h1 : ρ u1 s1) : arn K (nI u0) (nI u1) = if a 52 s0 = 0 ∧ a 52 s1 = 0 then 1 else 0 := by
  have hN := V.2.2.2.2.2.2.2
  have b0 := (V.1.1 _ _ h0).1
  have b1 := (V.1.1 _ _ h1).1
  unfold arn
  rw [rget_of (by omega) (by omega), rget_of (by omega) (by omega), e1]
  by_cases q : a 52 s0 = 0 ∧ a 52 s1 = 0
  · rw [if_pos q, if_pos ⟨nI_m1 (by omega), nI_m1 (by omega), (V.h1 h0).mpr q.1, (V.h1 h1).mpr q.2⟩]
  · rw [if_neg q, if_neg (fun h => q ⟨(V.h1 h0).mp h.2.2.1, (V.h1 h1).mp h.2.2.2⟩)]
theorem num_dat {f : Nat → Int32} {N : Nat} {a : Nat → Nat → Int32} (V : VI f N a nv nc ρ hl C) {u s : Nat} (h : ρ u s) (h0 : a 52 s = 0) : f (u + 1) = a 53 s := by
  obtain ⟨-, -, h3⟩ := V.1.1 u s h
  rcases h3 with h3 | h3 | h3 | h3 | h3
  · exact h3.2.2.1
  · rw [h0] at h3; exact absurd h3.2.1 (by decide)
  · rw [h0] at h3; exact absurd h3.2.1 (by decide)
  · rw [h0] at h3; exact absurd h3.2.1 (by decide)
  · rw [h0] at h3; exact absurd h3.2.1 (by decide)
end CPRR
