/-! ===== running: { }, which case fits ===== -/
def FIT (a : Nat → Nat → Int32) (s i : Nat) : Prop := a 39 i = 11 ∨ (a 39 i = 12 ∧ a 52 s = 0 ∧ a 53 s = a 40 i) ∨ (a 39 i = 13 ∧ a 52 s = 3 ∧ a 53 s = a 40 i)
section CPFI
variable {f : Nat → Int32} {N : Nat} {a : Nat → Nat → Int32} {nv nc C : Nat} {ρ : Nat → Nat → Prop} {hl : List Nat} {ar : Nat → Nat} {K : cp_K} {u s p i : Nat} {vs : List Nat}
theorem VI.d1 (V : VI f N a nv nc ρ hl C) (h : ρ u s) (h1 : f u = 1) : f (u + 1) = a 53 s := num_dat V h ((V.h1 h).mp h1)
theorem VI.d6 (V : VI f N a nv nc ρ hl C) (h : ρ u s) (h1 : f u = 6) : ∃ l m t, l < 26 ∧ m ≤ 6 ∧ f (u + 1) = nI (65 + l) ∧ a 53 s = nI l ∧ f (u + 2) = nI m ∧ a 55 s = nI m ∧ a 54 s = nI t ∧ t + m ≤ nc ∧ u + 3 + m ≤ N ∧ ∀ i, i < m → ∃ v' r', f (u + 3 + i) = nI v' ∧ a 56 (t + i) = nI r' ∧ ρ v' r' := by
  obtain ⟨-, -, h3⟩ := V.1.1 u s h
  rcases h3 with h3 | h3 | h3 | h3 | h3
  · rw [h1] at h3; exact absurd h3.1 (by decide)
  · rw [h1] at h3; exact absurd h3.1 (by decide)
  · rw [h1] at h3; exact absurd h3.1 (by decide)
  · rw [h1] at h3; exact absurd h3.1 (by decide)
  · exact h3.2.2
theorem fit_iff (V : VI f N a nv nc ρ hl C) (e1 : rat K 7 = f) (e2 : rsz K 7 = N) (h : ρ u s) (n4 : ¬ f u = 4) (pt : PTN K a ar p i vs) : ¬ ufit K p (nI u) = 0 ↔ FIT a s i := by
  have hN := V.2.2.2.2.2.2.2
  have hb := (V.1.1 u s h).1
  unfold ufit
  rw [nI_1, rget_of (by omega) (by omega), rget_of (by omega) (by omega), e1]
  have cond : ∀ P : Prop, [Decidable P] → (¬ (if P then (1 : Int32) else 0) = 0 ↔ P) := fun P _ => by
    by_cases q : P
    · rw [if_pos q]; exact ⟨fun _ => q, fun _ => by decide⟩
    · rw [if_neg q]; exact ⟨fun h => absurd rfl h, fun h => absurd h q⟩
  rw [cond]
  obtain ⟨-, -, -, pt⟩ := pt
  unfold FIT
  rcases pt with ⟨p1, p2, -⟩ | ⟨p1, p2, p3, -⟩ | ⟨p1, p2, c, p3, p4, p5, p6⟩
  · exact ⟨fun _ => Or.inl p2, fun _ => Or.inl p1⟩
  · rw [p1, p2, ← p3]
    constructor
    · rintro (q | ⟨q1, q2⟩)
      · exact absurd q (by decide)
      · exact Or.inr (Or.inl ⟨rfl, (V.h1 h).mp q1.symm, by rw [← V.d1 h q1.symm]; exact q2.symm⟩)
    · rintro (q | ⟨-, q1, q2⟩ | ⟨q, -⟩)
      · exact absurd q (by decide)
      · have := (V.h1 h).mpr q1
        exact Or.inr ⟨this.symm, by rw [V.d1 h this]; exact q2.symm⟩
      · exact absurd q (by decide)
  · rw [p1, p2, p4, p5]
    constructor
    · rintro (q | ⟨q1, q2⟩)
      · exact absurd q (by decide)
      · obtain ⟨l, m, t, g1, g2, g3, g4, -⟩ := V.d6 h q1.symm
        rw [g3] at q2
        have := (nI_eq (by omega) (by omega)).mp q2
        have : c = l := by omega
        subst this
        exact Or.inr (Or.inr ⟨rfl, (V.h6 h).mp q1.symm, g4⟩)
    · rintro (q | ⟨q, -⟩ | ⟨-, q1, q2⟩)
      · exact absurd q (by decide)
      · exact absurd q (by decide)
      · have q6 := (V.h6 h).mpr q1
        obtain ⟨l, m, t, g1, g2, g3, g4, -⟩ := V.d6 h q6
        rw [g4] at q2
        have := (nI_eq (by omega) (by omega)).mp q2
        subst this
        exact Or.inr ⟨q6.symm, g3.symm⟩
theorem fit_args (V : VI f N a nv nc ρ hl C) (A : AR ar f ρ) (h : ρ u s) (pt : PTN K a ar p i vs) (hf : FIT a s i) : ∃ tt, (0 < vs.length → a 54 s = nI tt ∧ tt + vs.length ≤ 6000 ∧ u + 3 + vs.length ≤ N) ∧ ∀ x, x < vs.length → ∃ v r, f (u + 3 + x) = nI v ∧ v < 2 ^ 31 ∧ a 56 (tt + x) = nI r ∧ ρ v r := by
  have hN := V.2.2.2.2.2.2.2
  have hnc := V.2.2.2.2.2.2.1
  obtain ⟨-, -, -, pt⟩ := pt
  rcases pt with ⟨p1, p2, rfl⟩ | ⟨p1, p2, p3, rfl⟩ | ⟨p1, p2, c, p3, p4, p5, p6⟩
  · exact ⟨0, fun h => (by cases h), fun x hx => by cases hx⟩
  · exact ⟨0, fun h => (by cases h), fun x hx => by cases hx⟩
  · have q : a 52 s = 3 ∧ a 53 s = a 40 i := by
      rcases hf with q | ⟨q, -⟩ | ⟨-, q⟩
      · rw [p2] at q; exact absurd q (by decide)
      · rw [p2] at q; exact absurd q (by decide)
      · exact q
    have q6 := (V.h6 h).mpr q.1
    obtain ⟨l, m, t, g1, g2, g3, g4, g5, g6, g7, g8, g9, g10⟩ := V.d6 h q6
    rw [g4, p5] at q
    have : l = c := (nI_eq (by omega) (by omega)).mp q.2
    subst this
    have hm : m = ar l := A.1 u s l m h q6 g1 g2 g3 g5
    rw [p6, ← hm]
    refine ⟨t, fun _ => ⟨g7, by omega, g9⟩, fun x hx => ?_⟩
    obtain ⟨v, r, z1, z2, z3⟩ := g10 x hx
    exact ⟨v, r, z1, by have := (V.1.1 v r z3).1; omega, z2, z3⟩
end CPFI
section CPMR
variable {S T : cp_S} {e i s x m : Nat} {y : Int32}
theorem MC_match_e (h : TOPF S e i 0 y) (mm : MC 0 m_M_enter [.int (nI (i + 1)), .int y] S none T) : MC 2 m_M_match [.int (nI e), .int (nI i), .int (nI 0)] S none T := by
  obtain ⟨h1, h2, h3, h4, h5, h6, h7⟩ := h
  refine c_M_match (b_M_match_0 ⟨fun hn => absurd rfl hn, fun _ => ⟨vp_in_nI (show e < 32 by omega) (by decide), T, ?_, rfl, rfl⟩⟩)
  rw [nI_clamp (by omega), h5, nI_1]
  exact mm
theorem MC_match_g {r : Int32} (h : TOPF S e i 2 y) (g : S.2 75 (8 * e + 1) = r) (mm : MC 0 m_M_give [.int r] S none T) : MC 2 m_M_match [.int (nI e), .int (nI i), .int (nI 2)] S none T := by
  obtain ⟨h1, h2, h3, h4, h5, h6, h7⟩ := h
  refine c_M_match (b_M_match_0 ⟨fun _ => ⟨fun hn => absurd rfl hn, fun _ => ?_⟩, fun hn => absurd hn (by decide)⟩)
  rw [show (8 : Int32) = nI 8 from rfl, pk_mul, nI_1, nI_clamp (show 8 * e + 1 < 2 ^ 31 by omega), g]
  exact ⟨vp_in_nI (show 8 * e + 1 < 256 by omega) (by decide), T, mm, rfl, rfl⟩
abbrev LM (e i s : Nat) (y : Int32) (it t : Nat) : List (Nat × Value) := [(1, .int (nI e)), (2, .int (nI i)), (3, .int (nI 1)), (4, .int (nI s)), (5, .int y), (6, .int (nI it)), (7, .int (nI t))]
theorem MC_match_1 {r0 s0 i1 : Nat} (h : TOPF S e i 1 y) (g0 : S.2 75 (8 * e) = nI r0) (m0 : MC 0 m_M_seen [.int (nI r0)] S (some (.int (nI s0))) S) (mb : MC 1 m_M_behind [.int (nI (i + 1))] S (some (.int (nI i1))) S) (w : JJ 2 m_M_match none T 74 (LM e i s0 y i1 0) S) : MC 2 m_M_match [.int (nI e), .int (nI i), .int (nI 1)] S none T := by
  obtain ⟨h1, h2, h3, h4, h5, h6, h7⟩ := h
  refine c_M_match (b_M_match_0 ⟨fun _ => ⟨fun _ => ?_, fun hn => absurd hn (by decide)⟩, fun hn => absurd hn (by decide)⟩)
  rw [show (8 : Int32) = nI 8 from rfl, pk_mul, nI_clamp (show 8 * e < 2 ^ 31 by omega), g0, nI_1]
  refine ⟨vp_in_nI (show 8 * e < 256 by omega) (by decide), nI s0, S, m0, vp_in_nI (show e < 32 by omega) (by decide), nI i1, S, mb, ?_⟩
  rw [nI_clamp (show e < 2 ^ 31 by omega), h5]
  exact w
/-- the reference looks at a case -/
theorem cs_go {o : Option Value} {S' : cp_S} {it t i8 : Nat} (h41 : S.2 41 i = nI m) (hm : m ≤ 5) (hi : i < 2720) (ht : t < m) (hs : s < 6000) (h52 : ¬ S.2 52 s = 2) (hit : it < 2720) (hop : S.2 39 it = 11 ∨ S.2 39 it = 12 ∨ S.2 39 it = 13) (hb : MC 1 m_M_behind [.int (nI it)] S (some (.int (nI i8))) S) :
    (FIT S.2 s it → JJ 2 m_M_match o S' 210 (LM e i s y it t ++ [(8, .int (nI i8)), (9, .int 1), (10, .int (nI 0))]) S → JJ 2 m_M_match o S' 74 (LM e i s y it t) S) ∧
    (¬ FIT S.2 s it → ∀ i6, MC 1 m_M_behind [.int (nI i8)] S (some (.int (nI i6))) S → JJ 2 m_M_match o S' 74 (LM e i s y i6 (t + 1)) S → JJ 2 m_M_match o S' 74 (LM e i s y it t) S) := by
  have vi : vp_in (nI i) (cp_ml 41) := vp_in_nI (show i < 2720 by omega) (by decide)
  have vt : vp_in (nI it) (cp_ml 39) := vp_in_nI (show it < 2720 by omega) (by decide)
  have vs : vp_in (nI s) (cp_ml 52) := vp_in_nI (show s < 6000 by omega) (by decide)
  have c1 : (nI it).toNatClampNeg = it := nI_clamp (by omega)
  have c2 : (nI s).toNatClampNeg = s := nI_clamp (by omega)
  have c3 : (nI i).toNatClampNeg = i := nI_clamp (by omega)
  have J : (S.2 39 it = 11 → JJ 2 m_M_match o S' 195 (LM e i s y it t ++ [(8, .int (nI i8))]) S) → (S.2 39 it = 12 → S.2 52 s = 0 → S.2 53 s = S.2 40 it → JJ 2 m_M_match o S' 195 (LM e i s y it t ++ [(8, .int (nI i8))]) S) → (¬ S.2 39 it = 11 → ¬ (S.2 39 it = 12 ∧ S.2 52 s = 0 ∧ S.2 53 s = S.2 40 it) → JJ 2 m_M_match o S' 155 (LM e i s y it t ++ [(8, .int (nI i8))]) S) → JJ 2 m_M_match o S' 74 (LM e i s y it t) S := by
    intro w1 w2 w3
    refine b_M_match_74 ?_
    unfold wp_M_match_74
    rw [c1, c2, c3, h41]
    refine ⟨vi, fun hn => absurd hn (nI_ge (by omega) (by omega)), fun _ => ⟨vs, fun hn => absurd hn h52, fun _ => ⟨nI i8, S, hb, vt, w1, fun n11 => ⟨vt, fun n12 => w3 n11 (fun q => n12 q.1), fun y12 => ⟨vs, fun n0 => w3 n11 (fun q => n0 q.2.1), fun y0 => ⟨vs, vt, fun yd => w2 y12 y0 yd, fun nd => w3 n11 (fun q => nd q.2.2)⟩⟩⟩⟩⟩⟩
  have J155 : (S.2 39 it = 13 → S.2 52 s = 3 → S.2 53 s = S.2 40 it → JJ 2 m_M_match o S' 195 (LM e i s y it t ++ [(8, .int (nI i8))]) S) → (¬ (S.2 39 it = 13 ∧ S.2 52 s = 3 ∧ S.2 53 s = S.2 40 it) → JJ 2 m_M_match o S' 199 (LM e i s y it t ++ [(8, .int (nI i8))]) S) → JJ 2 m_M_match o S' 155 (LM e i s y it t ++ [(8, .int (nI i8))]) S := by
    intro w1 w2
    refine b_M_match_155 ?_
    unfold wp_M_match_155
    rw [c1, c2]
    exact ⟨vt, fun n13 => w2 (fun q => n13 q.1), fun y13 => ⟨vs, fun n3 => w2 (fun q => n3 q.2.1), fun y3 => ⟨vs, vt, fun nd => w2 (fun q => nd q.2.2), fun yd => w1 y13 y3 yd⟩⟩⟩
  refine ⟨fun hf w => ?_, fun hf i6 hb6 w => ?_⟩
  · have w195 : JJ 2 m_M_match o S' 195 (LM e i s y it t ++ [(8, .int (nI i8))]) S := b_M_match_195 ⟨fun hn => absurd hn (by decide), fun _ => w⟩
    refine J (fun _ => w195) (fun _ _ _ => w195) (fun n11 n12 => J155 (fun _ _ _ => w195) (fun n13 => ?_))
    rcases hf with q | q | q
    · exact absurd q n11
    · exact absurd q n12
    · exact absurd q n13
  · have w199 : JJ 2 m_M_match o S' 199 (LM e i s y it t ++ [(8, .int (nI i8))]) S := b_M_match_199 ⟨fun _ => ⟨nI i6, S, hb6, by rw [nI_1]; exact w⟩, fun hn => absurd rfl hn⟩
    exact J (fun q => absurd (Or.inl q) hf) (fun q1 q2 q3 => absurd (Or.inr (Or.inl ⟨q1, q2, q3⟩)) hf) (fun _ _ => J155 (fun q1 q2 q3 => absurd (Or.inr (Or.inr ⟨q1, q2, q3⟩)) hf) (fun _ => w199))
end CPMR
