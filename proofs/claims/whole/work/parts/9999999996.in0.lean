/-! ===== programs are looked at: the reference ===== -/
theorem VCI_SHL {K : cp_K} {b : Nat → Nat → Int32} {k : Nat} : ∀ (vs : List Nat) (q x : Nat), VCI K b vs q x → SHL (SH b (k + 1)) vs.length x (x + vs.length)
  | [], _, _, _ => rfl
  | c :: vs, q, x, h => by
    have h5 := (h 0 (by simp)).2.2.2.2.1
    rw [Nat.add_zero] at h5
    refine ⟨x + 1, ⟨0, Or.inr (Or.inr (Or.inr (Or.inr ⟨by rw [h5]; decide, rfl⟩))), by omega, rfl⟩, ?_⟩
    have := VCI_SHL (K := K) (b := b) (k := k) vs (q + 1) (x + 1) (fun t ht => by
      obtain ⟨u1, u2, u3, u4, u5, u6⟩ := h (t + 1) (by rw [List.length_cons]; omega)
      rw [show q + (t + 1) = q + 1 + t by omega] at u1 u3 u6
      rw [show x + (t + 1) = x + 1 + t by omega] at u4 u5
      refine ⟨u1, u2, u3, u4, u5, ?_⟩
      rw [u6, List.length_cons]
      by_cases e : t + 1 = vs.length
      · rw [if_pos e, if_pos (by omega)]
      · rw [if_neg e, if_neg (by omega)])
    rw [show x + (c :: vs).length = x + 1 + vs.length by rw [List.length_cons]; omega]
    exact this
theorem PTI.sh {K : cp_K} {b : Nat → Nat → Int32} {rf k q i : Nat} {vs : List Nat} (h : PTI K b rf q i vs) : SH b (k + 2) i (i + 1 + vs.length) := by
  obtain ⟨-, -, h1, h2, -, h3, -, h4⟩ := h
  rcases h4 with ⟨-, q2, rfl⟩ | ⟨-, q2, -, rfl⟩ | ⟨-, q2, -⟩
  · exact ⟨0, Or.inr (Or.inr (Or.inr (Or.inr ⟨by rw [q2]; decide, rfl⟩))), by omega, rfl⟩
  · exact ⟨0, Or.inr (Or.inr (Or.inr (Or.inr ⟨by rw [q2]; decide, rfl⟩))), by omega, rfl⟩
  · exact ⟨vs.length, Or.inl ⟨Or.inr q2, h2⟩, by omega, VCI_SHL vs _ _ h3⟩
theorem RCC_SHL {R : Nat → Nat → Nat → Nat → Nat → Prop} {R' : Nat → Nat → Prop} {K : cp_K} (h : ∀ q i j a a1, R q i j a a1 → R' i j) : ∀ (m q i j a a1 : Nat), RCC R K m q i j a a1 → SHL R' m i j
  | 0, _, _, _, _, _, c => c.2.1
  | m + 1, q, i, j, a, a1, c => by
    obtain ⟨i', a', c1, c2⟩ := c
    exact ⟨i', h q i i' a a' c1, RCC_SHL h m _ i' j _ _ c2⟩
theorem RCS_SHL {R : Nat → Nat → Nat → Nat → Nat → Prop} {K : cp_K} {b : Nat → Nat → Int32} {rf k : Nat} (hR : ∀ q i j a a1, R q i j a a1 → SH b (k + 2) i j) : ∀ (m q i j a a1 : Nat), RCS R K b rf m q i j a a1 → SHL (SH b (k + 2)) (2 * m) i j
  | 0, _, _, _, _, _, h => h.2.1
  | m + 1, q, i, j, a, a1, h => by
    obtain ⟨vs, i2, a', -, -, -, -, h1, h2, h3⟩ := h
    exact ⟨_, h1.sh, i2, hR _ _ _ _ _ h2, RCS_SHL hR m _ _ _ _ _ h3⟩
theorem RCD.sh {K : cp_K} {b : Nat → Nat → Int32} {rf : Nat} : ∀ (k q i j a a1 : Nat), RCD K b rf k q i j a a1 → SH b (k + 2) i j
  | 0, _, _, _, _, _, h => h.elim
  | k + 1, q, i, j, a, a1, h => by
    obtain ⟨-, -, -, h⟩ := h
    have leaf : ∀ c : Int32, b 39 i = c → (∀ d ∈ ([5, 6, 7, 8, 9, 13] : List Int32), ¬ c = d) → j = i + 1 → SH b (k + 1 + 2) i j := fun c h1 h2 h3 => ⟨0, Or.inr (Or.inr (Or.inr (Or.inr ⟨by rw [h1]; exact h2, rfl⟩))), by omega, h3.symm⟩
    rcases h with ⟨-, h1, -, h2, -⟩ | ⟨-, h1, -, h2, -⟩ | ⟨-, h1, h2, -⟩ | ⟨-, h1, c, m, -, h2, -, -, -, h3, h4⟩ | ⟨h1, h2, -⟩ | ⟨-, h1, m, i1, x, -, h2, h3, h4, h5⟩ | ⟨-, h1, ⟨i1, h2, h3⟩, -⟩
    · exact leaf 1 h1 (by decide) h2
    · exact leaf 2 h1 (by decide) h2
    · exact leaf 10 h1 (by decide) h2
    · exact ⟨m, Or.inl ⟨Or.inl h1, h3⟩, by omega, RCC_SHL (RCD.sh k) m _ _ _ _ _ h4⟩
    · refine ⟨2, Or.inr (Or.inl ⟨?_, rfl⟩), by omega, RCC_SHL (RCD.sh k) 2 _ _ _ _ _ h2⟩
      rcases h1 with h1 | h1
      · exact Or.inl h1.2
      · exact Or.inr h1.2
    · refine ⟨1 + 2 * m, Or.inr (Or.inr (Or.inr (Or.inl ⟨h1, m, h3, rfl⟩))), by omega, ?_⟩
      rw [Nat.add_comm 1]
      exact ⟨i1, RCD.sh k _ _ _ _ _ h4, RCS_SHL (RCD.sh k) m _ _ _ _ _ h5⟩
    · exact ⟨4, Or.inr (Or.inr (Or.inl ⟨h1, rfl⟩)), by omega, i1, RCD.sh k _ _ _ _ _ h2, RCC_SHL (RCD.sh k) 3 _ _ _ _ _ h3⟩
/-- a form at p with m names, whose code ends at e -/
def FRMX (b : Nat → Nat → Int32) (p m e : Nat) : Prop := b 39 p = 13 ∧ b 41 p = nI m ∧ m ≤ 6 ∧ SH b 2 p (p + 1 + m) ∧ ∃ k, SH b k (p + 1 + m) e
theorem FRMX.uq {b : Nat → Nat → Int32} {p m e m' e' : Nat} (h : FRMX b p m e) (h' : FRMX b p m' e') : m = m' ∧ e = e' := by
  obtain ⟨-, a2, a3, -, k, a5⟩ := h
  obtain ⟨-, c2, c3, -, k', c5⟩ := h'
  have : m = m' := by
    rw [a2] at c2
    exact (nI_eq (by omega) (by omega)).mp c2
  subst this
  exact ⟨rfl, SH_fun _ _ _ _ _ a5 c5⟩
/-- the operations between i and j -/
def OPS (b : Nat → Nat → Int32) (i j : Nat) : Prop := ∀ x, i ≤ x → x < j → (b 39 x = 13 → ∃ m e c, FRMX b x m e ∧ x + 1 + m < e ∧ e ≤ j ∧ c < 26 ∧ b 40 x = nI c) ∧ (b 39 x = 5 → ∃ c m, c < 26 ∧ b 40 x = nI c ∧ m ≤ 6 ∧ b 41 x = nI m) ∧ (b 39 x = 1 → ∃ c, c < 26 ∧ b 40 x = nI c)
theorem OPS.join {b : Nat → Nat → Int32} {i j l : Nat} (h : OPS b i j) (g : OPS b j l) (hj : j ≤ l) : OPS b i l := fun x x1 x2 => by
  by_cases e : x < j
  · obtain ⟨a1, a2, a3⟩ := h x x1 e
    refine ⟨fun q => ?_, a2, a3⟩
    obtain ⟨m, e', c, u1, u2, u3, u4⟩ := a1 q
    exact ⟨m, e', c, u1, u2, by omega, u4⟩
  · exact g x (by omega) x2
theorem OPS.one {b : Nat → Nat → Int32} {i : Nat} (h13 : ¬ b 39 i = 13) (h5 : b 39 i = 5 → ∃ c m, c < 26 ∧ b 40 i = nI c ∧ m ≤ 6 ∧ b 41 i = nI m) (h1 : b 39 i = 1 → ∃ c, c < 26 ∧ b 40 i = nI c) : OPS b i (i + 1) := fun x x1 x2 => by
  rw [show x = i by omega]
  exact ⟨fun q => absurd q h13, h5, h1⟩
theorem RCC_OPS {R : Nat → Nat → Nat → Nat → Nat → Prop} {K : cp_K} {b : Nat → Nat → Int32} (hR : ∀ q i j a a1, R q i j a a1 → OPS b i j ∧ i < j ∧ a ≤ q ∧ q < a1) : ∀ (m q i j a a1 : Nat), RCC R K m q i j a a1 → OPS b i j
  | 0, q, i, j, a, a1, h => fun x x1 x2 => by have := h.2.1; omega
  | m + 1, q, i, j, a, a1, h => by
    obtain ⟨i', a', h1, h2⟩ := h
    have := RCC.le (fun q i j a a1 h => (hR q i j a a1 h).2) m _ _ _ _ _ h2
    exact (hR _ _ _ _ _ h1).1.join (RCC_OPS hR m _ _ _ _ _ h2) (by omega)
theorem RCS_OPS {R : Nat → Nat → Nat → Nat → Nat → Prop} {K : cp_K} {b : Nat → Nat → Int32} {rf k : Nat} (hR : ∀ q i j a a1, R q i j a a1 → (OPS b i j ∧ SH b k i j) ∧ i < j ∧ a ≤ q ∧ q < a1) : ∀ (m q i j a a1 : Nat), RCS R K b rf m q i j a a1 → OPS b i j
  | 0, q, i, j, a, a1, h => fun x x1 x2 => by have := h.2.1; omega
  | m + 1, q, i, j, a, a1, h => by
    obtain ⟨vs, i2, a', -, -, -, -, h1, h2, h3⟩ := h
    have le := RCS.le (fun q i j a a1 h => (hR q i j a a1 h).2) m _ _ _ _ _ h3
    obtain ⟨⟨o2, s2⟩, l2⟩ := hR _ _ _ _ _ h2
    have pt : OPS b i i2 := fun x x1 x2 => by
      by_cases e : x < i + 1 + vs.length
      · by_cases e0 : x = i
        · subst e0
          have sh := h1.sh (k := 0)
          obtain ⟨-, -, p1, p2, -, p3, -, p4⟩ := h1
          rcases p4 with ⟨-, q2, -⟩ | ⟨-, q2, -⟩ | ⟨-, q2, c, c1, -, c3⟩
          · refine ⟨fun q => ?_, fun q => ?_, fun q => ?_⟩ <;> rw [q2] at q <;> exact absurd q (by decide)
          · refine ⟨fun q => ?_, fun q => ?_, fun q => ?_⟩ <;> rw [q2] at q <;> exact absurd q (by decide)
          · refine ⟨fun _ => ⟨vs.length, i2, c, ⟨q2, p2, p1, sh, k, s2⟩, by omega, Nat.le_refl _, c1, c3⟩, fun q => ?_, fun q => ?_⟩ <;> rw [q2] at q <;> exact absurd q (by decide)
        · have := (h1.2.2.2.2.2.1 (x - (i + 1)) (by omega)).2.2.2.2.1
          rw [show i + 1 + (x - (i + 1)) = x by omega] at this
          refine ⟨fun q => ?_, fun q => ?_, fun q => ?_⟩ <;> rw [this] at q <;> exact absurd q (by decide)
      · exact o2 x (by omega) x2
    exact pt.join (RCS_OPS hR m _ _ _ _ _ h3) (by omega)
theorem RCD.ops {K : cp_K} {b : Nat → Nat → Int32} {rf : Nat} : ∀ (k q i j a a1 : Nat), RCD K b rf k q i j a a1 → OPS b i j
  | 0, _, _, _, _, _, h => h.elim
  | k + 1, q, i, j, a, a1, h => by
    have lt := RCD.lt _ _ _ _ _ _ h
    obtain ⟨-, -, -, h⟩ := h
    have ih : ∀ q i j a a1, RCD K b rf k q i j a a1 → OPS b i j ∧ i < j ∧ a ≤ q ∧ q < a1 := fun q i j a a1 h => ⟨RCD.ops k _ _ _ _ _ h, RCD.lt _ _ _ _ _ _ h⟩
    have no : ∀ c : Int32, b 39 i = c → ¬ c = 13 → ¬ c = 5 → ¬ c = 1 → OPS b i (i + 1) := fun c e n1 n2 n3 => OPS.one (by rw [e]; exact n1) (fun q => absurd (e.symm.trans q) n2) (fun q => absurd (e.symm.trans q) n3)
    rcases h with ⟨-, h1, ⟨c, c1, -, c2⟩, h2, -⟩ | ⟨-, h1, -, h2, -⟩ | ⟨-, h1, h2, -⟩ | ⟨-, h1, c, m, c1, h2, -, c2, -, h3, h4⟩ | ⟨h1, h2, -⟩ | ⟨-, h1, m, i1, x, -, h2, h3, h4, h5⟩ | ⟨-, h1, ⟨i1, h2, h3⟩, -⟩
    · rw [h2]; exact OPS.one (by rw [h1]; decide) (fun q => by rw [h1] at q; exact absurd q (by decide)) (fun _ => ⟨c, c1, c2⟩)
    · rw [h2]; exact no 2 h1 (by decide) (by decide) (by decide)
    · rw [h2]; exact no 10 h1 (by decide) (by decide) (by decide)
    · have := RCC.le (RCD.lt k) _ _ _ _ _ _ h4
      exact (OPS.one (by rw [h1]; decide) (fun _ => ⟨c, m, c1, c2, h2, h3⟩) (fun q => by rw [h1] at q; exact absurd q (by decide))).join (RCC_OPS ih _ _ _ _ _ _ h4) (by omega)
    · have := RCC.le (RCD.lt k) _ _ _ _ _ _ h2
      have z : OPS b i (i + 1) := by
        rcases h1 with h1 | h1
        · exact no 6 h1.2 (by decide) (by decide) (by decide)
        · exact no 7 h1.2 (by decide) (by decide) (by decide)
      exact z.join (RCC_OPS ih _ _ _ _ _ _ h2) (by omega)
    · have l1 := RCD.lt k _ _ _ _ _ h4
      have := RCS.le (RCD.lt k) _ _ _ _ _ _ h5
      exact ((no 8 h1 (by decide) (by decide) (by decide)).join (RCD.ops k _ _ _ _ _ h4) (by omega)).join (RCS_OPS (k := k + 2) (fun q i j a a1 h => ⟨⟨RCD.ops k _ _ _ _ _ h, RCD.sh k _ _ _ _ _ h⟩, RCD.lt _ _ _ _ _ _ h⟩) _ _ _ _ _ _ h5) (by omega)
    · have l1 := RCD.lt k _ _ _ _ _ h2
      have := RCC.le (RCD.lt k) _ _ _ _ _ _ h3
      exact ((no 9 h1 (by decide) (by decide) (by decide)).join (RCD.ops k _ _ _ _ _ h2) (by omega)).join (RCC_OPS ih _ _ _ _ _ _ h3) (by omega)
/-- the variable at x is bound -/
def BNDX (b : Nat → Nat → Int32) (n start x : Nat) : Prop := (∃ k, k < n ∧ b 71 k = b 40 x) ∨ ∃ p m e, start ≤ p ∧ p < x ∧ FRMX b p m e ∧ p + 1 + m ≤ x ∧ x < e ∧ ∃ t, t < m ∧ b 40 (p + 1 + t) = b 40 x
/-- what stands at x is right -/
def GDX (b : Nat → Nat → Int32) (l n start x : Nat) : Prop := (b 39 x = 1 → BNDX b n start x) ∧ (b 39 x = 13 → ∀ c, c < 26 → b 40 x = nI c → b 30 c = 1 ∧ b 31 c = b 41 x) ∧ (b 39 x = 5 → ∀ c, c < 26 → b 40 x = nI c → (c = l → b 41 x = nI n) ∧ (c ≠ l → ¬ b 30 c = 0 ∧ b 31 c = b 41 x))
section CPIR
variable {S : cp_S} {l n start n1 : Nat}
theorem bI {g : Bool} : narrow .boolean (.int (if g then 1 else 0)) = .int (if g then 1 else 0) := by cases g <;> rfl
theorem ib_names {o : Option Value} {i p m x6 : Nat} {g : Bool} {st nn : Int32} (hi : i < 2720) (hp : p + 1 + m ≤ 2720) (hm : m ≤ 6) (h41 : S.2 41 p = nI m) : ∀ (r t : Nat) (bb : Bool), t + r = m → (g = true ↔ bb = true ∨ ∃ t', t ≤ t' ∧ t' < m ∧ S.2 40 (p + 1 + t') = S.2 40 i) → JJ 2 m_M_isBound o S 157 [(1, .int (nI i)), (2, .int st), (3, .int nn), (4, .int (if g then 1 else 0)), (5, .int (nI p))] S → JJ 2 m_M_isBound o S 101 [(1, .int (nI i)), (2, .int st), (3, .int nn), (4, .int (if bb then 1 else 0)), (5, .int (nI p)), (6, .int (nI x6)), (7, .int 1), (8, .int (nI t))] S
  | 0, t, bb, ht, hg, w => by
    have e : g = bb := by
      cases g <;> cases bb <;> simp at hg ⊢
      obtain ⟨t', h1, h2, -⟩ := hg
      omega
    subst e
    refine b_M_isBound_101 ⟨vp_in_nI (show p < 2720 by omega) (by decide), fun _ => w, fun q => absurd ?_ q⟩
    rw [nI_clamp (by omega), h41]; exact nI_le (by omega) (by omega)
  | r + 1, t, bb, ht, hg, w => by
    have nle : ¬ S.2 41 (Int32.toNatClampNeg (nI p)) ≤ nI t := by
      rw [nI_clamp (by omega), h41]
      exact fun q => by have := (nI_leq (by omega) (by omega)).mp q; omega
    have e1 : (nI p + 1) + nI t = nI (p + 1 + t) := by rw [nI_1, nI_add]
    refine b_M_isBound_101 ⟨vp_in_nI (show p < 2720 by omega) (by decide), fun q => absurd q nle, fun _ => ⟨fun q => absurd q (by decide), fun _ => ⟨fun q => ?_, fun q => ?_⟩⟩⟩
    · have eb : bb = true := by cases bb; exact absurd rfl q; rfl
      refine b_M_isBound_144 ?_
      unfold wp_M_isBound_144
      rw [nI_1]
      have := ib_names (x6 := x6) hi hp hm h41 r (t + 1) true (by omega) ⟨fun _ => Or.inl rfl, fun _ => hg.mpr (Or.inl eb)⟩ w
      exact this
    · have eb : bb = false := by cases bb; rfl; exact absurd q (by decide)
      rw [e1]
      refine ⟨vp_in_nI (show p + 1 + t < 2720 by omega) (by decide), vp_in_nI hi (by decide), fun qe => ?_, fun qe => ?_⟩
      · rw [nI_clamp (by omega), nI_clamp (by omega)] at qe
        have := ib_names (o := o) (x6 := x6) (g := g) (st := st) (nn := nn) hi hp hm h41 r (t + 1) false (by omega) ⟨fun h => by
          rcases hg.mp h with h | ⟨t', h1, h2, h3⟩
          · rw [eb] at h; exact absurd h (by decide)
          · by_cases et : t' = t
            · rw [et] at h3; exact absurd h3 qe
            · exact Or.inr ⟨t', by omega, h2, h3⟩, fun h => by
          rcases h with h | ⟨t', h1, h2, h3⟩
          · exact absurd h (by decide)
          · exact hg.mpr (Or.inr ⟨t', by omega, h2, h3⟩)⟩ w
        rw [nI_1]
        exact this
      · rw [nI_clamp (by omega), nI_clamp (by omega)] at qe
        refine b_M_isBound_144 ?_
        unfold wp_M_isBound_144
        rw [nI_1]
        have := ib_names (o := o) (x6 := x6) (g := g) (st := st) (nn := nn) hi hp hm h41 r (t + 1) true (by omega) ⟨fun _ => Or.inl rfl, fun _ => hg.mpr (Or.inr ⟨t, Nat.le_refl _, by omega, qe⟩)⟩ w
        exact this
theorem ib_forms {i : Nat} {g : Bool} {st nn : Int32} (hn1 : n1 ≤ 2720) (hi : i < n1) (ho : OPS S.2 start n1) : ∀ (r p : Nat) (bb : Bool), p + r = i → start ≤ p → (g = true ↔ bb = true ∨ ∃ p' m e, p ≤ p' ∧ p' < i ∧ FRMX S.2 p' m e ∧ p' + 1 + m ≤ i ∧ i < e ∧ ∃ t, t < m ∧ S.2 40 (p' + 1 + t) = S.2 40 i) → JJ 2 m_M_isBound (some (.int (if g then 1 else 0))) S 49 [(1, .int (nI i)), (2, .int st), (3, .int nn), (4, .int (if bb then 1 else 0)), (5, .int (nI p))] S
  | 0, p, bb, hp, hs, hg => by
    have e : g = bb := by
      cases g <;> cases bb <;> simp at hg ⊢
      obtain ⟨p', m, e, h1, h2, -⟩ := hg
      omega
    subst e
    exact b_M_isBound_49 ⟨fun _ => ⟨rfl, rfl, bI⟩, fun q => absurd (nI_le (by omega) (by omega)) q⟩
  | r + 1, p, bb, hp, hs, hg => by
    have nle : ¬ nI i ≤ nI p := fun q => by have := (nI_leq (by omega) (by omega)).mp q; omega
    have ih : ∀ bb' : Bool, (g = true ↔ bb' = true ∨ ∃ p' m e, p + 1 ≤ p' ∧ p' < i ∧ FRMX S.2 p' m e ∧ p' + 1 + m ≤ i ∧ i < e ∧ ∃ t, t < m ∧ S.2 40 (p' + 1 + t) = S.2 40 i) → JJ 2 m_M_isBound (some (.int (if g then 1 else 0))) S 157 [(1, .int (nI i)), (2, .int st), (3, .int nn), (4, .int (if bb' then 1 else 0)), (5, .int (nI p))] S := fun bb' hb => by
      refine b_M_isBound_157 ?_
      unfold wp_M_isBound_157
      rw [nI_1]
      exact ib_forms hn1 hi ho r (p + 1) bb' (by omega) (by omega) hb
    refine b_M_isBound_49 ⟨fun q => absurd q nle, fun _ => ⟨vp_in_nI (show p < 2720 by omega) (by decide), fun q13 => ?_, fun q13 => ?_⟩⟩
    · rw [nI_clamp (by omega)] at q13
      refine ih bb ⟨fun h => ?_, fun h => ?_⟩
      · rcases hg.mp h with h | ⟨p', m, e, h1, h2, h3, h4⟩
        · exact Or.inl h
        · by_cases ep : p' = p
          · rw [ep] at h3; exact absurd h3.1 q13
          · exact Or.inr ⟨p', m, e, by omega, h2, h3, h4⟩
      · rcases h with h | ⟨p', m, e, h1, h2, h3, h4⟩
        · exact hg.mpr (Or.inl h)
        · exact hg.mpr (Or.inr ⟨p', m, e, by omega, h2, h3, h4⟩)
    · rw [nI_clamp (by omega)] at q13
      obtain ⟨m, e, c, fm, l1, l2, -⟩ := (ho p hs (by omega)).1 q13
      have b1 : MC 1 m_M_behind [.int (nI p)] S (some (.int (nI (p + 1 + m)))) S := MC_behind fm.2.2.2.1 (by omega)
      obtain ⟨k, fk⟩ := fm.2.2.2.2
      have b2 : MC 1 m_M_behind [.int (nI (p + 1 + m))] S (some (.int (nI e))) S := MC_behind fk (by omega)
      have out : ¬ (p + 1 + m ≤ i ∧ i < e) → JJ 2 m_M_isBound (some (.int (if g then 1 else 0))) S 95 [(1, .int (nI i)), (2, .int st), (3, .int nn), (4, .int (if bb then 1 else 0)), (5, .int (nI p)), (6, .int (nI (p + 1 + m)))] S := fun hno => by
        have z := ih bb ⟨fun h => by
          rcases hg.mp h with h | ⟨p', m', e', h1, h2, h3, h4, h5, h6⟩
          · exact Or.inl h
          · by_cases ep : p' = p
            · rw [ep] at h3 h4
              obtain ⟨u1, u2⟩ := h3.uq fm
              exact absurd ⟨by omega, by omega⟩ hno
            · exact Or.inr ⟨p', m', e', by omega, h2, h3, h4, h5, h6⟩, fun h => by
          rcases h with h | ⟨p', m', e', h1, h2, h3, h4⟩
          · exact hg.mpr (Or.inl h)
          · exact hg.mpr (Or.inr ⟨p', m', e', by omega, h2, h3, h4⟩)⟩
        refine b_M_isBound_95 (b_M_isBound_101 ⟨vp_in_nI (show p < 2720 by omega) (by decide), fun _ => z, fun _ => ⟨fun _ => z, fun q => absurd rfl q⟩⟩)
      refine ⟨nI (p + 1 + m), S, b1, fun q => ?_, fun q => ⟨nI e, S, b2, fun q2 => ?_, fun q2 => ?_⟩⟩
      · exact out (fun h => by
          have : ¬ nI i < nI (p + 1 + m) := nI_nlt (by omega) (by omega)
          exact this q)
      · exact out (fun h => by have := (nI_leq (by omega) (by omega)).mp q2; omega)
      · have h1 : p + 1 + m ≤ i := Classical.byContradiction (fun h => q (nI_lt (by omega) (by omega)))
        have h2 : i < e := Classical.byContradiction (fun h => q2 (nI_le (by omega) (by omega)))
        by_cases hnm : bb = true ∨ ∃ t', 0 ≤ t' ∧ t' < m ∧ S.2 40 (p + 1 + t') = S.2 40 i
        · refine ib_names (g := true) (by omega) (by omega) fm.2.2.1 fm.2.1 m 0 bb (by omega) ⟨fun _ => hnm, fun _ => rfl⟩ (ih true ⟨fun _ => Or.inl rfl, fun _ => hg.mpr ?_⟩)
          rcases hnm with h | ⟨t', -, u1, u2⟩
          · exact Or.inl h
          · exact Or.inr ⟨p, m, e, Nat.le_refl _, by omega, fm, h1, h2, t', u1, u2⟩
        · refine ib_names (g := false) (by omega) (by omega) fm.2.2.1 fm.2.1 m 0 bb (by omega) ⟨fun h => absurd h (by decide), fun h => absurd h hnm⟩ (ih false ⟨fun h => ?_, fun h => ?_⟩)
          · rcases hg.mp h with h | ⟨p', m', e', u1, u2, u3, u4, u5, t, u6, u7⟩
            · exact absurd (Or.inl h) hnm
            · by_cases ep : p' = p
              · subst ep
                obtain ⟨v1, v2⟩ := u3.uq fm
                subst v1
                exact absurd (Or.inr ⟨t, Nat.zero_le _, u6, u7⟩) hnm
              · exact Or.inr ⟨p', m', e', by omega, u2, u3, u4, u5, t, u6, u7⟩
          · rcases h with h | ⟨p', m', e', u1, u2, u3, u4⟩
            · exact absurd h (by decide)
            · exact hg.mpr (Or.inr ⟨p', m', e', by omega, u2, u3, u4⟩)
theorem ib_given {o : Option Value} {i : Nat} {g : Bool} {st : Int32} (hi : i < 2720) (hn : n ≤ 4) : ∀ (r k : Nat) (bb : Bool), k + r = n → (g = true ↔ bb = true ∨ ∃ k', k ≤ k' ∧ k' < n ∧ S.2 71 k' = S.2 40 i) → JJ 2 m_M_isBound o S 49 [(1, .int (nI i)), (2, .int st), (3, .int (nI n)), (4, .int (if g then 1 else 0)), (5, .int st)] S → JJ 2 m_M_isBound o S 6 [(1, .int (nI i)), (2, .int st), (3, .int (nI n)), (4, .int (if bb then 1 else 0)), (5, .int (nI k))] S
  | 0, k, bb, hk, hg, w => by
    have e : g = bb := by
      cases g <;> cases bb <;> simp at hg ⊢
      obtain ⟨t', h1, h2, -⟩ := hg
      omega
    subst e
    exact b_M_isBound_6 ⟨fun _ => w, fun q => absurd (nI_le (by omega) (by omega)) q⟩
  | r + 1, k, bb, hk, hg, w => by
    have nle : ¬ nI n ≤ nI k := fun q => by have := (nI_leq (by omega) (by omega)).mp q; omega
    refine b_M_isBound_6 ⟨fun q => absurd q nle, fun _ => ⟨fun q => ?_, fun q => ?_⟩⟩
    · have eb : bb = true := by cases bb; exact absurd rfl q; rfl
      refine b_M_isBound_33 ?_
      unfold wp_M_isBound_33
      rw [nI_1]
      exact ib_given hi hn r (k + 1) true (by omega) ⟨fun _ => Or.inl rfl, fun _ => hg.mpr (Or.inl eb)⟩ w
    · have eb : bb = false := by cases bb; rfl; exact absurd q (by decide)
      refine ⟨vp_in_nI (show k < 6 by omega) (by decide), vp_in_nI hi (by decide), fun qe => ?_, fun qe => ?_⟩
      · rw [nI_clamp (by omega), nI_clamp (by omega)] at qe
        rw [nI_1]
        exact ib_given (o := o) (g := g) (st := st) hi hn r (k + 1) false (by omega) ⟨fun h => by
          rcases hg.mp h with h | ⟨t', h1, h2, h3⟩
          · rw [eb] at h; exact absurd h (by decide)
          · by_cases et : t' = k
            · rw [et] at h3; exact absurd h3 qe
            · exact Or.inr ⟨t', by omega, h2, h3⟩, fun h => by
          rcases h with h | ⟨t', h1, h2, h3⟩
          · exact absurd h (by decide)
          · exact hg.mpr (Or.inr ⟨t', by omega, h2, h3⟩)⟩ w
      · rw [nI_clamp (by omega), nI_clamp (by omega)] at qe
        refine b_M_isBound_33 ?_
        unfold wp_M_isBound_33
        rw [nI_1]
        exact ib_given hi hn r (k + 1) true (by omega) ⟨fun _ => Or.inl rfl, fun _ => hg.mpr (Or.inr ⟨k, Nat.le_refl _, by omega, qe⟩)⟩ w
theorem MC_isBound {i : Nat} {g : Bool} (hn1 : n1 ≤ 2720) (hi : i < n1) (hs : start ≤ i) (hn : n ≤ 4) (ho : OPS S.2 start n1) (hg : g = true ↔ BNDX S.2 n start i) : MC 2 m_M_isBound [.int (nI i), .int (nI start), .int (nI n)] S (some (.int (if g then 1 else 0))) S := by
  refine c_M_isBound (b_M_isBound_0 ?_)
  by_cases h1 : ∃ k', 0 ≤ k' ∧ k' < n ∧ S.2 71 k' = S.2 40 i
  · refine ib_given (g := true) (by omega) hn n 0 false (by omega) ⟨fun _ => Or.inr h1, fun _ => rfl⟩ (ib_forms hn1 hi ho (i - start) start true (by omega) (Nat.le_refl _) ⟨fun _ => Or.inl rfl, fun _ => hg.mpr (Or.inl ?_)⟩)
    obtain ⟨k', -, u1, u2⟩ := h1
    exact ⟨k', u1, u2⟩
  · refine ib_given (g := false) (by omega) hn n 0 false (by omega) ⟨fun h => absurd h (by decide), fun h => absurd (by rcases h with h | h; exact absurd h (by decide); exact h) h1⟩ (ib_forms hn1 hi ho (i - start) start false (by omega) (Nat.le_refl _) ⟨fun h => ?_, fun h => ?_⟩)
    · rcases hg.mp h with ⟨k, u1, u2⟩ | h
      · exact absurd ⟨k, Nat.zero_le _, u1, u2⟩ h1
      · exact Or.inr h
    · rcases h with h | h
      · exact absurd h (by decide)
      · exact hg.mpr (Or.inr h)
/-- one place -/
theorem irc_step {o : Option Value} {S' : cp_S} {x : Nat} {g : Bool} (hn1 : n1 ≤ 2720) (h16 : S.1 16 = nI n1) (hx : x < n1) (hs : start ≤ x) (hn : n ≤ 4) (hl : l < 26) (ho : OPS S.2 start n1) (hg : g = true ↔ GDX S.2 l n start x) (w : ∀ v, JJ 3 m_M_isRightCode o S' 168 [(1, .int (nI l)), (2, .int (nI start)), (3, .int (nI n)), (4, .int (nI x)), (5, .int v), (6, .int (if g then 1 else 0))] S) : JJ 3 m_M_isRightCode o S' 3 [(1, .int (nI l)), (2, .int (nI start)), (3, .int (nI n)), (4, .int (nI x))] S := by
  have nle : ¬ S.1 16 ≤ nI x := by rw [h16]; exact fun q => by have := (nI_leq (by omega) (by omega)).mp q; omega
  have vx : ∀ a, cp_ml a = 2720 → vp_in (nI x) (cp_ml a) := fun a ha => by rw [ha]; exact vp_in_nI (by omega) (by decide)
  have cl := nI_clamp (show x < 2 ^ 31 by omega)
  obtain ⟨o13, o5, o1⟩ := ho x hs hx
  have yes : GDX S.2 l n start x → ∀ v, JJ 3 m_M_isRightCode o S' 168 [(1, .int (nI l)), (2, .int (nI start)), (3, .int (nI n)), (4, .int (nI x)), (5, .int v), (6, .int 1)] S := fun h v => by have := w v; rw [hg.mpr h] at this; exact this
  have no : ¬ GDX S.2 l n start x → ∀ v, JJ 3 m_M_isRightCode o S' 168 [(1, .int (nI l)), (2, .int (nI start)), (3, .int (nI n)), (4, .int (nI x)), (5, .int v), (6, .int 0)] S := fun h v => by
    have e : g = false := by cases g; rfl; exact absurd (hg.mp rfl) h
    have := w v; rw [e] at this; exact this
  refine b_M_isRightCode_3 ⟨fun q => absurd q nle, fun _ => ⟨vx 40 rfl, vx 39 rfl, fun q1 => ⟨vx 39 rfl, fun q13 => ⟨vx 39 rfl, fun q5 => ?_, fun q5 => ?_⟩, fun q13 => ?_⟩, fun q1 => ?_⟩⟩
  · rw [cl] at q1 q13 q5
    exact yes ⟨fun q => absurd q q1, fun q => absurd q q13, fun q => absurd q q5⟩ _
  · rw [cl] at q1 q13 q5 ⊢
    obtain ⟨c, m, c1, c2, c3, c4⟩ := o5 q5
    rw [c2]
    have vc : ∀ a, cp_ml a = 26 → vp_in (nI c) (cp_ml a) := fun a ha => by rw [ha]; exact vp_in_nI c1 (by decide)
    have clc := nI_clamp (show c < 2 ^ 31 by omega)
    have cu : ∀ c', c' < 26 → S.2 40 x = nI c' → c' = c := fun c' h1 h2 => (nI_eq (by omega) (by omega)).mp (h2.symm.trans c2)
    have gd : ∀ P : Prop, (P → (c = l → S.2 41 x = nI n) ∧ (c ≠ l → ¬ S.2 30 c = 0 ∧ S.2 31 c = S.2 41 x)) → P → GDX S.2 l n start x := fun P h hp => ⟨fun q => absurd q q1, fun q => absurd q q13, fun _ c' h1 h2 => by rw [cu c' h1 h2]; exact h hp⟩
    refine ⟨fun ql => ⟨vc 30 rfl, fun q30 => ?_, fun q30 => ⟨vc 31 rfl, vx 41 rfl, fun q31 => ?_, fun q31 => ?_⟩⟩, fun ql => ⟨vx 41 rfl, fun q41 => ?_, fun q41 => ?_⟩⟩
    · have ncl : c ≠ l := fun h => ql (by rw [h])
      rw [clc] at q30
      exact b_M_isRightCode_165 (no (fun h => ((h.2.2 q5 c c1 c2).2 ncl).1 q30) _)
    · have ncl : c ≠ l := fun h => ql (by rw [h])
      rw [clc] at q31
      exact b_M_isRightCode_165 (no (fun h => q31 ((h.2.2 q5 c c1 c2).2 ncl).2) _)
    · have ncl : c ≠ l := fun h => ql (by rw [h])
      rw [clc] at q30 q31
      exact yes (gd True (fun _ => ⟨fun h => absurd h ncl, fun _ => ⟨q30, q31⟩⟩) trivial) _
    · have ecl : c = l := (nI_eq (by omega) (by omega)).mp ql
      exact no (fun h => q41 ((h.2.2 q5 c c1 c2).1 ecl)) _
    · have ecl : c = l := (nI_eq (by omega) (by omega)).mp ql
      exact yes (gd True (fun _ => ⟨fun _ => q41, fun h => absurd ecl h⟩) trivial) _
  · rw [cl] at q1 q13 ⊢
    obtain ⟨m, e, c, fm, -, -, c1, c2⟩ := o13 q13
    rw [c2]
    have vc : ∀ a, cp_ml a = 26 → vp_in (nI c) (cp_ml a) := fun a ha => by rw [ha]; exact vp_in_nI c1 (by decide)
    have clc := nI_clamp (show c < 2 ^ 31 by omega)
    have cu : ∀ c', c' < 26 → S.2 40 x = nI c' → c' = c := fun c' h1 h2 => (nI_eq (by omega) (by omega)).mp (h2.symm.trans c2)
    refine ⟨vc 30 rfl, fun q30 => ?_, fun q30 => ⟨vc 31 rfl, vx 41 rfl, fun q31 => ?_, fun q31 => ?_⟩⟩
    · rw [clc] at q30
      exact b_M_isRightCode_92 (no (fun h => q30 (h.2.1 q13 c c1 c2).1) _)
    · rw [clc] at q31
      exact b_M_isRightCode_92 (no (fun h => q31 (h.2.1 q13 c c1 c2).2) _)
    · rw [clc] at q30 q31
      exact yes ⟨fun q => absurd q q1, fun _ c' h1 h2 => by rw [cu c' h1 h2]; exact ⟨q30, q31⟩, fun q => by rw [q13] at q; exact absurd q (by decide)⟩ _
  · rw [cl] at q1
    by_cases hb : BNDX S.2 n start x
    · refine ⟨1, S, MC_isBound (g := true) hn1 hx hs hn ho ⟨fun _ => hb, fun _ => rfl⟩, yes ⟨fun _ => hb, fun q => by rw [q1] at q; exact absurd q (by decide), fun q => by rw [q1] at q; exact absurd q (by decide)⟩ _⟩
    · exact ⟨0, S, MC_isBound (g := false) hn1 hx hs hn ho ⟨fun h => absurd h (by decide), fun h => absurd h hb⟩, no (fun h => hb (h.1 q1)) _⟩
theorem irc_ok (hn1 : n1 ≤ 2720) (h16 : S.1 16 = nI n1) (hn : n ≤ 4) (hl : l < 26) (ho : OPS S.2 start n1) : ∀ (r x : Nat), x + r = n1 → start ≤ x → (∀ y, x ≤ y → y < n1 → GDX S.2 l n start y) → JJ 3 m_M_isRightCode (some (.int 1)) S 3 [(1, .int (nI l)), (2, .int (nI start)), (3, .int (nI n)), (4, .int (nI x))] S
  | 0, x, hx, _, _ => b_M_isRightCode_3 ⟨fun _ => ⟨rfl, rfl, rfl⟩, fun q => absurd (by rw [h16]; exact nI_le (by omega) (by omega)) q⟩
  | r + 1, x, hx, hs, hg => irc_step (g := true) hn1 h16 (by omega) hs hn hl ho ⟨fun _ => hg x (Nat.le_refl _) (by omega), fun _ => rfl⟩ (fun v => b_M_isRightCode_168 ⟨fun _ => by rw [nI_1]; exact irc_ok hn1 h16 hn hl ho r (x + 1) (by omega) (by omega) (fun y y1 y2 => hg y (by omega) y2), fun q => absurd q (by decide)⟩)
theorem irc_bad {rf : Nat} (hn1 : n1 ≤ 2720) (h16 : S.1 16 = nI n1) (h20 : S.1 20 = nI rf) (hn : n ≤ 4) (hl : l < 26) (ho : OPS S.2 start n1) {y : Nat} (hy : y < n1) (hrf : rf ≤ y) (hrf2 : y - rf < 82) (hb : ¬ GDX S.2 l n start y) : ∀ (r x : Nat), x + r = y → start ≤ x → (∀ z, x ≤ z → z < y → GDX S.2 l n start z) → JJ 3 m_M_isRightCode (some (.int 0)) (va_up S.1 59 (S.2 42 (y - rf)), S.2) 3 [(1, .int (nI l)), (2, .int (nI start)), (3, .int (nI n)), (4, .int (nI x))] S
  | 0, x, hx, hs, _ => by
    have e : x = y := by omega
    subst e
    refine irc_step (g := false) hn1 h16 hy hs hn hl ho ⟨fun h => absurd h (by decide), fun h => absurd h hb⟩ (fun v => b_M_isRightCode_168 ⟨fun q => absurd rfl q, fun _ => ?_⟩)
    have e1 : nI x - S.1 20 = nI (x - rf) := by rw [h20]; exact pk_sub hrf
    rw [e1, nI_clamp (show x - rf < 2 ^ 31 by omega)]
    exact ⟨vp_in_nI hrf2 (by decide), rfl, rfl, rfl⟩
  | r + 1, x, hx, hs, hg => irc_step (g := true) hn1 h16 (by omega) hs hn hl ho ⟨fun _ => hg x (Nat.le_refl _) (by omega), fun _ => rfl⟩ (fun v => b_M_isRightCode_168 ⟨fun _ => by rw [nI_1]; exact irc_bad hn1 h16 h20 hn hl ho hy hrf hrf2 hb r (x + 1) (by omega) (by omega) (fun z z1 z2 => hg z (by omega) z2), fun q => absurd q (by decide)⟩)
theorem MC_irc_ok (hn1 : n1 ≤ 2720) (h16 : S.1 16 = nI n1) (hn : n ≤ 4) (hl : l < 26) (ho : OPS S.2 start n1) (hs : start ≤ n1) (hg : ∀ y, start ≤ y → y < n1 → GDX S.2 l n start y) : MC 3 m_M_isRightCode [.int (nI l), .int (nI start), .int (nI n)] S (some (.int 1)) S := c_M_isRightCode (b_M_isRightCode_0 (irc_ok hn1 h16 hn hl ho (n1 - start) start (by omega) (Nat.le_refl _) hg))
theorem MC_irc_bad {rf y : Nat} (hn1 : n1 ≤ 2720) (h16 : S.1 16 = nI n1) (h20 : S.1 20 = nI rf) (hn : n ≤ 4) (hl : l < 26) (ho : OPS S.2 start n1) (hy : y < n1) (hs : start ≤ y) (hrf : rf ≤ y) (hrf2 : y - rf < 82) (hb : ¬ GDX S.2 l n start y) (hg : ∀ z, start ≤ z → z < y → GDX S.2 l n start z) : MC 3 m_M_isRightCode [.int (nI l), .int (nI start), .int (nI n)] S (some (.int 0)) (va_up S.1 59 (S.2 42 (y - rf)), S.2) := c_M_isRightCode (b_M_isRightCode_0 (irc_bad hn1 h16 h20 hn hl ho hy hrf hrf2 hb (y - start) start (by omega) (Nat.le_refl _) hg))
end CPIR
