/-! ===== the reference's value of a term ===== -/
def TS (b : Nat → Nat → Int32) : Nat → Nat → Nat → Prop
  | 0, _, _ => False
  | k + 1, i, j => (b 39 i = 1 ∧ (∃ c, c < 26 ∧ b 40 i = nI c) ∧ j = i + 1) ∨ (b 39 i = 2 ∧ j = i + 1) ∨ (b 39 i = 3 ∧ j = i + 1) ∨ (b 39 i = 4 ∧ j = i + 1) ∨ (b 39 i = 5 ∧ (∃ c, c < 26 ∧ b 40 i = nI c) ∧ ∃ m, m ≤ 6 ∧ b 41 i = nI m ∧ SHL (TS b k) m (i + 1) j)
theorem TR.ts {K : cp_K} {b : Nat → Nat → Int32} {pl : Nat → Nat → Prop} : ∀ (k p i j : Nat), TR K b pl k p i j → TS b k i j
  | 0, _, _, _, h => h.elim
  | k + 1, p, i, j, h => by
    obtain ⟨-, -, h⟩ := h
    rcases h with ⟨h1, h2, ⟨c, h3, h4, h5⟩, h6⟩ | ⟨h1, h2, h3, h6⟩ | ⟨h1, h2, h3, h6⟩ | ⟨h1, h2, h3⟩ | ⟨h1, h2, c, m, h3, h4, h5, h6, h7, h8, h9⟩
    · exact Or.inl ⟨h2, ⟨c, h3, h5⟩, h6⟩
    · exact Or.inr (Or.inl ⟨h2, h6⟩)
    · exact Or.inr (Or.inr (Or.inl ⟨h2, h6⟩))
    · exact Or.inr (Or.inr (Or.inr (Or.inl ⟨h2, h3⟩)))
    · exact Or.inr (Or.inr (Or.inr (Or.inr ⟨h2, ⟨c, h3, h6⟩, m, h4, h8, CHN_SHL (TR.ts k) m _ _ _ h9⟩)))
theorem SHL_mono {R R' : Nat → Nat → Prop} (h : ∀ i j, R i j → R' i j) : ∀ (m i j : Nat), SHL R m i j → SHL R' m i j
  | 0, _, _, c => c
  | m + 1, i, j, c => by
    obtain ⟨i', c1, c2⟩ := c
    exact ⟨i', h i i' c1, SHL_mono h m i' j c2⟩
theorem TS.sh {b : Nat → Nat → Int32} : ∀ (k i j : Nat), TS b k i j → SH b k i j
  | 0, _, _, h => h.elim
  | k + 1, i, j, h => by
    have leaf : ∀ c : Int32, b 39 i = c → (∀ d ∈ ([5, 6, 7, 8, 9, 13] : List Int32), ¬ c = d) → j = i + 1 → SH b (k + 1) i j := fun c h1 h2 h3 => ⟨0, Or.inr (Or.inr (Or.inr (Or.inr ⟨by rw [h1]; exact h2, rfl⟩))), by omega, h3.symm⟩
    rcases h with h | h | h | h | h
    · exact leaf 1 h.1 (by decide) h.2.2
    · exact leaf 2 h.1 (by decide) h.2
    · exact leaf 3 h.1 (by decide) h.2
    · exact leaf 4 h.1 (by decide) h.2
    · obtain ⟨h2, -, m, h4, h8, h9⟩ := h
      exact ⟨m, Or.inl ⟨Or.inl h2, h8⟩, by omega, SHL_mono (TS.sh k) m _ _ h9⟩
def RTL (R : Nat → Nat → Nat → Prop) (g : Nat → Int32) : Nat → Nat → Nat → Nat → Prop
  | 0, i, j, _ => i = j
  | m + 1, i, j, t => ∃ i' r, r < 2 ^ 31 ∧ g t = nI r ∧ R i i' r ∧ RTL R g m i' j (t + 1)
/-- r is the value of the subtree from i to j -/
def RT (b a : Nat → Nat → Int32) (nv nc : Nat) (en eh : Nat → Nat → Prop) : Nat → Nat → Nat → Nat → Prop
  | 0, _, _, _ => False
  | k + 1, i, j, r => (b 39 i = 1 ∧ j = i + 1 ∧ ∃ c, c < 26 ∧ b 40 i = nI c ∧ en c r) ∨ (b 39 i = 4 ∧ j = i + 1 ∧ eh i r) ∨
    (r < nv ∧ ((b 39 i = 2 ∧ j = i + 1 ∧ a 52 r = 0 ∧ a 53 r = b 40 i ∧ a 55 r = 0) ∨ (b 39 i = 3 ∧ j = i + 1 ∧ a 52 r = 1 ∧ a 53 r = 0 ∧ a 55 r = 0) ∨
      (b 39 i = 5 ∧ ∃ m t, m ≤ 6 ∧ a 52 r = 3 ∧ a 53 r = b 40 i ∧ b 41 i = nI m ∧ a 55 r = nI m ∧ a 54 r = nI t ∧ t + m ≤ nc ∧ RTL (RT b a nv nc en eh k) (a 56) m (i + 1) j t)))
theorem RTL_mv {R R' : Nat → Nat → Nat → Prop} {g g' : Nat → Int32} (hR : ∀ i j r, R i j r → R' i j r) : ∀ (m i j t : Nat), (∀ x, x < m → g' (t + x) = g (t + x)) → RTL R g m i j t → RTL R' g' m i j t
  | 0, _, _, _, _, h => h
  | m + 1, i, j, t, hg, h => by
    obtain ⟨i', r, h0, h1, h2, h3⟩ := h
    refine ⟨i', r, h0, by have := hg 0 (by omega); rw [Nat.add_zero] at this; rw [this]; exact h1, hR i i' r h2, RTL_mv hR m i' j (t + 1) (fun x hx => by have := hg (x + 1) (by omega); rw [show t + 1 + x = t + (x + 1) by omega]; exact this) h3⟩
theorem RT.mv {b b' a a' : Nat → Nat → Int32} {nv nc nv' nc' : Nat} {en eh en' eh' : Nat → Nat → Prop} (e9 : b' 39 = b 39) (e0 : b' 40 = b 40) (e1 : b' 41 = b 41) (hv : ∀ p, 52 ≤ p → p ≤ 55 → ∀ r, r < nv → a' p r = a p r) (hc : ∀ t, t < nc → a' 56 t = a 56 t) (h1 : nv ≤ nv') (h2 : nc ≤ nc') (he : ∀ c r, en c r → en' c r) (hh : ∀ x r, eh x r → eh' x r) : ∀ (k i j r : Nat), RT b a nv nc en eh k i j r → RT b' a' nv' nc' en' eh' k i j r
  | 0, _, _, _, h => h
  | k + 1, i, j, r, h => by
    unfold RT at h ⊢
    rw [e9, e0, e1]
    rcases h with ⟨q1, q2, c, q3, q4, q5⟩ | ⟨q1, q2, q3⟩ | ⟨q0, h⟩
    · exact Or.inl ⟨q1, q2, c, q3, q4, he c r q5⟩
    · exact Or.inr (Or.inl ⟨q1, q2, hh i r q3⟩)
    · rw [hv 52 (by omega) (by omega) r q0, hv 53 (by omega) (by omega) r q0, hv 54 (by omega) (by omega) r q0, hv 55 (by omega) (by omega) r q0]
      rcases h with h | h | ⟨w1, m, t, w2, w3, w4, w5, w6, w7, w8, w9⟩
      · exact Or.inr (Or.inr ⟨by omega, Or.inl h⟩)
      · exact Or.inr (Or.inr ⟨by omega, Or.inr (Or.inl h)⟩)
      · exact Or.inr (Or.inr ⟨by omega, Or.inr (Or.inr ⟨w1, m, t, w2, w3, w4, w5, w6, w7, by omega, RTL_mv (RT.mv e9 e0 e1 hv hc h1 h2 he hh k) m _ _ _ (fun x hx => hc _ (by omega)) w9⟩)⟩)
/-- what valueOf leaves: values have grown by at most d, cells by at most e, the pile has changed from 'top' on -/
def VRP (S S' : cp_S) (nv nc nv' nc' d e top : Nat) : Prop := S.1 35 = nI nv ∧ S.1 40 = nI nc ∧ S'.1 35 = nI nv' ∧ S'.1 40 = nI nc' ∧ nv ≤ nv' ∧ nv' ≤ nv + d ∧ nc ≤ nc' ∧ nc' ≤ nc + e ∧ (∀ k, k ≠ 35 → k ≠ 40 → S'.1 k = S.1 k) ∧ (∀ p, (p < 52 ∨ 57 < p) → S'.2 p = S.2 p) ∧ (∀ p, 52 ≤ p → p ≤ 55 → ∀ r, r < nv → S'.2 p r = S.2 p r) ∧ (∀ t, t < nc → S'.2 56 t = S.2 56 t) ∧ ∀ x, x < top → S'.2 57 x = S.2 57 x
theorem VRP.trans {S S1 S2 : cp_S} {nv nc nv1 nc1 nv2 nc2 d d' e e' top top' : Nat} (h : VRP S S1 nv nc nv1 nc1 d e top) (g : VRP S1 S2 nv1 nc1 nv2 nc2 d' e' top') (ht : top ≤ top') : VRP S S2 nv nc nv2 nc2 (d + d') (e + e') top := by
  obtain ⟨h1, h2, h3, h4, h5, h6, h7, h8, h9, h10, h11, h12, h13⟩ := h
  obtain ⟨g1, g2, g3, g4, g5, g6, g7, g8, g9, g10, g11, g12, g13⟩ := g
  exact ⟨h1, h2, g3, g4, by omega, by omega, by omega, by omega, fun k k1 k2 => (g9 k k1 k2).trans (h9 k k1 k2), fun p hp => (g10 p hp).trans (h10 p hp), fun p p1 p2 r hr => (g11 p p1 p2 r (by omega)).trans (h11 p p1 p2 r hr), fun t ht => (g12 t (by omega)).trans (h12 t ht), fun x hx => (g13 x (by omega)).trans (h13 x hx)⟩
/-- variables and holes between i and j have values -/
def RH (S : cp_S) (lev : Nat) (en eh : Nat → Nat → Prop) (i j : Nat) : Prop := (∀ x c, i ≤ x → x < j → S.2 39 x = 1 → S.2 40 x = nI c → c < 26 → ∃ r, r < 2 ^ 31 ∧ S.2 63 (26 * lev + c) = nI r ∧ en c r) ∧ ∀ x, i ≤ x → x < j → S.2 39 x = 4 → ∃ rf r, S.1 20 = nI rf ∧ rf ≤ x ∧ x - rf < 82 ∧ S.2 43 (x - rf) = nI r ∧ r < 2 ^ 31 ∧ eh x r
theorem RH.mv {S S' : cp_S} {lev i j : Nat} {en eh : Nat → Nat → Prop} (h : RH S lev en eh i j) (e9 : S'.2 39 = S.2 39) (e0 : S'.2 40 = S.2 40) (e3 : S'.2 43 = S.2 43) (e6 : S'.2 63 = S.2 63) (e20 : S'.1 20 = S.1 20) : RH S' lev en eh i j := by
  unfold RH
  rw [e9, e0, e3, e6, e20]
  exact h
theorem RH.sub {S : cp_S} {lev i j i' j' : Nat} {en eh : Nat → Nat → Prop} (h : RH S lev en eh i j) (h1 : i ≤ i') (h2 : j' ≤ j) : RH S lev en eh i' j' := ⟨fun x c a1 a2 => h.1 x c (by omega) (by omega), fun x a1 a2 => h.2 x (by omega) (by omega)⟩
theorem TS.mv {b b' : Nat → Nat → Int32} (e9 : b' 39 = b 39) (e0 : b' 40 = b 40) (e1 : b' 41 = b 41) : ∀ (k i j : Nat), TS b k i j → TS b' k i j
  | 0, _, _, h => h
  | k + 1, i, j, h => by
    unfold TS at h ⊢
    rw [e9, e0, e1]
    rcases h with h | h | h | h | ⟨h1, h2, m, h3, h4, h5⟩
    · exact Or.inl h
    · exact Or.inr (Or.inl h)
    · exact Or.inr (Or.inr (Or.inl h))
    · exact Or.inr (Or.inr (Or.inr (Or.inl h)))
    · exact Or.inr (Or.inr (Or.inr (Or.inr ⟨h1, h2, m, h3, h4, SHL_mono (TS.mv e9 e0 e1 k) m _ _ h5⟩)))
