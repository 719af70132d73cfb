/-! ===== trees: the reference's in its rows, the class's as nodes ===== -/
/-- how many subtrees stand below i -/
def blw (b : Nat → Nat → Int32) (i m : Nat) : Prop := ((b 39 i = 5 ∨ b 39 i = 13) ∧ b 41 i = nI m) ∨ ((b 39 i = 6 ∨ b 39 i = 7) ∧ m = 2) ∨ (b 39 i = 9 ∧ m = 4) ∨ (b 39 i = 8 ∧ ∃ c, b 41 i = nI c ∧ m = 1 + 2 * c) ∨ ((∀ c ∈ ([5, 6, 7, 8, 9, 13] : List Int32), ¬ b 39 i = c) ∧ m = 0)
def SHL (R : Nat → Nat → Prop) : Nat → Nat → Nat → Prop
  | 0, i, j => i = j
  | m + 1, i, j => ∃ i', R i i' ∧ SHL R m i' j
def SH (b : Nat → Nat → Int32) : Nat → Nat → Nat → Prop
  | 0, _, _ => False
  | k + 1, i, j => ∃ m, blw b i m ∧ m ≤ 20 ∧ SHL (SH b k) m (i + 1) j
theorem SHL_le {R : Nat → Nat → Prop} (hR : ∀ i j, R i j → i < j) : ∀ (m i j : Nat), SHL R m i j → i + m ≤ j
  | 0, i, j, h => by have : i = j := h; omega
  | m + 1, i, j, h => by
    obtain ⟨i', h1, h2⟩ := h
    have := hR i i' h1
    have := SHL_le hR m i' j h2
    omega
theorem SH_lt {b : Nat → Nat → Int32} : ∀ (k i j : Nat), SH b k i j → i < j
  | 0, _, _, h => h.elim
  | k + 1, i, j, h => by
    obtain ⟨m, -, -, h3⟩ := h
    have := SHL_le (SH_lt k) m (i + 1) j h3
    omega
theorem cp_ne {x c c' : Int32} (h1 : x = c) (h2 : c ≠ c') {P : Prop} (h3 : x = c') : P := absurd (h1.symm.trans h3) h2
theorem MC_below {S : cp_S} {i m : Nat} (h : blw S.2 i m) (hi : i < 2720) : MC 0 m_M_below [.int (nI i)] S (some (.int (nI m))) S := by
  refine c_M_below (b_M_below_0 ?_)
  unfold wp_M_below_0
  rw [nI_clamp (by omega)]
  have v : vp_in (nI i) (cp_ml 39) := vp_in_nI (show i < 2720 by omega) (by decide)
  rcases h with ⟨h1 | h1, h2⟩ | ⟨h1 | h1, rfl⟩ | ⟨h1, rfl⟩ | ⟨h1, c, h2, rfl⟩ | ⟨h1, rfl⟩
  · exact ⟨v, fun _ => ⟨v, by rw [h2], rfl⟩, cp_ne h1 (by decide), cp_ne h1 (by decide), cp_ne h1 (by decide), cp_ne h1 (by decide), cp_ne h1 (by decide), cp_ne h1 (by decide), cp_ne h1 (by decide), cp_ne h1 (by decide), fun hn => absurd h1 (hn 5 (by decide))⟩
  · exact ⟨v, cp_ne h1 (by decide), cp_ne h1 (by decide), cp_ne h1 (by decide), cp_ne h1 (by decide), cp_ne h1 (by decide), cp_ne h1 (by decide), cp_ne h1 (by decide), cp_ne h1 (by decide), fun _ => ⟨v, by rw [h2], rfl⟩, fun hn => absurd h1 (hn 13 (by decide))⟩
  · exact ⟨v, cp_ne h1 (by decide), fun _ => ⟨rfl, rfl⟩, cp_ne h1 (by decide), cp_ne h1 (by decide), cp_ne h1 (by decide), cp_ne h1 (by decide), cp_ne h1 (by decide), cp_ne h1 (by decide), cp_ne h1 (by decide), fun hn => absurd h1 (hn 6 (by decide))⟩
  · exact ⟨v, cp_ne h1 (by decide), cp_ne h1 (by decide), fun _ => ⟨rfl, rfl⟩, cp_ne h1 (by decide), cp_ne h1 (by decide), cp_ne h1 (by decide), cp_ne h1 (by decide), cp_ne h1 (by decide), cp_ne h1 (by decide), fun hn => absurd h1 (hn 7 (by decide))⟩
  · exact ⟨v, cp_ne h1 (by decide), cp_ne h1 (by decide), cp_ne h1 (by decide), cp_ne h1 (by decide), fun _ => ⟨rfl, rfl⟩, cp_ne h1 (by decide), cp_ne h1 (by decide), cp_ne h1 (by decide), cp_ne h1 (by decide), fun hn => absurd h1 (hn 9 (by decide))⟩
  · refine ⟨v, cp_ne h1 (by decide), cp_ne h1 (by decide), cp_ne h1 (by decide), fun _ => ⟨v, ?_, rfl⟩, cp_ne h1 (by decide), cp_ne h1 (by decide), cp_ne h1 (by decide), cp_ne h1 (by decide), cp_ne h1 (by decide), fun hn => absurd h1 (hn 8 (by decide))⟩
    rw [h2, show (2 : Int32) = nI 2 from rfl, pk_mul, show (1 : Int32) = nI 1 from rfl, nI_add]
  · refine ⟨v, fun hn => absurd hn (h1 5 (by decide)), fun hn => absurd hn (h1 6 (by decide)), fun hn => absurd hn (h1 7 (by decide)), fun hn => absurd hn (h1 8 (by decide)), fun hn => absurd hn (h1 9 (by decide)), fun _ => ⟨rfl, rfl⟩, fun _ => ⟨rfl, rfl⟩, fun _ => ⟨rfl, rfl⟩, fun hn => absurd hn (h1 13 (by decide)), fun _ => ⟨rfl, rfl⟩⟩
section CPBH
variable {S S' : cp_S} {o : Option Value} {x : Int32}
theorem beh_L {k : Nat} (ih : ∀ (i j n : Nat), SH S.2 k i j → j ≤ 2720 → n + 20 * (2720 - i) ≤ 1000000 → JJ 1 m_M_behind o S' 4 [(1, .int x), (2, .int (nI n)), (3, .int (nI j))] S → JJ 1 m_M_behind o S' 4 [(1, .int x), (2, .int (nI (n + 1))), (3, .int (nI i))] S) : ∀ (m i j n : Nat), SHL (SH S.2 k) m i j → j ≤ 2720 → n + m + 20 * (2720 - i) ≤ 1000000 → JJ 1 m_M_behind o S' 4 [(1, .int x), (2, .int (nI n)), (3, .int (nI j))] S → JJ 1 m_M_behind o S' 4 [(1, .int x), (2, .int (nI (n + m))), (3, .int (nI i))] S
  | 0, i, j, n, h, _, _, w => by
    have : i = j := h
    rw [this]; exact w
  | m + 1, i, j, n, h, hj, hn, w => by
    obtain ⟨i', h1, h2⟩ := h
    have h3 := SHL_le (SH_lt k) m i' j h2
    have h4 := SH_lt k i i' h1
    have w2 := beh_L ih m i' j n h2 hj (by omega) w
    exact ih i i' (n + m) h1 (by omega) (by omega) w2
theorem beh : ∀ (k i j n : Nat), SH S.2 k i j → j ≤ 2720 → n + 20 * (2720 - i) ≤ 1000000 → JJ 1 m_M_behind o S' 4 [(1, .int x), (2, .int (nI n)), (3, .int (nI j))] S → JJ 1 m_M_behind o S' 4 [(1, .int x), (2, .int (nI (n + 1))), (3, .int (nI i))] S
  | 0, _, _, _, h, _, _, _ => h.elim
  | k + 1, i, j, n, h, hj, hn, w => by
    have hlt := SH_lt (k + 1) i j h
    obtain ⟨m, h1, h2, h3⟩ := h
    refine b_M_behind_4 ⟨fun hx => absurd hx (nI_nle (by omega) (by omega)), fun _ => ⟨nI m, S, MC_below h1 (by omega), ?_⟩⟩
    rw [nI_pred, nI_add, nI_1]
    exact beh_L (beh k) m (i + 1) j n h3 hj (by omega) w
theorem MC_behind {k i j : Nat} (h : SH S.2 k i j) (hj : j ≤ 2720) : MC 1 m_M_behind [.int (nI i)] S (some (.int (nI j))) S :=
  c_M_behind (b_M_behind_0 (beh k i j 0 h hj (by omega) (b_M_behind_4 ⟨fun _ => ⟨rfl, rfl⟩, fun hn => absurd (by decide) hn⟩)))
end CPBH
/-- a chain of nodes and subtrees one behind the other -/
def CHN (R : Nat → Nat → Nat → Prop) (K : cp_K) : Nat → Nat → Nat → Nat → Prop
  | 0, q, i, j => q = 0 ∧ i = j
  | m + 1, q, i, j => nd K q 9 ∧ ∃ i', R q i i' ∧ CHN R K m (K.2.2.1 q 6) i' j
/-- a term: the node p and the subtree from i to j -/
def TR (K : cp_K) (b : Nat → Nat → Int32) (pl : Nat → Nat → Prop) : Nat → Nat → Nat → Nat → Prop
  | 0, _, _, _ => False
  | k + 1, p, i, j => nd K p 9 ∧ pl p i ∧
    ((K.2.1 p 0 = 5 ∧ b 39 i = 1 ∧ (∃ c, c < 26 ∧ K.2.1 p 1 = nI (97 + c) ∧ b 40 i = nI c) ∧ j = i + 1) ∨
     (K.2.1 p 0 = 1 ∧ b 39 i = 2 ∧ K.2.1 p 1 = b 40 i ∧ j = i + 1) ∨
     (K.2.1 p 0 = 2 ∧ b 39 i = 3 ∧ K.2.1 p 1 = 0 ∧ j = i + 1) ∨
     (K.2.1 p 0 = 4 ∧ b 39 i = 4 ∧ j = i + 1) ∨
     (K.2.1 p 0 = 6 ∧ b 39 i = 5 ∧ ∃ c m, c < 26 ∧ m ≤ 6 ∧ K.2.1 p 1 = nI (65 + c) ∧ b 40 i = nI c ∧ K.2.1 p 3 = nI m ∧ b 41 i = nI m ∧ CHN (TR K b pl k) K m (K.2.2.1 p 4) (i + 1) j))
theorem CHN_SHL {R : Nat → Nat → Nat → Prop} {R' : Nat → Nat → Prop} {K : cp_K} (h : ∀ q i j, R q i j → R' i j) : ∀ (m q i j : Nat), CHN R K m q i j → SHL R' m i j
  | 0, _, _, _, c => c.2
  | m + 1, q, i, j, c => by
    obtain ⟨-, i', c1, c2⟩ := c
    exact ⟨i', h q i i' c1, CHN_SHL h m _ i' j c2⟩
theorem TR.sh {K : cp_K} {b : Nat → Nat → Int32} {pl : Nat → Nat → Prop} : ∀ (k p i j : Nat), TR K b pl k p i j → SH b k i j
  | 0, _, _, _, h => h.elim
  | k + 1, p, i, j, h => by
    obtain ⟨-, -, h⟩ := h
    have leaf : ∀ c : Int32, b 39 i = c → (∀ d ∈ ([5, 6, 7, 8, 9, 13] : List Int32), ¬ c = d) → j = i + 1 → SH b (k + 1) i j := fun c h1 h2 h3 => ⟨0, Or.inr (Or.inr (Or.inr (Or.inr ⟨by rw [h1]; exact h2, rfl⟩))), by omega, h3.symm⟩
    rcases h with h | h | h | h | h
    · exact leaf 1 h.2.1 (by decide) h.2.2.2
    · exact leaf 2 h.2.1 (by decide) h.2.2.2
    · exact leaf 3 h.2.1 (by decide) h.2.2.2
    · exact leaf 4 h.2.1 (by decide) h.2.2
    · obtain ⟨-, h2, c, m, -, h4, -, -, -, h8, h9⟩ := h
      exact ⟨m, Or.inl ⟨Or.inl h2, h8⟩, by omega, CHN_SHL (TR.sh k) m _ _ _ h9⟩
