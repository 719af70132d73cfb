/-! ===== codes: nodes and subtrees; programs; the names' values ===== -/
def VCH (K : cp_K) (b : Nat → Nat → Int32) : List Nat → Nat → Nat → Prop
  | [], q, _ => q = 0
  | c :: vs, q, x => nd K q 9 ∧ c < 26 ∧ K.2.1 q 1 = nI (97 + c) ∧ b 40 x = nI c ∧ b 39 x = 14 ∧ VCH K b vs (K.2.2.1 q 6) (x + 1)
/-- a pattern with its variables -/
def PTN (K : cp_K) (b : Nat → Nat → Int32) (ar : Nat → Nat) (p i : Nat) (vs : List Nat) : Prop := vs.length ≤ 6 ∧ b 41 i = nI vs.length ∧ VCH K b vs (K.2.2.1 p 4) (i + 1) ∧ ((K.2.1 p 0 = 4 ∧ b 39 i = 11 ∧ vs = []) ∨ (K.2.1 p 0 = 1 ∧ b 39 i = 12 ∧ K.2.1 p 1 = b 40 i ∧ vs = []) ∨ (K.2.1 p 0 = 6 ∧ b 39 i = 13 ∧ ∃ c, c < 26 ∧ K.2.1 p 1 = nI (65 + c) ∧ b 40 i = nI c ∧ vs.length = ar c))
def CSE (R : (Nat → Prop) → Nat → Nat → Nat → Prop) (K : cp_K) (b : Nat → Nat → Int32) (ar : Nat → Nat) (sc : Nat → Prop) : Nat → Nat → Nat → Nat → Prop
  | 0, q, i, j => q = 0 ∧ i = j
  | m + 1, q, i, j => nd K q 9 ∧ nd K (K.2.2.1 q 4) 9 ∧ ∃ vs i2, PTN K b ar (K.2.2.1 q 4) i vs ∧ R (fun c => sc c ∨ c ∈ vs) (K.2.2.1 q 5) (i + 1 + vs.length) i2 ∧ CSE R K b ar sc m (K.2.2.1 q 6) i2 j
/-- a code: the node p and the subtree from i to j; its free variables lie in sc -/
def CR (K : cp_K) (b : Nat → Nat → Int32) (ar : Nat → Nat) : Nat → (Nat → Prop) → Nat → Nat → Nat → Prop
  | 0, _, _, _, _ => False
  | k + 1, sc, p, i, j => nd K p 9 ∧
    ((K.2.1 p 0 = 5 ∧ b 39 i = 1 ∧ (∃ c, c < 26 ∧ K.2.1 p 1 = nI (97 + c) ∧ b 40 i = nI c ∧ sc c) ∧ j = i + 1) ∨
     (K.2.1 p 0 = 1 ∧ b 39 i = 2 ∧ K.2.1 p 1 = b 40 i ∧ j = i + 1) ∨
     (K.2.1 p 0 = 13 ∧ b 39 i = 10 ∧ j = i + 1) ∨
     (K.2.1 p 0 = 6 ∧ b 39 i = 5 ∧ ∃ c m, c < 26 ∧ m ≤ 6 ∧ K.2.1 p 1 = nI (65 + c) ∧ b 40 i = nI c ∧ K.2.1 p 3 = nI m ∧ b 41 i = nI m ∧ ((b 30 c = 1 ∧ m = ar c) ∨ (b 30 c = 2 ∧ b 31 c = nI m)) ∧ CHN (CR K b ar k sc) K m (K.2.2.1 p 4) (i + 1) j) ∨
     (((K.2.1 p 0 = 7 ∧ b 39 i = 6) ∨ (K.2.1 p 0 = 8 ∧ b 39 i = 7)) ∧ CHN (CR K b ar k sc) K 2 (K.2.2.1 p 4) (i + 1) j ∧ K.2.2.1 p 5 = K.2.2.1 (K.2.2.1 p 4) 6) ∨
     (K.2.1 p 0 = 9 ∧ b 39 i = 8 ∧ ∃ m i1, 1 ≤ m ∧ m ≤ 5 ∧ b 41 i = nI m ∧ CR K b ar k sc (K.2.2.1 p 4) (i + 1) i1 ∧ CSE (CR K b ar k) K b ar sc m (K.2.2.1 (K.2.2.1 p 4) 6) i1 j) ∨
     (((K.2.1 p 0 = 11 ∧ b 40 i = 61) ∨ (K.2.1 p 0 = 12 ∧ b 40 i = 60)) ∧ b 39 i = 9 ∧ CHN (CR K b ar k sc) K 4 (K.2.2.1 p 4) (i + 1) j ∧ K.2.2.1 p 5 = K.2.2.1 (K.2.2.1 (K.2.2.1 (K.2.2.1 p 4) 6) 6) 6))
theorem CR.nd {K : cp_K} {b : Nat → Nat → Int32} {ar : Nat → Nat} {k : Nat} {sc : Nat → Prop} {p i j : Nat} (h : CR K b ar k sc p i j) : nd K p 9 := by
  cases k with
  | zero => exact h.elim
  | succ k => exact h.1
theorem VCH_SHL {K : cp_K} {b : Nat → Nat → Int32} {k : Nat} : ∀ (vs : List Nat) (q x : Nat), VCH K b vs q x → SHL (SH b (k + 1)) vs.length x (x + vs.length)
  | [], _, _, _ => rfl
  | c :: vs, q, x, h => by
    obtain ⟨-, -, -, -, h5, h6⟩ := h
    refine ⟨x + 1, ⟨0, Or.inr (Or.inr (Or.inr (Or.inr ⟨by rw [h5]; decide, rfl⟩))), by omega, rfl⟩, ?_⟩
    have := VCH_SHL (k := k) vs _ (x + 1) h6
    rw [show x + (c :: vs).length = x + 1 + vs.length by rw [List.length_cons]; omega]
    exact this
theorem PTN.sh {K : cp_K} {b : Nat → Nat → Int32} {ar : Nat → Nat} {k p i : Nat} {vs : List Nat} (h : PTN K b ar p i vs) : SH b (k + 2) i (i + 1 + vs.length) := by
  obtain ⟨h1, h2, h3, h4⟩ := h
  rcases h4 with ⟨-, q2, rfl⟩ | ⟨-, q2, -, rfl⟩ | ⟨-, q2, -⟩
  · exact ⟨0, Or.inr (Or.inr (Or.inr (Or.inr ⟨by rw [q2]; decide, rfl⟩))), by omega, rfl⟩
  · exact ⟨0, Or.inr (Or.inr (Or.inr (Or.inr ⟨by rw [q2]; decide, rfl⟩))), by omega, rfl⟩
  · exact ⟨vs.length, Or.inl ⟨Or.inr q2, h2⟩, by omega, VCH_SHL vs _ _ h3⟩
theorem SH_up {b : Nat → Nat → Int32} : ∀ (k i j : Nat), SH b k i j → SH b (k + 1) i j
  | 0, _, _, h => h.elim
  | k + 1, i, j, h => by
    obtain ⟨m, h1, h2, h3⟩ := h
    exact ⟨m, h1, h2, SHL_mono (SH_up k) m _ _ h3⟩
theorem CSE_SHL {R : (Nat → Prop) → Nat → Nat → Nat → Prop} {K : cp_K} {b : Nat → Nat → Int32} {ar : Nat → Nat} {sc : Nat → Prop} {k : Nat} (hR : ∀ sc q i j, R sc q i j → SH b (k + 2) i j) : ∀ (m q i j : Nat), CSE R K b ar sc m q i j → SHL (SH b (k + 2)) (2 * m) i j
  | 0, _, _, _, h => h.2
  | m + 1, q, i, j, h => by
    obtain ⟨-, -, vs, i2, h1, h2, h3⟩ := h
    exact ⟨_, h1.sh, i2, hR _ _ _ _ h2, CSE_SHL hR m _ _ _ h3⟩
theorem CR.sh {K : cp_K} {b : Nat → Nat → Int32} {ar : Nat → Nat} : ∀ (k : Nat) (sc : Nat → Prop) (p i j : Nat), CR K b ar k sc p i j → SH b (k + 2) i j
  | 0, _, _, _, _, h => h.elim
  | k + 1, sc, p, i, j, h => by
    obtain ⟨-, h⟩ := h
    have leaf : ∀ c : Int32, b 39 i = c → (∀ d ∈ ([5, 6, 7, 8, 9, 13] : List Int32), ¬ c = d) → j = i + 1 → SH b (k + 1 + 2) i j := fun c h1 h2 h3 => ⟨0, Or.inr (Or.inr (Or.inr (Or.inr ⟨by rw [h1]; exact h2, rfl⟩))), by omega, h3.symm⟩
    rcases h with ⟨-, h1, -, h2⟩ | ⟨-, h1, -, h2⟩ | ⟨-, h1, h2⟩ | ⟨-, h1, c, m, -, h2, -, -, -, h3, -, h4⟩ | ⟨h1, h2, -⟩ | ⟨-, h1, m, i1, -, h2, h3, h4, h5⟩ | ⟨-, h1, h2, -⟩
    · exact leaf 1 h1 (by decide) h2
    · exact leaf 2 h1 (by decide) h2
    · exact leaf 10 h1 (by decide) h2
    · exact ⟨m, Or.inl ⟨Or.inl h1, h3⟩, by omega, CHN_SHL (CR.sh k sc) m _ _ _ h4⟩
    · refine ⟨2, Or.inr (Or.inl ⟨?_, rfl⟩), by omega, CHN_SHL (CR.sh k sc) 2 _ _ _ h2⟩
      rcases h1 with h1 | h1
      · exact Or.inl h1.2
      · exact Or.inr h1.2
    · refine ⟨1 + 2 * m, Or.inr (Or.inr (Or.inr (Or.inl ⟨h1, m, h3, rfl⟩))), by omega, ?_⟩
      rw [Nat.add_comm 1]
      exact ⟨i1, CR.sh k sc _ _ _ h4, CSE_SHL (fun sc q i j => CR.sh k sc q i j) m _ _ _ h5⟩
    · exact ⟨4, Or.inr (Or.inr (Or.inl ⟨h1, rfl⟩)), by omega, CHN_SHL (CR.sh k sc) 4 _ _ _ h2⟩
def PCH (K : cp_K) : List Nat → Nat → Nat → Prop
  | [], q, z => q = z
  | c :: ps, q, z => nd K q 9 ∧ q ≠ z ∧ c < 26 ∧ K.2.1 q 1 = nI (97 + c) ∧ PCH K ps (K.2.2.1 q 6) z
/-- the letter l is a program -/
def PROG (K : cp_K) (b : Nat → Nat → Int32) (ar : Nat → Nat) (l : Nat) : Prop := ∃ (ps : List Nat) (k i j : Nat), nd K (K.2.2.1 4 l) 10 ∧ ¬ K.2.1 (K.2.2.1 4 l) 1 = 0 ∧ nd K (K.2.2.1 (K.2.2.1 4 l) 4) 9 ∧ 1 ≤ ps.length ∧ ps.length ≤ 4 ∧ b 31 l = nI ps.length ∧ (∀ x (h : x < ps.length), b 37 (4 * l + x) = nI ps[x]) ∧ PCH K ps (K.2.2.1 (K.2.2.1 (K.2.2.1 4 l) 4) 4) (K.2.2.1 (K.2.2.1 (K.2.2.1 4 l) 4) 5) ∧ b 36 l = nI i ∧ j ≤ 2720 ∧ CR K b ar k (fun c => c ∈ ps) (K.2.2.1 (K.2.2.1 (K.2.2.1 4 l) 4) 5) i j
def DIC (K : cp_K) (b : Nat → Nat → Int32) (ar : Nat → Nat) : Prop := ∀ l, l < 26 → (b 30 l = 1 → nd K (K.2.2.1 4 l) 10 ∧ K.2.1 (K.2.2.1 4 l) 1 = 0) ∧ (b 30 l = 2 → PROG K b ar l)
/-- the names' values on both sides -/
def ENV (K : cp_K) (b : Nat → Nat → Int32) (B frame : Nat) (y : Int32) (sc : Nat → Prop) (ρ : Nat → Nat → Prop) : Prop := ∀ c, c < 26 → sc c → ∃ v r, v < 2 ^ 31 ∧ LU K frame c v ∧ (∃ nf x, y = nI x ∧ MN b B nf x c r) ∧ ρ v r
def WD (w : Nat) : Nat := 20 + 3 * (101 - w)
/-- what running the code p (i) comes to -/
def WCON (ar : Nat → Nat) (hl : List Nat) (C : Nat) (K : cp_K) (S : cp_S) (ρ : Nat → Nat → Prop) (nv nc e w B n p frame i : Nat) (y : Int32) : Prop :=
  (∃ v r w' K' S1 S2 ρ' nv' nc' B', KC (WD w) m_U_work (fun G => [.ref (cp_b G + 23), va_rf (kr G p), .int (nI (e + 1)), .int (nI frame)]) K (fun _ => some (.int (nI v))) K' ∧ MC 0 m_M_enter [.int (nI i), .int y] S none S1 ∧ (∀ x1 x2 o Sx, LPR x1 x2 o Sx (GIV e S2 r) → LPR x1 x2 o Sx S1) ∧ WPO ar hl C K S ρ nv nc e w B n K' S2 ρ' nv' nc' w' n 1 0 ∧ w < w' ∧ S2.1 62 = nI (e + 1) ∧ S2.1 63 = 0 ∧ S2.1 70 = nI B' ∧ B ≤ B' ∧ B' + 6 * w ≤ B + 6 * w' ∧ ρ' v r ∧ v < 2 ^ 31) ∨
  (∃ w' K' S1 S2 ρ' nv' nc' n', KC (WD w) m_U_work (fun G => [.ref (cp_b G + 23), va_rf (kr G p), .int (nI (e + 1)), .int (nI frame)]) K (fun _ => some (.int (-1))) K' ∧ MC 0 m_M_enter [.int (nI i), .int y] S none S1 ∧ (∀ x1 x2, LPR x1 x2 (some (.int (-1))) S2 S1) ∧ WPO ar hl C K S ρ nv nc e w B n K' S2 ρ' nv' nc' w' n' 0 0 ∧ n ≤ n' ∧ n' ≤ 11000)
