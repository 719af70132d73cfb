/-! ===== reading codes: trees that were read ===== -/
/-- variables one behind the other: nodes q, q + 1 .., the reference's x, x + 1 .. -/
def VCI (K : cp_K) (b : Nat → Nat → Int32) (vs : List Nat) (q x : Nat) : Prop := ∀ t (h : t < vs.length), nd K (q + t) 9 ∧ vs[t] < 26 ∧ K.2.1 (q + t) 1 = nI (97 + vs[t]) ∧ b 40 (x + t) = nI vs[t] ∧ b 39 (x + t) = 14 ∧ K.2.2.1 (q + t) 6 = (if t + 1 = vs.length then 0 else q + t + 1)
/-- a pattern and its variables -/
def PTI (K : cp_K) (b : Nat → Nat → Int32) (rf q i : Nat) (vs : List Nat) : Prop := nd K q 9 ∧ K.2.1 q 2 = b 42 (i - rf) ∧ vs.length ≤ 6 ∧ b 41 i = nI vs.length ∧ K.2.1 q 3 = nI vs.length ∧ VCI K b vs (q + 1) (i + 1) ∧ K.2.2.1 q 4 = (if vs.length = 0 then 0 else q + 1) ∧
  ((K.2.1 q 0 = 4 ∧ b 39 i = 11 ∧ vs = []) ∨ (K.2.1 q 0 = 1 ∧ b 39 i = 12 ∧ K.2.1 q 1 = b 40 i ∧ vs = []) ∨ (K.2.1 q 0 = 6 ∧ b 39 i = 13 ∧ ∃ c, c < 26 ∧ K.2.1 q 1 = nI (65 + c) ∧ b 40 i = nI c))
def RCC (R : Nat → Nat → Nat → Nat → Nat → Prop) (K : cp_K) : Nat → Nat → Nat → Nat → Nat → Nat → Prop
  | 0, q, i, j, a, a1 => q = 0 ∧ i = j ∧ a ≤ a1
  | m + 1, q, i, j, a, a1 => ∃ i' a', R q i i' a a' ∧ RCC R K m (K.2.2.1 q 6) i' j a' a1
def RCS (R : Nat → Nat → Nat → Nat → Nat → Prop) (K : cp_K) (b : Nat → Nat → Int32) (rf : Nat) : Nat → Nat → Nat → Nat → Nat → Nat → Prop
  | 0, q, i, j, a, a1 => q = 0 ∧ i = j ∧ a ≤ a1
  | m + 1, q, i, j, a, a1 => ∃ vs i2 a', q = a ∧ nd K q 9 ∧ K.2.1 q 0 = 10 ∧ K.2.2.1 q 4 = q + 1 ∧ PTI K b rf (q + 1) i vs ∧ R (K.2.2.1 q 5) (i + 1 + vs.length) i2 (q + 2 + vs.length) a' ∧ RCS R K b rf m (K.2.2.1 q 6) i2 j a' a1
/-- a code that was read: its root q, the reference's nodes i to j; its nodes lie between a and a1 -/
def RCD (K : cp_K) (b : Nat → Nat → Int32) (rf : Nat) : Nat → Nat → Nat → Nat → Nat → Nat → Prop
  | 0, _, _, _, _, _ => False
  | k + 1, q, i, j, a, a1 => nd K q 9 ∧ (a ≤ q ∧ q < a1) ∧ K.2.1 q 2 = b 42 (i - rf) ∧
    ((K.2.1 q 0 = 5 ∧ b 39 i = 1 ∧ (∃ c, c < 26 ∧ K.2.1 q 1 = nI (97 + c) ∧ b 40 i = nI c) ∧ j = i + 1 ∧ K.2.2.1 q 4 = 0) ∨
     (K.2.1 q 0 = 1 ∧ b 39 i = 2 ∧ K.2.1 q 1 = b 40 i ∧ j = i + 1 ∧ K.2.2.1 q 4 = 0) ∨
     (K.2.1 q 0 = 13 ∧ b 39 i = 10 ∧ j = i + 1 ∧ K.2.2.1 q 4 = 0) ∨
     (K.2.1 q 0 = 6 ∧ b 39 i = 5 ∧ ∃ c m, c < 26 ∧ m ≤ 6 ∧ K.2.1 q 1 = nI (65 + c) ∧ b 40 i = nI c ∧ K.2.1 q 3 = nI m ∧ b 41 i = nI m ∧ RCC (RCD K b rf k) K m (K.2.2.1 q 4) (i + 1) j (q + 1) a1) ∨
     (((K.2.1 q 0 = 7 ∧ b 39 i = 6) ∨ (K.2.1 q 0 = 8 ∧ b 39 i = 7)) ∧ RCC (RCD K b rf k) K 2 (K.2.2.1 q 4) (i + 1) j (q + 1) a1 ∧ K.2.2.1 q 5 = K.2.2.1 (K.2.2.1 q 4) 6) ∨
     (K.2.1 q 0 = 9 ∧ b 39 i = 8 ∧ ∃ m i1 x, 1 ≤ m ∧ m ≤ 5 ∧ b 41 i = nI m ∧ RCD K b rf k (K.2.2.1 q 4) (i + 1) i1 (q + 1) x ∧ RCS (RCD K b rf k) K b rf m (K.2.2.1 (K.2.2.1 q 4) 6) i1 j x a1) ∨
     (((K.2.1 q 0 = 11 ∧ b 40 i = 61) ∨ (K.2.1 q 0 = 12 ∧ b 40 i = 60)) ∧ b 39 i = 9 ∧ (∃ i1, RCD K b rf k (K.2.2.1 q 4) (i + 1) i1 a q ∧ RCC (RCD K b rf k) K 3 (K.2.2.1 (K.2.2.1 q 4) 6) i1 j (q + 1) a1) ∧ K.2.2.1 q 5 = K.2.2.1 (K.2.2.1 (K.2.2.1 (K.2.2.1 q 4) 6) 6) 6))
theorem RCC.le {R : Nat → Nat → Nat → Nat → Nat → Prop} {K : cp_K} (hR : ∀ q i j a a1, R q i j a a1 → i < j ∧ a ≤ q ∧ q < a1) : ∀ (m q i j a a1 : Nat), RCC R K m q i j a a1 → i + m ≤ j ∧ a + m ≤ a1
  | 0, _, _, _, _, _, h => by have := h.2.1; have := h.2.2; omega
  | m + 1, q, i, j, a, a1, h => by
    obtain ⟨i', a', h1, h2⟩ := h
    have l1 := hR _ _ _ _ _ h1
    have l2 := RCC.le hR m _ _ _ _ _ h2
    omega
theorem RCS.le {R : Nat → Nat → Nat → Nat → Nat → Prop} {K : cp_K} {b : Nat → Nat → Int32} {rf : Nat} (hR : ∀ q i j a a1, R q i j a a1 → i < j ∧ a ≤ q ∧ q < a1) : ∀ (m q i j a a1 : Nat), RCS R K b rf m q i j a a1 → i + m ≤ j ∧ a + m ≤ a1
  | 0, _, _, _, _, _, h => by have := h.2.1; have := h.2.2; omega
  | m + 1, q, i, j, a, a1, h => by
    obtain ⟨vs, i2, a', h1, -, -, -, -, h2, h3⟩ := h
    have l1 := hR _ _ _ _ _ h2
    have l2 := RCS.le hR m _ _ _ _ _ h3
    omega
theorem RCD.lt {K : cp_K} {b : Nat → Nat → Int32} {rf : Nat} : ∀ (k q i j a a1 : Nat), RCD K b rf k q i j a a1 → i < j ∧ a ≤ q ∧ q < a1
  | 0, _, _, _, _, _, h => h.elim
  | k + 1, q, i, j, a, a1, h => by
    obtain ⟨-, ⟨l1, l2⟩, -, h⟩ := h
    refine ⟨?_, l1, l2⟩
    rcases h with ⟨-, -, -, h, -⟩ | ⟨-, -, -, h, -⟩ | ⟨-, -, h, -⟩ | ⟨-, -, c, m, -, -, -, -, -, -, h⟩ | ⟨-, h, -⟩ | ⟨-, -, m, i1, x, -, -, -, h, h'⟩ | ⟨-, -, ⟨i1, h, h'⟩, -⟩
    · omega
    · omega
    · omega
    · have := RCC.le (RCD.lt k) _ _ _ _ _ _ h; omega
    · have := RCC.le (RCD.lt k) _ _ _ _ _ _ h; omega
    · have := RCD.lt k _ _ _ _ _ h; have := RCS.le (RCD.lt k) _ _ _ _ _ _ h'; omega
    · have := RCD.lt k _ _ _ _ _ h; have := RCC.le (RCD.lt k) _ _ _ _ _ _ h'; omega
/-- the nodes from a to a1 are as they were -/
def SAM (K K' : cp_K) (a a1 : Nat) : Prop := ∀ x, a ≤ x → x < a1 → (∀ f, K'.2.1 x f = K.2.1 x f) ∧ K'.1.2 x = K.1.2 x ∧ K'.2.2.1 x 4 = K.2.2.1 x 4 ∧ K'.2.2.1 x 5 = K.2.2.1 x 5
def SAB (b b' : Nat → Nat → Int32) (rf i j : Nat) : Prop := ∀ x, i ≤ x → x < j → b' 39 x = b 39 x ∧ b' 40 x = b 40 x ∧ b' 41 x = b 41 x ∧ b' 42 (x - rf) = b 42 (x - rf)
theorem SAM.sub {K K' : cp_K} {a a1 c c1 : Nat} (h : SAM K K' a a1) (h1 : a ≤ c) (h2 : c1 ≤ a1) : SAM K K' c c1 := fun x x1 x2 => h x (by omega) (by omega)
theorem SAB.sub {b b' : Nat → Nat → Int32} {rf i j c c1 : Nat} (h : SAB b b' rf i j) (h1 : i ≤ c) (h2 : c1 ≤ j) : SAB b b' rf c c1 := fun x x1 x2 => h x (by omega) (by omega)
theorem SAM.nd {K K' : cp_K} {a a1 q c : Nat} (h : SAM K K' a a1) (hn : K.1.1 ≤ K'.1.1) (hq : nd K q c) (h1 : a ≤ q) (h2 : q < a1) : nd K' q c := ⟨hq.1, Nat.lt_of_lt_of_le hq.2.1 hn, by rw [(h q h1 h2).2.1]; exact hq.2.2⟩
section CPCL
variable {K K' : cp_K} {b b' : Nat → Nat → Int32} {rf : Nat}
theorem VCI.loc {vs : List Nat} {q x : Nat} (h : VCI K b vs q x) (hn : K.1.1 ≤ K'.1.1) (hK : SAM K K' q (q + vs.length)) (h6 : ∀ y, q ≤ y → y < q + vs.length → K'.2.2.1 y 6 = K.2.2.1 y 6) (hb : SAB b b' rf x (x + vs.length)) : VCI K' b' vs q x := fun t ht => by
  obtain ⟨h1, h2, h3, h4, h5, h7⟩ := h t ht
  obtain ⟨c1, c2, c3, c4⟩ := hb (x + t) (by omega) (by omega)
  exact ⟨hK.nd hn h1 (by omega) (by omega), h2, by rw [(hK (q + t) (by omega) (by omega)).1]; exact h3, by rw [c2]; exact h4, by rw [c1]; exact h5, by rw [h6 (q + t) (by omega) (by omega)]; exact h7⟩
theorem PTI.loc {vs : List Nat} {q i : Nat} (h : PTI K b rf q i vs) (hn : K.1.1 ≤ K'.1.1) (hK : SAM K K' q (q + 1 + vs.length)) (h6 : ∀ y, q + 1 ≤ y → y < q + 1 + vs.length → K'.2.2.1 y 6 = K.2.2.1 y 6) (hb : SAB b b' rf i (i + 1 + vs.length)) : PTI K' b' rf q i vs := by
  obtain ⟨h1, h2, h3, h4, h5, h7, h8, h9⟩ := h
  obtain ⟨c1, c2, c3, c4⟩ := hb i (by omega) (by omega)
  obtain ⟨d1, d2, d3, d4⟩ := hK q (by omega) (by omega)
  refine ⟨hK.nd hn h1 (by omega) (by omega), by rw [d1, c4]; exact h2, h3, by rw [c3]; exact h4, by rw [d1]; exact h5, h7.loc hn (hK.sub (by omega) (by omega)) h6 (hb.sub (by omega) (by omega)), by rw [d3]; exact h8, ?_⟩
  rw [d1, d1, c1, c2]
  exact h9
theorem RCC.loc {R R' : Nat → Nat → Nat → Nat → Nat → Prop} (hR : ∀ q i j a a1, R q i j a a1 → i < j ∧ a ≤ q ∧ q < a1) : ∀ (m q i j a a1 : Nat), RCC R K m q i j a a1 → (∀ q i' j' a' a2, a ≤ a' → a2 ≤ a1 → i ≤ i' → j' ≤ j → R q i' j' a' a2 → R' q i' j' a' a2) → (∀ x, a ≤ x → x < a1 → K'.2.2.1 x 6 = K.2.2.1 x 6) → RCC R' K' m q i j a a1
  | 0, _, _, _, _, _, h, _, _ => h
  | m + 1, q, i, j, a, a1, h, hr, h6 => by
    obtain ⟨i', a', h1, h2⟩ := h
    have l1 := hR _ _ _ _ _ h1
    have l2 := RCC.le hR m _ _ _ _ _ h2
    refine ⟨i', a', hr _ _ _ _ _ (Nat.le_refl _) (by omega) (Nat.le_refl _) (by omega) h1, ?_⟩
    rw [h6 q (by omega) (by omega)]
    exact RCC.loc hR m _ _ _ _ _ h2 (fun q i2 j2 a2 a3 x1 x2 x3 x4 => hr q i2 j2 a2 a3 (by omega) x2 (by omega) x4) (fun x x1 x2 => h6 x (by omega) x2)
theorem RCS.loc {R R' : Nat → Nat → Nat → Nat → Nat → Prop} (hR : ∀ q i j a a1, R q i j a a1 → i < j ∧ a ≤ q ∧ q < a1) (hn : K.1.1 ≤ K'.1.1) : ∀ (m q i j a a1 : Nat), RCS R K b rf m q i j a a1 → (∀ q i' j' a' a2, a ≤ a' → a2 ≤ a1 → i ≤ i' → j' ≤ j → R q i' j' a' a2 → R' q i' j' a' a2) → (∀ x, a ≤ x → x < a1 → K'.2.2.1 x 6 = K.2.2.1 x 6) → SAM K K' a a1 → SAB b b' rf i j → RCS R' K' b' rf m q i j a a1
  | 0, _, _, _, _, _, h, _, _, _, _ => h
  | m + 1, q, i, j, a, a1, h, hr, h6, hK, hb => by
    obtain ⟨vs, i2, a', h1, h2, h3, h4, h5, h7, h8⟩ := h
    subst h1
    have l1 := hR _ _ _ _ _ h7
    have l2 := RCS.le hR m _ _ _ _ _ h8
    obtain ⟨d1, d2, d3, d4⟩ := hK q (Nat.le_refl _) (by omega)
    refine ⟨vs, i2, a', rfl, hK.nd hn h2 (Nat.le_refl _) (by omega), by rw [d1]; exact h3, by rw [d3]; exact h4, h5.loc hn (hK.sub (by omega) (by omega)) (fun y y1 y2 => h6 y (by omega) (by omega)) (hb.sub (Nat.le_refl _) (by omega)), ?_, ?_⟩
    · rw [d4]
      exact hr _ _ _ _ _ (by omega) (by omega) (by omega) (by omega) h7
    · rw [h6 q (Nat.le_refl _) (by omega)]
      exact RCS.loc hR hn m _ _ _ _ _ h8 (fun q i2 j2 a2 a3 x1 x2 x3 x4 => hr q i2 j2 a2 a3 (by omega) x2 (by omega) x4) (fun x x1 x2 => h6 x (by omega) x2) (hK.sub (by omega) (Nat.le_refl _)) (hb.sub (by omega) (Nat.le_refl _))
theorem RCD.loc (hn : K.1.1 ≤ K'.1.1) : ∀ (k q i j a a1 : Nat), RCD K b rf k q i j a a1 → SAM K K' a a1 → (∀ x, a ≤ x → x < a1 → x ≠ q → K'.2.2.1 x 6 = K.2.2.1 x 6) → SAB b b' rf i j → RCD K' b' rf k q i j a a1
  | 0, _, _, _, _, _, h, _, _, _ => h
  | k + 1, q, i, j, a, a1, h, hK, h6, hb => by
    have lt := RCD.lt _ _ _ _ _ _ h
    obtain ⟨h0, ⟨l1, l2⟩, h2, h⟩ := h
    obtain ⟨c1, c2, c3, c4⟩ := hb i (by omega) (by omega)
    obtain ⟨d1, d2, d3, d4⟩ := hK q l1 l2
    have ih : ∀ q' i' j' a' a2, a ≤ a' → a2 ≤ a1 → i ≤ i' → j' ≤ j → (q < a' ∨ a2 ≤ q) → RCD K b rf k q' i' j' a' a2 → RCD K' b' rf k q' i' j' a' a2 := fun q' i' j' a' a2 x1 x2 x3 x4 x5 hh => RCD.loc hn k _ _ _ _ _ hh (hK.sub x1 x2) (fun x y1 y2 y3 => h6 x (by omega) (by omega) (by omega)) (hb.sub x3 x4)
    have cc : ∀ m q' i' a', q < a' → i < i' → RCC (RCD K b rf k) K m q' i' j a' a1 → RCC (RCD K' b' rf k) K' m q' i' j a' a1 := fun m q' i' a' x1 x2 hh => RCC.loc (RCD.lt k) m _ _ _ _ _ hh (fun q i2 j2 a2 a3 y1 y2 y3 y4 w => ih q i2 j2 a2 a3 (by omega) y2 (by omega) y4 (Or.inl (by omega)) w) (fun x y1 y2 => h6 x (by omega) y2 (by omega))
    refine ⟨hK.nd hn h0 l1 l2, ⟨l1, l2⟩, by rw [d1, c4]; exact h2, ?_⟩
    rw [d1, d1, d1, d3, d4, c1, c2, c3]
    rcases h with h | h | h | ⟨e1, e2, c, m, f1, f2, f3, f4, f5, f6, f7⟩ | ⟨e1, e2, e3⟩ | ⟨e1, e2, m, i1, x, f1, f2, f3, f4, f5⟩ | ⟨e1, e2, ⟨i1, f1, f2⟩, e3⟩
    · exact Or.inl h
    · exact Or.inr (Or.inl h)
    · exact Or.inr (Or.inr (Or.inl h))
    · exact Or.inr (Or.inr (Or.inr (Or.inl ⟨e1, e2, c, m, f1, f2, f3, f4, f5, f6, cc _ _ _ _ (by omega) (by omega) f7⟩)))
    · refine Or.inr (Or.inr (Or.inr (Or.inr (Or.inl ⟨e1, cc _ _ _ _ (by omega) (by omega) e2, ?_⟩))))
      obtain ⟨i', a', g1, g2⟩ := e2
      have l3 := RCD.lt k _ _ _ _ _ g1
      have l4 := RCC.le (RCD.lt k) _ _ _ _ _ _ g2
      rw [h6 _ (by omega) (by omega) (by omega)]; exact e3
    · have l3 := RCD.lt k _ _ _ _ _ f4
      have l4 := RCS.le (RCD.lt k) _ _ _ _ _ _ f5
      refine Or.inr (Or.inr (Or.inr (Or.inr (Or.inr (Or.inl ⟨e1, e2, m, i1, x, f1, f2, f3, ih _ _ _ _ _ (by omega) (by omega) (by omega) (by omega) (Or.inl (by omega)) f4, ?_⟩)))))
      rw [h6 _ (by omega) (by omega) (by omega)]
      exact RCS.loc (RCD.lt k) hn m _ _ _ _ _ f5 (fun q i2 j2 a2 a3 y1 y2 y3 y4 w => ih q i2 j2 a2 a3 (by omega) y2 (by omega) y4 (Or.inl (by omega)) w) (fun x y1 y2 => h6 x (by omega) y2 (by omega)) (hK.sub (by omega) (Nat.le_refl _)) (hb.sub (by omega) (Nat.le_refl _))
    · have l3 := RCD.lt k _ _ _ _ _ f1
      have l4 := RCC.le (RCD.lt k) _ _ _ _ _ _ f2
      have n1 : K'.2.2.1 (K.2.2.1 q 4) 6 = K.2.2.1 (K.2.2.1 q 4) 6 := h6 _ (by omega) (by omega) (by omega)
      refine Or.inr (Or.inr (Or.inr (Or.inr (Or.inr (Or.inr ⟨e1, e2, ⟨i1, ih _ _ _ _ _ (Nat.le_refl _) (by omega) (by omega) (by omega) (Or.inr (Nat.le_refl _)) f1, ?_⟩, ?_⟩)))))
      · rw [n1]; exact cc _ _ _ _ (by omega) (by omega) f2
      · obtain ⟨i2, a2, g1, i3, a3, g2, i4, a4, g3, -, -, g4⟩ := f2
        have l5 := RCD.lt k _ _ _ _ _ g1
        have l6 := RCD.lt k _ _ _ _ _ g2
        have l7 := RCD.lt k _ _ _ _ _ g3
        rw [n1, h6 (K.2.2.1 (K.2.2.1 q 4) 6) (by omega) (by omega) (by omega), h6 (K.2.2.1 (K.2.2.1 (K.2.2.1 q 4) 6) 6) (by omega) (by omega) (by omega)]; exact e3
/-- a code stays when others are filled -/
theorem RCD.kept {k q i j a a1 q0 qx : Nat} (h : RCD K b rf k q i j a a1) (kx : KRX q0 qx K K') (ha : a1 ≤ K.1.1) (h86 : 86 ≤ a) (hq : q0 < a ∨ a1 ≤ q0) (hx : qx = q ∨ qx < a ∨ a1 ≤ qx) (hb : SAB b b' rf i j) : RCD K' b' rf k q i j a a1 := RCD.loc kx.1 k q i j a a1 h (fun x x1 x2 => ⟨fun f => kx.2.2.2.1 x (by omega) (by omega) f (Or.inl (by omega)), kx.2.1 x (by omega), kx.2.2.2.2.2.1 x (by omega) 4 (Or.inl (by omega)) (Or.inr (by decide)), kx.2.2.2.2.2.1 x (by omega) 5 (Or.inl (by omega)) (Or.inr (by decide))⟩) (fun x x1 x2 x3 => kx.2.2.2.2.2.1 x (by omega) 6 (Or.inl (by omega)) (Or.inl (by omega))) hb
theorem SAB.refl {i j : Nat} : SAB b b rf i j := fun _ _ _ => ⟨rfl, rfl, rfl, rfl⟩
theorem RFX.sab {n1 len i0 i j : Nat} {S S' : cp_S} (h : RFX rf n1 len i0 S S') (hj : j ≤ n1) (hr : rf ≤ i) (hi : i0 < i ∨ j ≤ i0) : SAB S.2 S'.2 rf i j := fun x x1 x2 => ⟨h.2.2.1 39 (by omega) (by omega) x (by omega) (Or.inl (by omega)), h.2.2.1 40 (by omega) (by omega) x (by omega) (Or.inl (by omega)), h.2.2.1 41 (by omega) (by omega) x (by omega) (Or.inl (by omega)), h.2.2.2.1 _ (by omega)⟩
theorem SAB.trans {b2 : Nat → Nat → Int32} {i j : Nat} (h : SAB b b' rf i j) (g : SAB b' b2 rf i j) : SAB b b2 rf i j := fun x x1 x2 => by
  obtain ⟨a1, a2, a3, a4⟩ := h x x1 x2
  obtain ⟨c1, c2, c3, c4⟩ := g x x1 x2
  exact ⟨c1.trans a1, c2.trans a2, c3.trans a3, c4.trans a4⟩
theorem RCD.nd {k q i j a a1 : Nat} (h : RCD K b rf k q i j a a1) : nd K q 9 := by
  cases k with
  | zero => exact h.elim
  | succ k => exact h.1
end CPCL
