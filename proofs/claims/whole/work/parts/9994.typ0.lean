/-! ===== types: terms of both sides are evaluated ===== -/
section CPT0
variable {K K' : cp_K} {b b' : Nat → Nat → Int32} {pl : Nat → Nat → Prop}
theorem TR.nk (hK : NK K K') (e9 : b' 39 = b 39) (e0 : b' 40 = b 40) (e1 : b' 41 = b 41) : ∀ (k p i j : Nat), TR K b pl k p i j → TR K' b' pl k p i j
  | 0, _, _, _, h => h
  | k + 1, p, i, j, h => by
    unfold TR at h ⊢
    obtain ⟨h0, hp, h⟩ := h
    refine ⟨hK.2.2 p 9 h0, hp, ?_⟩
    rw [hK.1 p 0 h0.1, hK.1 p 1 h0.1, hK.1 p 3 h0.1, hK.2.1, e9, e0, e1]
    rcases h with h | h | h | h | ⟨h1, h2, c, m, h3, h4, h5, h6, h7, h8, h9⟩
    · exact Or.inl h
    · exact Or.inr (Or.inl h)
    · exact Or.inr (Or.inr (Or.inl h))
    · exact Or.inr (Or.inr (Or.inr (Or.inl h)))
    · exact Or.inr (Or.inr (Or.inr (Or.inr ⟨h1, h2, c, m, h3, h4, h5, h6, h7, h8, CHN_nk hK (TR.nk hK e9 e0 e1 k) m _ _ _ h9⟩)))
theorem CTL_nk {R R' : Nat → Nat → Prop} {T : Nat → Nat → Nat → Prop} {f f' : Nat → Int32} (e2 : K'.2.2.1 = K.2.2.1) (hR : ∀ q i j v, T q i j → R q v → R' q v) : ∀ (m q w i j : Nat), CHN T K m q i j → (∀ x, x < m → f' (w + x) = f (w + x)) → CTL R K f m q w → CTL R' K' f' m q w
  | 0, _, _, _, _, _, _, _ => trivial
  | m + 1, q, w, i, j, hC, hf, h => by
    obtain ⟨v', h0, h1, h2, h3⟩ := h
    obtain ⟨-, i', c1, c2⟩ := hC
    refine ⟨v', h0, by have := hf 0 (by omega); rw [Nat.add_zero] at this; rw [this]; exact h1, hR q i i' v' c1 h2, ?_⟩
    rw [e2]
    exact CTL_nk e2 hR m _ (w + 1) i' j c2 (fun x hx => by have := hf (x + 1) (by omega); rw [show w + 1 + x = w + (x + 1) by omega]; exact this) h3
/-- values of terms stay when holes are filled and values are made; the ints of the nodes are the same -/
theorem CT.nk {f f' : Nat → Int32} {N N' : Nat} {hl hl' : List Nat} {ec ec' eh eh' : Nat → Nat → Prop} (hK : NK K K') (hf : ∀ j, j < N → (∀ h ∈ hl, j ≠ h + 1) → f' j = f j) (hN : N ≤ N') (hh : ∀ h ∈ hl', h ∈ hl ∨ N ≤ h) (hc : ∀ c v, ec c v → ec' c v) (he : ∀ p v, eh p v → eh' p v) : ∀ (k p i j v : Nat), TR K b pl k p i j → CT K f N hl ec eh k p v → CT K' f' N' hl' ec' eh' k p v
  | 0, _, _, _, _, h, _ => h.elim
  | k + 1, p, i, j, v, ht, h => by
    obtain ⟨n0, -, ht⟩ := ht
    unfold CT at h ⊢
    rw [hK.1 p 0 n0.1, hK.1 p 1 n0.1, hK.1 p 3 n0.1, hK.2.1]
    rcases h with ⟨h1, c, h2, h3, h4⟩ | ⟨h1, h2⟩ | ⟨hs, h⟩
    · exact Or.inl ⟨h1, c, h2, h3, hc c v h4⟩
    · exact Or.inr (Or.inl ⟨h1, he p v h2⟩)
    · have pos : ∀ j, v ≤ j → j < ext f v → f' j = f j := fun j j1 j2 => hf j (by have := hs.1; omega) (fun h hh2 e => by have := hs.2 h hh2; omega)
      have e0 : f' v = f v := pos v (Nat.le_refl _) (by unfold ext; omega)
      have e3 : f' (v + 1) = f (v + 1) := pos _ (by omega) (by unfold ext; omega)
      have e4 : f' (v + 2) = f (v + 2) := pos _ (by omega) (by unfold ext; omega)
      have ee : ext f' v = ext f v := by unfold ext; rw [e4]
      have hs' : SEPv f' N' hl' v := by
        refine ⟨by rw [ee]; have := hs.1; omega, fun h hm => ?_⟩
        rw [ee]
        rcases hh h hm with q | q
        · exact hs.2 h q
        · have := hs.1; omega
      rw [e0, e3, e4]
      rcases h with h | h | ⟨h1, m, h2, h3, h4, h5, h6, h7⟩
      · exact Or.inr (Or.inr ⟨hs', Or.inl h⟩)
      · exact Or.inr (Or.inr ⟨hs', Or.inr (Or.inl h)⟩)
      · refine Or.inr (Or.inr ⟨hs', Or.inr (Or.inr ⟨h1, m, h2, h3, h4, h5, h6, ?_⟩)⟩)
        have hch : ∃ i j, CHN (TR K b pl k) K m (K.2.2.1 p 4) i j := by
          rcases ht with q | q | q | q | ⟨-, -, c, m', -, t4, -, -, t7, -, t9⟩
          · rw [h1] at q; exact absurd q.1 (by decide)
          · rw [h1] at q; exact absurd q.1 (by decide)
          · rw [h1] at q; exact absurd q.1 (by decide)
          · rw [h1] at q; exact absurd q.1 (by decide)
          · rw [h6] at t7
            have := (nI_eq (by omega) (by omega)).mp t7
            subst this
            exact ⟨_, _, t9⟩
        obtain ⟨i2, j2, hch⟩ := hch
        exact CTL_nk hK.2.1 (fun q i j v x y => CT.nk hK hf hN hh hc he k q i j v x y) m _ _ i2 j2 hch (fun x hx => pos _ (by omega) (by unfold ext; rw [h5, nI_clamp (by omega)]; omega)) h7
end CPT0
/-- the values of both sides -/
def TVS (ar : Nat → Nat) (hl : List Nat) (C : Nat) (K : cp_K) (S : cp_S) (ρ : Nat → Nat → Prop) (nv nc : Nat) : Prop := (VI (rat K 7) (rsz K 7) S.2 nv nc ρ hl C ∧ (∀ h ∈ hl, h + 3 ≤ rsz K 7) ∧ AR ar (rat K 7) ρ) ∧ (S.1 35 = nI nv ∧ S.1 40 = nI nc) ∧ rsz K 9 < 16000 ∧ rsz K 11 < 16000
/-- the names of a frame on both sides -/
def FRM (K : cp_K) (frame : Nat) (S : cp_S) (lev : Nat) (sc : Nat → Prop) (ρ : Nat → Nat → Prop) : Prop := ∀ c, c < 26 → sc c → ∃ v r, v < 2 ^ 31 ∧ r < 2 ^ 31 ∧ LU K frame c v ∧ S.2 63 (26 * lev + c) = nI r ∧ ρ v r
/-- a term of the dictionary: no holes, its variables lie in sc, its constants have their arguments -/
def DTM (K : cp_K) (b : Nat → Nat → Int32) (ar : Nat → Nat) (k : Nat) (sc : Nat → Prop) (q i j : Nat) : Prop := TR K b (fun _ _ => True) k q i j ∧ ∀ x, i ≤ x → x < j → ¬ b 39 x = 4 ∧ (∀ c, b 39 x = 1 → b 40 x = nI c → c < 26 → sc c) ∧ ∀ c m, b 39 x = 5 → b 40 x = nI c → c < 26 → b 41 x = nI m → m ≤ 6 → m = ar c
theorem DTM.mv {K K' : cp_K} {b b' : Nat → Nat → Int32} {ar : Nat → Nat} {k q i j : Nat} {sc : Nat → Prop} (hK : NK K K') (hb : BK b b') (h : DTM K b ar k sc q i j) : DTM K' b' ar k sc q i j := by
  refine ⟨TR.nk hK (hb 39 (by omega)) (hb 40 (by omega)) (hb 41 (by omega)) k q i j h.1, ?_⟩
  rw [hb 39 (by omega), hb 40 (by omega), hb 41 (by omega)]
  exact h.2
section CPT1
variable {ar : Nat → Nat} {hl : List Nat} {C : Nat} {K : cp_K} {S : cp_S} {ρ : Nat → Nat → Prop} {nv nc n : Nat}
/-- a term of the dictionary is evaluated on both sides -/
theorem evd {lev frame k q i j : Nat} {sc : Nat → Prop} (st : TVS ar hl C K S ρ nv nc) (hB : BS K n) (hn : n < 15000) (fr : FRM K frame S lev sc ρ) (ht : DTM K S.2 ar k sc q i j) (hk : k ≤ 40) (hlev : lev ≤ 9) (hj : j ≤ 2720) (hij : j - i ≤ 110) (h7 : rsz K 7 < 1047000) (hnv : nv + (j - i) < 6000) (hnc : nc + (j - i) < 6000) :
    ∃ (v r : Nat) (K1 : cp_K) (S1 : cp_S) (ρ1 : Nat → Nat → Prop) (nv1 nc1 : Nat), VBP K K1 n (9 * (j - i)) ∧ v < 2 ^ 31 ∧ KC (k + 8) m_T_valueBy (fun G => [.ref (cp_b G + 24), va_rf (kr G q), .int (nI frame)]) K (fun _ => some (.int (nI v))) K1 ∧ VRP S S1 nv nc nv1 nc1 (j - i) (j - i - 1) 0 ∧ r < 2 ^ 31 ∧ MC 2 m_M_valueOf [.int (nI i), .int (nI lev)] S (some (.int (nI r))) S1 ∧ ρ1 v r ∧ (∀ x y, ρ x y → ρ1 x y) ∧ TVS ar hl C K1 S1 ρ1 nv1 nc1 := by
  obtain ⟨⟨V, hh, hA⟩, ⟨h35, h40⟩, h9, h11⟩ := st
  have hlt := SH_lt _ _ _ (TR.sh _ _ _ _ ht.1)
  have hVH : VH S.2 frame (fun c v => ∃ r, S.2 63 (26 * lev + c) = nI r ∧ r < 2 ^ 31 ∧ ρ v r) K i j := ⟨fun x x1 x2 => (ht.2 x x1 x2).1, fun x c x1 x2 e1 e2 hc => by
    obtain ⟨v, r, a1, a2, a3, a4, a5⟩ := fr c hc ((ht.2 x x1 x2).2.1 c e1 e2 hc)
    exact ⟨v, a1, ⟨r, a4, a2, a5⟩, a3⟩⟩
  have hRH : RH S lev (fun c r => S.2 63 (26 * lev + c) = nI r ∧ r < 2 ^ 31) (fun _ _ => False) i j := ⟨fun x c x1 x2 e1 e2 hc => by
    obtain ⟨v, r, a1, a2, a3, a4, a5⟩ := fr c hc ((ht.2 x x1 x2).2.1 c e1 e2 hc)
    exact ⟨r, a2, a4, a4, a2⟩, fun x x1 x2 e => absurd e (ht.2 x x1 x2).1⟩
  obtain ⟨v, K1, c1, c2, c3, c4⟩ := valBy (hl := hl) k q i j K n ht.1 hB (by omega) hVH (by omega) hh
  obtain ⟨r, S1, nv1, nc1, r1, r2, r3, r4⟩ := valOf_m hlev (TR.ts _ _ _ _ ht.1) hj h35 h40 hnv hnc hij hRH
  obtain ⟨y1, y2, y3, y4, y5, y6, y7, y8, y9, y10, y11, y12, y13⟩ := id r1
  have nk := c1.1.nk
  have s39 : S1.2 39 = S.2 39 := y10 39 (by omega)
  have s40 : S1.2 40 = S.2 40 := y10 40 (by omega)
  have s41 : S1.2 41 = S.2 41 := y10 41 (by omega)
  obtain ⟨-, b2, b3, b4, b5, b6⟩ := id c1
  have V1 : VI (rat K1 7) (rsz K1 7) S1.2 nv1 nc1 ρ hl C := V.grow hh b6 b4 (by omega) y11 y12 y5 (by omega) y7 (by omega)
  obtain ⟨ρ1, g1, g2, g3, g4⟩ := rel (by omega) k ρ q i j v r (TR.nk nk s39 s40 s41 k q i j ht.1) c3 r3 (fun c v r e1 e2 => by
    obtain ⟨r', z1, z2, z3⟩ := e1
    have : r = r' := (nI_eq e2.2 z2).mp (e2.1.symm.trans z1)
    rw [this]; exact z3) (fun _ _ _ _ _ _ _ _ e _ => e.elim) V1
  have A1 : AR ar (rat K1 7) ρ1 := AR.of (AR.up V hA b6) g3 (fun x c m x1 x2 e1 e2 hc e3 hm => (ht.2 x x1 x2).2.2 c m (by rw [← s39]; exact e1) (by rw [← s40]; exact e2) hc (by rw [← s41]; exact e3) hm)
  refine ⟨v, r, K1, S1, ρ1, nv1, nc1, c1, c2, c4, r1, r2, r4, g2, g1, ⟨g4, fun h hm => Nat.le_trans (hh h hm) b4, A1⟩, ⟨y3, y4⟩, ?_, ?_⟩
  · rw [(c1.1.2.2.1 9 (by decide)).1]; exact h9
  · rw [(c1.1.2.2.1 11 (by decide)).1]; exact h11
end CPT1
