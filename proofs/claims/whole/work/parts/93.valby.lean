/-! ===== the class's value of a term ===== -/
def SEPv (f : Nat → Int32) (N : Nat) (hl : List Nat) (v : Nat) : Prop := ext f v ≤ N ∧ ∀ h ∈ hl, h + 1 < v ∨ ext f v ≤ h + 1
def CTL (R : Nat → Nat → Prop) (K : cp_K) (f : Nat → Int32) : Nat → Nat → Nat → Prop
  | 0, _, _ => True
  | m + 1, q, w => ∃ v', v' < 2 ^ 31 ∧ f w = nI v' ∧ R q v' ∧ CTL R K f m (K.2.2.1 q 6) (w + 1)
/-- v is the value of the term p: ec gives the variables' values, eh the holes' -/
def CT (K : cp_K) (f : Nat → Int32) (N : Nat) (hl : List Nat) (ec eh : Nat → Nat → Prop) : Nat → Nat → Nat → Prop
  | 0, _, _ => False
  | k + 1, p, v => (K.2.1 p 0 = 5 ∧ ∃ c, c < 26 ∧ K.2.1 p 1 = nI (97 + c) ∧ ec c v) ∨ (K.2.1 p 0 = 4 ∧ eh p v) ∨
    (SEPv f N hl v ∧ ((K.2.1 p 0 = 1 ∧ f v = 1 ∧ f (v + 1) = K.2.1 p 1 ∧ f (v + 2) = 0) ∨ (K.2.1 p 0 = 2 ∧ f v = 2 ∧ f (v + 1) = 0 ∧ f (v + 2) = 0) ∨
      (K.2.1 p 0 = 6 ∧ ∃ m, m ≤ 6 ∧ f v = 6 ∧ f (v + 1) = K.2.1 p 1 ∧ f (v + 2) = nI m ∧ K.2.1 p 3 = nI m ∧ CTL (CT K f N hl ec eh k) K f m (K.2.2.1 p 4) (v + 3))))
section CPCT
variable {K K' : cp_K} {f f' : Nat → Int32} {N N' : Nat} {hl hl' : List Nat} {ec ec' eh eh' : Nat → Nat → Prop}
theorem CTL_mv {R R' : Nat → Nat → Prop} (e2 : K'.2.2.1 = K.2.2.1) (hR : ∀ q v, R q v → R' q v) : ∀ (m q w : Nat), (∀ i, i < m → f' (w + i) = f (w + i)) → CTL R K f m q w → CTL R' K' f' m q w
  | 0, _, _, _, _ => trivial
  | m + 1, q, w, hf, h => by
    obtain ⟨v', h0, h1, h2, h3⟩ := h
    refine ⟨v', h0, by have := hf 0 (by omega); rw [Nat.add_zero] at this; rw [this]; exact h1, hR q v' h2, ?_⟩
    rw [e2]
    exact CTL_mv e2 hR m _ (w + 1) (fun i hi => by have := hf (i + 1) (by omega); rw [show w + 1 + i = w + (i + 1) by omega]; exact this) h3
/-- values of terms stay when holes are filled and values are made -/
theorem CT.mv (e1 : K'.2.1 = K.2.1) (e2 : K'.2.2.1 = K.2.2.1) (hf : ∀ j, j < N → (∀ h ∈ hl, j ≠ h + 1) → f' j = f j) (hN : N ≤ N') (hh : ∀ h ∈ hl', h ∈ hl ∨ N ≤ h) (hc : ∀ c v, ec c v → ec' c v) (he : ∀ p v, eh p v → eh' p v) : ∀ (k p v : Nat), CT K f N hl ec eh k p v → CT K' f' N' hl' ec' eh' k p v
  | 0, _, _, h => h
  | k + 1, p, v, h => by
    unfold CT at h ⊢
    rw [e1, e2]
    rcases h with ⟨h1, c, h2, h3, h4⟩ | ⟨h1, h2⟩ | ⟨hs, h⟩
    · exact Or.inl ⟨h1, c, h2, h3, hc c v h4⟩
    · exact Or.inr (Or.inl ⟨h1, he p v h2⟩)
    · have pos : ∀ j, v ≤ j → j < ext f v → f' j = f j := fun j j1 j2 => hf j (by have := hs.1; omega) (fun h hh2 e => by have := hs.2 h hh2; omega)
      have e0 : f' v = f v := pos v (Nat.le_refl _) (by unfold ext; omega)
      have e3 : f' (v + 1) = f (v + 1) := pos _ (by omega) (by unfold ext; omega)
      have e4 : f' (v + 2) = f (v + 2) := pos _ (by omega) (by unfold ext; omega)
      have ee : ext f' v = ext f v := by unfold ext; rw [e4]
      have hs' : SEPv f' N' hl' v := by
        refine ⟨by rw [ee]; have := hs.1; omega, fun h hm => ?_⟩
        rw [ee]
        rcases hh h hm with q | q
        · exact hs.2 h q
        · have := hs.1; omega
      rw [e0, e3, e4]
      rcases h with h | h | ⟨h1, m, h2, h3, h4, h5, h6, h7⟩
      · exact Or.inr (Or.inr ⟨hs', Or.inl h⟩)
      · exact Or.inr (Or.inr ⟨hs', Or.inr (Or.inl h)⟩)
      · refine Or.inr (Or.inr ⟨hs', Or.inr (Or.inr ⟨h1, m, h2, h3, h4, h5, h6, ?_⟩)⟩)
        exact CTL_mv e2 (CT.mv e1 e2 hf hN hh hc he k) m _ _ (fun i hi => pos _ (by omega) (by unfold ext; rw [h5, nI_clamp (by omega)]; omega)) h7
theorem CHN_mv {R R' : Nat → Nat → Nat → Prop} (e2 : K'.2.2.1 = K.2.2.1) (hn : ∀ p, nd K p 9 → nd K' p 9) (hR : ∀ q i j, R q i j → R' q i j) : ∀ (m q i j : Nat), CHN R K m q i j → CHN R' K' m q i j
  | 0, _, _, _, h => h
  | m + 1, q, i, j, h => by
    obtain ⟨h1, i', h2, h3⟩ := h
    refine ⟨hn q h1, i', hR q i i' h2, ?_⟩
    rw [e2]
    exact CHN_mv e2 hn hR m _ i' j h3
theorem TR.mv {b : Nat → Nat → Int32} {pl : Nat → Nat → Prop} (e1 : K'.2.1 = K.2.1) (e2 : K'.2.2.1 = K.2.2.1) (hn : ∀ p, nd K p 9 → nd K' p 9) : ∀ (k p i j : Nat), TR K b pl k p i j → TR K' b pl k p i j
  | 0, _, _, _, h => h
  | k + 1, p, i, j, h => by
    unfold TR at h ⊢
    rw [e1, e2]
    obtain ⟨h0, hpl, h⟩ := h
    refine ⟨hn p h0, hpl, ?_⟩
    rcases h with h | h | h | h | ⟨h1, h2, c, m, h3, h4, h5, h6, h7, h8, h9⟩
    · exact Or.inl h
    · exact Or.inr (Or.inl h)
    · exact Or.inr (Or.inr (Or.inl h))
    · exact Or.inr (Or.inr (Or.inr (Or.inl h)))
    · exact Or.inr (Or.inr (Or.inr (Or.inr ⟨h1, h2, c, m, h3, h4, h5, h6, h7, h8, CHN_mv e2 hn (TR.mv e1 e2 hn k) m _ _ _ h9⟩)))
theorem CTL_of {R : Nat → Nat → Prop} : ∀ (ws : List Nat) (q w : Nat), (∀ i (hi : i < ws.length), ws[i] < 2 ^ 31 ∧ f (w + i) = nI ws[i]) → CTL R K (fun j => nI (ws.getD (j - w) 0)) ws.length q w → CTL R K f ws.length q w := fun ws q w hw h => CTL_mv (K := K) (f := fun j => nI (ws.getD (j - w) 0)) rfl (fun _ _ x => x) ws.length q w (fun i hi => by
    rw [(hw i hi).2]
    congr 1
    rw [Nat.add_sub_cancel_left]
    simp [List.getD_eq_getElem?_getD, List.getElem?_eq_getElem hi]) h
/-- a list of values, one for each node of a chain -/
def CTW (R : Nat → Nat → Prop) (K : cp_K) : List Nat → Nat → Prop
  | [], _ => True
  | v :: ws, q => v < 2 ^ 31 ∧ R q v ∧ CTW R K ws (K.2.2.1 q 6)
theorem CTW_mv {R R' : Nat → Nat → Prop} (e2 : K'.2.2.1 = K.2.2.1) (hR : ∀ q v, R q v → R' q v) : ∀ (ws : List Nat) (q : Nat), CTW R K ws q → CTW R' K' ws q
  | [], _, _ => trivial
  | v :: ws, q, h => ⟨h.1, hR q v h.2.1, by rw [e2]; exact CTW_mv e2 hR ws _ h.2.2⟩
theorem CTW_L {R : Nat → Nat → Prop} : ∀ (ws : List Nat) (q w : Nat), (∀ i (hi : i < ws.length), f (w + i) = nI ws[i]) → CTW R K ws q → CTL R K f ws.length q w
  | [], _, _, _, _ => trivial
  | v :: ws, q, w, hf, h => by
    refine ⟨v, h.1, hf 0 (by simp), h.2.1, CTW_L ws _ (w + 1) (fun i hi => ?_) h.2.2⟩
    have := hf (i + 1) (by simpa using hi)
    simp only [List.getElem_cons_succ] at this
    rw [← this]
    congr 1
    omega
end CPCT
/-- what valueBy leaves: only the values' row has grown -/
def VBP (K K' : cp_K) (n d : Nat) : Prop := KF [7, 15, 17, 19] K K' ∧ BS K' n ∧ (∀ q, q ≠ 7 → ∀ x, x < n → rat K' q x = rat K q x) ∧ rsz K 7 ≤ rsz K' 7 ∧ rsz K' 7 ≤ rsz K 7 + d ∧ ∀ x, x < rsz K 7 → rat K' 7 x = rat K 7 x
theorem VBP.lu {K K' : cp_K} {n d frame c v : Nat} (h : VBP K K' n d) (hb : BS K n) (hl : LU K frame c v) : LU K' frame c v := by
  obtain ⟨i, ⟨h1, h2, h3, h4⟩, h5⟩ := hl
  have e := h.2.1.1
  have e0 := hb.1
  refine ⟨i, ⟨h1, by omega, by rw [h.2.2.1 15 (by decide) i (by omega)]; exact h3, fun j j1 j2 => by rw [h.2.2.1 15 (by decide) j (by omega)]; exact h4 j j1 (by omega)⟩, by rw [h.2.2.1 17 (by decide) i (by omega)]; exact h5⟩
theorem VBP.trans {K K1 K2 : cp_K} {n d d' : Nat} (h : VBP K K1 n d) (g : VBP K1 K2 n d') : VBP K K2 n (d + d') := by
  obtain ⟨h1, h2, h3, h4, h5, h6⟩ := h
  obtain ⟨g1, g2, g3, g4, g5, g6⟩ := g
  exact ⟨h1.trans g1, g2, fun q hq x hx => (g3 q hq x hx).trans (h3 q hq x hx), by omega, by omega, fun x hx => (g6 x (by omega)).trans (h6 x hx)⟩
