/-! ===== reading: trees that were read, frames ===== -/
def RCH (R : Nat → Nat → Nat → Nat → Prop) (K : cp_K) : Nat → Nat → Nat → Nat → Nat → Nat → Prop
  | 0, q, i, j, a, a1 => q = 0 ∧ i = j ∧ a = a1
  | m + 1, q, i, j, a, a1 => q = a ∧ ∃ i' a', R q i i' a' ∧ RCH R K m (K.2.2.1 q 6) i' j a' a1
/-- the term q of the class, nodes i to j of the reference; its nodes lie at q to a1 -/
def RTR (K : cp_K) (b : Nat → Nat → Int32) (rf : Nat) : Nat → Nat → Nat → Nat → Nat → Prop
  | 0, _, _, _, _ => False
  | k + 1, q, i, j, a1 => nd K q 9 ∧ K.2.1 q 2 = b 42 (i - rf) ∧
    ((K.2.1 q 0 = 5 ∧ b 39 i = 1 ∧ (∃ c, c < 26 ∧ K.2.1 q 1 = nI (97 + c) ∧ b 40 i = nI c) ∧ j = i + 1 ∧ a1 = q + 1) ∨
     (K.2.1 q 0 = 1 ∧ b 39 i = 2 ∧ K.2.1 q 1 = b 40 i ∧ j = i + 1 ∧ a1 = q + 1) ∨
     (K.2.1 q 0 = 2 ∧ b 39 i = 3 ∧ K.2.1 q 1 = 0 ∧ j = i + 1 ∧ a1 = q + 1) ∨
     (K.2.1 q 0 = 4 ∧ b 39 i = 4 ∧ j = i + 1 ∧ a1 = q + 1) ∨
     (K.2.1 q 0 = 6 ∧ b 39 i = 5 ∧ ∃ c m, c < 26 ∧ m ≤ 6 ∧ K.2.1 q 1 = nI (65 + c) ∧ b 40 i = nI c ∧ K.2.1 q 3 = nI m ∧ b 41 i = nI m ∧ RCH (RTR K b rf k) K m (K.2.2.1 q 4) (i + 1) j (q + 1) a1))
theorem RCH.le {R : Nat → Nat → Nat → Nat → Prop} {K : cp_K} (hR : ∀ q i j a, R q i j a → i < j ∧ q < a) : ∀ (m q i j a a1 : Nat), RCH R K m q i j a a1 → i + m ≤ j ∧ a + m ≤ a1
  | 0, _, _, _, _, _, h => by have := h.2.1; have := h.2.2; omega
  | m + 1, q, i, j, a, a1, h => by
    obtain ⟨rfl, i', a', h1, h2⟩ := h
    have := hR _ _ _ _ h1
    have := RCH.le hR m _ _ _ _ _ h2
    omega
theorem RTR.lt {K : cp_K} {b : Nat → Nat → Int32} {rf : Nat} : ∀ (k q i j a1 : Nat), RTR K b rf k q i j a1 → i < j ∧ q < a1
  | 0, _, _, _, _, h => h.elim
  | k + 1, q, i, j, a1, h => by
    obtain ⟨-, -, h⟩ := h
    rcases h with h | h | h | h | ⟨-, -, c, m, -, -, -, -, -, -, h⟩
    · exact ⟨by omega, by omega⟩
    · exact ⟨by omega, by omega⟩
    · exact ⟨by omega, by omega⟩
    · exact ⟨by omega, by omega⟩
    · have := RCH.le (RTR.lt k) m _ _ _ _ _ h
      omega
theorem RCH.loc {R R' : Nat → Nat → Nat → Nat → Prop} {K K' : cp_K} (hlt : ∀ q i j a, R q i j a → i < j ∧ q < a) : ∀ (m q i j a a1 : Nat), RCH R K m q i j a a1 → (∀ q i' j' a', a ≤ q → a' ≤ a1 → i ≤ i' → j' ≤ j → R q i' j' a' → R' q i' j' a') → (∀ x, a ≤ x → x < a1 → K'.2.2.1 x 6 = K.2.2.1 x 6) → RCH R' K' m q i j a a1
  | 0, _, _, _, _, _, h, _, _ => h
  | m + 1, q, i, j, a, a1, h, hR, hn => by
    obtain ⟨rfl, i', a', h1, h2⟩ := h
    have l1 := hlt _ _ _ _ h1
    have l2 := RCH.le hlt m _ _ _ _ _ h2
    refine ⟨rfl, i', a', hR _ _ _ _ (Nat.le_refl _) (by omega) (Nat.le_refl _) (by omega) h1, ?_⟩
    rw [hn q (Nat.le_refl _) (by omega)]
    exact RCH.loc hlt m _ _ _ _ _ h2 (fun q i2 j2 a2 c1 c2 c3 c4 c5 => hR q i2 j2 a2 (by omega) c2 (by omega) c4 c5) (fun x x1 x2 => hn x (by omega) x2)
theorem RTR.loc {K K' : cp_K} {b b' : Nat → Nat → Int32} {rf : Nat} (hn : K.1.1 ≤ K'.1.1) : ∀ (k q i j a1 : Nat), RTR K b rf k q i j a1 → (∀ x, q ≤ x → x < a1 → (∀ f, K'.2.1 x f = K.2.1 x f) ∧ K'.1.2 x = K.1.2 x ∧ K'.2.2.1 x 4 = K.2.2.1 x 4 ∧ (x ≠ q → K'.2.2.1 x 6 = K.2.2.1 x 6)) → (∀ x, i ≤ x → x < j → b' 39 x = b 39 x ∧ b' 40 x = b 40 x ∧ b' 41 x = b 41 x ∧ b' 42 (x - rf) = b 42 (x - rf)) → RTR K' b' rf k q i j a1
  | 0, _, _, _, _, h, _, _ => h
  | k + 1, q, i, j, a1, h, hK, hb => by
    have lt := RTR.lt (k + 1) q i j a1 h
    obtain ⟨h0, h2, h⟩ := h
    obtain ⟨k1, k2, k3, -⟩ := hK q (Nat.le_refl _) lt.2
    obtain ⟨b1, b2, b3, b4⟩ := hb i (Nat.le_refl _) lt.1
    unfold RTR
    rw [k1, k1, k1, k1, k3, b1, b2, b3, b4]
    refine ⟨⟨h0.1, by have := h0.2.1; omega, by rw [k2]; exact h0.2.2⟩, h2, ?_⟩
    rcases h with h | h | h | h | ⟨h3, h4, c, m, h5, h6, h7, h8, h9, h10, h11⟩
    · exact Or.inl h
    · exact Or.inr (Or.inl h)
    · exact Or.inr (Or.inr (Or.inl h))
    · exact Or.inr (Or.inr (Or.inr (Or.inl h)))
    · refine Or.inr (Or.inr (Or.inr (Or.inr ⟨h3, h4, c, m, h5, h6, h7, h8, h9, h10, ?_⟩)))
      refine RCH.loc (RTR.lt k) m _ _ _ _ _ h11 (fun q' i' j' a' c1 c2 c3 c4 c5 => RTR.loc hn k q' i' j' a' c5 (fun x x1 x2 => ?_) (fun x x1 x2 => hb x (by omega) (by omega))) (fun x x1 x2 => (hK x (by omega) x2).2.2.2 (by omega))
      obtain ⟨e1, e2, e3, e4⟩ := hK x (by omega) (by omega)
      exact ⟨e1, e2, e3, fun _ => e4 (by omega)⟩
/-- a tree that was read is one of the two sides -/
theorem RCH.chn {R : Nat → Nat → Nat → Nat → Prop} {R' : Nat → Nat → Nat → Prop} {K : cp_K} (hlt : ∀ q i j a, R q i j a → i < j ∧ q < a) : ∀ (m q i j a a1 : Nat), RCH R K m q i j a a1 → (∀ q i' j' a', i ≤ i' → j' ≤ j → R q i' j' a' → nd K q 9 ∧ R' q i' j') → CHN R' K m q i j
  | 0, _, _, _, _, _, h, _ => ⟨h.1, h.2.1⟩
  | m + 1, q, i, j, a, a1, h, hR => by
    obtain ⟨rfl, i', a', h1, h2⟩ := h
    have l1 := hlt _ _ _ _ h1
    have l2 := RCH.le hlt m _ _ _ _ _ h2
    obtain ⟨e1, e2⟩ := hR _ _ _ _ (Nat.le_refl _) (by omega) h1
    exact ⟨e1, i', e2, RCH.chn hlt m _ _ _ _ _ h2 (fun q i2 j2 a2 c1 c2 c3 => hR q i2 j2 a2 (by omega) c2 c3)⟩
theorem RTR.tr {K : cp_K} {b : Nat → Nat → Int32} {rf : Nat} {pl : Nat → Nat → Prop} : ∀ (k q i j a1 : Nat), RTR K b rf k q i j a1 → (∀ q' i', i ≤ i' → i' < j → 86 ≤ q' → K.2.1 q' 2 = b 42 (i' - rf) → pl q' i') → TR K b pl k q i j
  | 0, _, _, _, _, h, _ => h
  | k + 1, q, i, j, a1, h, hp => by
    have lt := RTR.lt (k + 1) q i j a1 h
    obtain ⟨h0, h2, h⟩ := h
    refine ⟨h0, hp q i (Nat.le_refl _) lt.1 h0.1 h2, ?_⟩
    rcases h with ⟨h3, h4, h5, h6, -⟩ | ⟨h3, h4, h5, h6, -⟩ | ⟨h3, h4, h5, h6, -⟩ | ⟨h3, h4, h6, -⟩ | ⟨h3, h4, c, m, h5, h6, h7, h8, h9, h10, h11⟩
    · exact Or.inl ⟨h3, h4, h5, h6⟩
    · exact Or.inr (Or.inl ⟨h3, h4, h5, h6⟩)
    · exact Or.inr (Or.inr (Or.inl ⟨h3, h4, h5, h6⟩))
    · exact Or.inr (Or.inr (Or.inr (Or.inl ⟨h3, h4, h6⟩)))
    · refine Or.inr (Or.inr (Or.inr (Or.inr ⟨h3, h4, c, m, h5, h6, h7, h8, h9, h10, ?_⟩)))
      refine RCH.chn (RTR.lt k) m _ _ _ _ _ h11 (fun q' i' j' a' c1 c2 c3 => ⟨?_, RTR.tr k q' i' j' a' c3 (fun q2 i2 d1 d2 d3 d4 => hp q2 i2 (by omega) (by omega) d3 d4)⟩)
      cases k with
      | zero => exact c3.elim
      | succ k => exact c3.1
/-- the class has read on; q0 is filled, ql was its last part -/
def KRX (q0 ql : Nat) (K K' : cp_K) : Prop := K.1.1 ≤ K'.1.1 ∧ (∀ x, x < K.1.1 → K'.1.2 x = K.1.2 x) ∧ (∀ x, K.1.1 ≤ x → x < K'.1.1 → K'.1.2 x = 9) ∧ (∀ x, x < K.1.1 → x ≠ 21 → ∀ f, (x ≠ q0 ∨ f ≠ 3) → K'.2.1 x f = K.2.1 x f) ∧ (∀ f, f ≠ 2 → K'.2.1 21 f = K.2.1 21 f) ∧ (∀ x, x < K.1.1 → ∀ f, (x ≠ q0 ∨ (f ≠ 4 ∧ f ≠ 5)) → (x ≠ ql ∨ f ≠ 6) → K'.2.2.1 x f = K.2.2.1 x f) ∧ K'.2.2.2 = K.2.2.2
theorem KRX.refl {q0 ql : Nat} {K : cp_K} : KRX q0 ql K K := ⟨Nat.le_refl _, fun _ _ => rfl, fun x h1 h2 => by omega, fun _ _ _ _ _ => rfl, fun _ _ => rfl, fun _ _ _ _ _ => rfl, rfl⟩
theorem KRX.trans {q0 ql q1 qk : Nat} {K K1 K2 : cp_K} (h : KRX q0 ql K K1) (g : KRX q1 qk K1 K2) (h0 : q1 = q0 ∨ K.1.1 ≤ q1) (hl : qk = ql ∨ K.1.1 ≤ qk) : KRX q0 ql K K2 := by
  obtain ⟨a1, a2, a3, a4, a5, a6, a7⟩ := h
  obtain ⟨b1, b2, b3, b4, b5, b6, b7⟩ := g
  refine ⟨by omega, fun x hx => (b2 x (by omega)).trans (a2 x hx), fun x x1 x2 => ?_, fun x hx h21 f hf => ?_, fun f hf => (b5 f hf).trans (a5 f hf), fun x hx f hf hg => ?_, b7.trans a7⟩
  · by_cases hx : x < K1.1.1
    · rw [b2 x hx]; exact a3 x x1 hx
    · exact b3 x (by omega) x2
  · rw [b4 x (by omega) h21 f (by rcases h0 with e | e; rw [e]; exact hf; exact Or.inl (by omega))]
    exact a4 x hx h21 f hf
  · rw [b6 x (by omega) f (by rcases h0 with e | e; rw [e]; exact hf; exact Or.inl (by omega)) (by rcases hl with e | e; rw [e]; exact hg; exact Or.inl (by omega))]
    exact a6 x hx f hf hg
theorem KRX.nd {q0 ql : Nat} {K K' : cp_K} (h : KRX q0 ql K K') {p c : Nat} (hp : nd K p c) : nd K' p c := ⟨hp.1, by have := hp.2.1; have := h.1; omega, by rw [h.2.1 p hp.2.1]; exact hp.2.2⟩
/-- the reference has read on; the count of i0 may have grown -/
def RFX (rf n1 len i0 : Nat) (S S' : cp_S) : Prop := (∀ k, k ≠ 16 → k ≠ 29 → S'.1 k = S.1 k) ∧ (∀ q, (q < 39 ∨ (43 < q ∧ q < 49) ∨ 51 < q) → S'.2 q = S.2 q) ∧ (∀ q, 39 ≤ q → q ≤ 41 → ∀ x, x < n1 → (x ≠ i0 ∨ q ≠ 41) → S'.2 q x = S.2 q x) ∧ (∀ x, x < n1 - rf → S'.2 42 x = S.2 42 x) ∧ ∀ q, 49 ≤ q → q ≤ 51 → ∀ x, x < len → S'.2 q x = S.2 q x
theorem RFX.refl {rf n1 len i0 : Nat} {S : cp_S} : RFX rf n1 len i0 S S := ⟨fun _ _ _ => rfl, fun _ _ => rfl, fun _ _ _ _ _ _ => rfl, fun _ _ => rfl, fun _ _ _ _ _ => rfl⟩
theorem RFX.trans {rf n1 len i0 n2 len2 i2 : Nat} {S S1 S2 : cp_S} (h : RFX rf n1 len i0 S S1) (g : RFX rf n2 len2 i2 S1 S2) (hn : n1 ≤ n2) (hl : len ≤ len2) (hi : i2 = i0 ∨ n1 ≤ i2) : RFX rf n1 len i0 S S2 := by
  obtain ⟨a1, a2, a3, a4, a5⟩ := h
  obtain ⟨b1, b2, b3, b4, b5⟩ := g
  refine ⟨fun k k1 k2 => (b1 k k1 k2).trans (a1 k k1 k2), fun q hq => (b2 q hq).trans (a2 q hq), fun q q1 q2 x hx hh => ?_, fun x hx => (b4 x (by omega)).trans (a4 x hx), fun q q1 q2 x hx => (b5 q q1 q2 x (by omega)).trans (a5 q q1 q2 x hx)⟩
  rw [b3 q q1 q2 x (by omega) (by rcases hi with e | e; rw [e]; exact hh; exact Or.inl (by omega))]
  exact a3 q q1 q2 x hx hh
theorem RFX.wk {rf n1 len i0 n2 len2 i2 : Nat} {S S1 : cp_S} (h : RFX rf n1 len i0 S S1) (hn : n2 ≤ n1) (hl : len2 ≤ len) (hi : i2 = i0 ∨ n2 ≤ i0) : RFX rf n2 len2 i2 S S1 := RFX.trans (RFX.refl (i0 := i2)) h hn hl (by omega)
/-- places of the nodes grow -/
def PLI (S : cp_S) (rf n1 p : Nat) : Prop := (∀ i, rf ≤ i → i < n1 → ∃ w, w < p ∧ S.2 42 (i - rf) = nI w) ∧ ∀ i i', rf ≤ i → i < i' → i' < n1 → ∃ w w', w < w' ∧ w' < p ∧ S.2 42 (i - rf) = nI w ∧ S.2 42 (i' - rf) = nI w'
theorem PLI.inj {S : cp_S} {rf n1 p i i' : Nat} (h : PLI S rf n1 p) (hp : p ≤ 100) (h1 : rf ≤ i) (h2 : i < n1) (h3 : rf ≤ i') (h4 : i' < n1) (e : S.2 42 (i - rf) = S.2 42 (i' - rf)) : i = i' := by
  by_cases a : i < i'
  · obtain ⟨w, w', q1, q2, q3, q4⟩ := h.2 i i' h1 a h4
    rw [q3, q4] at e
    have := (nI_eq (by omega) (by omega)).mp e
    omega
  · by_cases b : i' < i
    · obtain ⟨w, w', q1, q2, q3, q4⟩ := h.2 i' i h3 b h2
      rw [q3, q4] at e
      have := (nI_eq (by omega) (by omega)).mp e
      omega
    · omega
/-- both read: p characters are taken, n1 nodes stand -/
def RJ (tx : Nat → Nat) (n rf : Nat) (K : cp_K) (S : cp_S) (l : List cp_I) (p n1 : Nat) : Prop := (K.2.1 21 2 = nI p ∧ K.2.1 21 1 = nI n ∧ qok K ∧ 86 ≤ K.1.1) ∧ PS S l n1 rf ∧ (n ≤ 80 ∧ p ≤ n ∧ rf ≤ n1 ∧ n1 - rf ≤ p ∧ rf ≤ 2630) ∧ (∀ x, x < n → (32 ≤ tx x ∧ tx x ≤ 126) ∧ K.2.1 1 x = nI (tx x) ∧ S.2 27 x = nI (tx x)) ∧ PLI S rf n1 p
section CPRJ
variable {tx : Nat → Nat} {n rf : Nat} {K K' : cp_K} {S S' : cp_S} {l l' : List cp_I} {p p' n1 n1' : Nat}
theorem RJ.pk (h : RJ tx n rf K S l p n1) (hp : p < n) : qpk K = nI (tx p) := by
  obtain ⟨⟨h1, h2, h3, h4⟩, -, ⟨h5, -⟩, h7, -⟩ := h
  unfold qpk
  rw [h1, h2, if_neg, nI_clamp (by omega)]
  · exact (h7 p hp).2.1
  · rintro (a | a)
    · exact absurd a (nI_pos (by omega))
    · exact absurd a (nI_ge (by omega) (by omega))
theorem RJ.pk0 (h : RJ tx n rf K S l n n1) : qpk K = 0 := by
  obtain ⟨⟨h1, h2, h3, h4⟩, -, ⟨h5, -⟩, h7, -⟩ := h
  unfold qpk
  rw [h1, h2, if_pos (Or.inr (nI_le (Nat.le_refl _) (by omega)))]
/-- the class and the reference move on -/
theorem RJ.mv {q0 ql i0 m len : Nat} (h : RJ tx n rf K S l p n1) (hk : KRX q0 ql K K') (hf : RFX rf m len i0 S S') (ps : PS S' l' n1' rf) (h21 : K'.2.1 21 2 = nI p') (hp : p' ≤ n) (hn : rf ≤ n1' ∧ n1' - rf ≤ p') (pi : PLI S' rf n1' p') (hq : q0 ≠ 1) : RJ tx n rf K' S' l' p' n1' := by
  obtain ⟨⟨h1, h2, h3, h4⟩, -, ⟨h5, h6, h6', h6'', h6r⟩, h7, -⟩ := h
  obtain ⟨a1, a2, a3, a4, a5, a6, a7⟩ := hk
  have e1 : K'.2.1 1 = K.2.1 1 := funext (fun f => a4 1 (by omega) (by decide) f (Or.inl (Ne.symm hq)))
  refine ⟨⟨h21, by rw [a5 1 (by decide)]; exact h2, ?_, by omega⟩, ps, ⟨h5, hp, hn.1, hn.2, h6r⟩, fun x hx => ?_, pi⟩
  · unfold qok at h3 ⊢
    rw [e1, a5 1 (by decide)]
    refine ⟨?_, h3.2⟩
    by_cases hq0 : (21 ≠ q0 ∨ (0 ≠ 4 ∧ 0 ≠ 5)) ∧ (21 ≠ ql ∨ 0 ≠ 6)
    · rw [a6 21 (by omega) 0 (Or.inr ⟨by decide, by decide⟩) (Or.inr (by decide))]; exact h3.1
    · exact absurd ⟨Or.inr ⟨by decide, by decide⟩, Or.inr (by decide)⟩ hq0
  · obtain ⟨b1, b2, b3⟩ := h7 x hx
    exact ⟨b1, by rw [e1]; exact b2, by rw [hf.2.1 27 (by omega)]; exact b3⟩
end CPRJ
