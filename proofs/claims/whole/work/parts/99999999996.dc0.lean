/-! ===== the dictionary: what later calls leave as it was ===== -/
def KFX (K K' : cp_K) : Prop := K.1.1 ≤ K'.1.1 ∧ ∀ q, 86 ≤ q → q < K.1.1 → K'.1.2 q = K.1.2 q ∧ K'.2.1 q = K.2.1 q ∧ K'.2.2.1 q = K.2.2.1 q
theorem KFX.refl {K : cp_K} : KFX K K := ⟨Nat.le_refl _, fun _ _ _ => ⟨rfl, rfl, rfl⟩⟩
theorem KFX.trans {K K1 K2 : cp_K} (h : KFX K K1) (g : KFX K1 K2) : KFX K K2 := ⟨Nat.le_trans h.1 g.1, fun q q1 q2 => by
  have a := h.2 q q1 q2
  have b := g.2 q q1 (by have := h.1; omega)
  exact ⟨b.1.trans a.1, b.2.1.trans a.2.1, b.2.2.trans a.2.2⟩⟩
theorem KFX.n {K K' : cp_K} {q c : Nat} (h : KFX K K') (n : nd K q c) : nd K' q c := ⟨n.1, by have := n.2.1; have := h.1; omega, by rw [(h.2 q n.1 n.2.1).1]; exact n.2.2⟩
theorem KFX.i {K K' : cp_K} {q c : Nat} (h : KFX K K') (n : nd K q c) : K'.2.1 q = K.2.1 q := (h.2 q n.1 n.2.1).2.1
theorem KFX.r {K K' : cp_K} {q c : Nat} (h : KFX K K') (n : nd K q c) : K'.2.2.1 q = K.2.2.1 q := (h.2 q n.1 n.2.1).2.2
/-- the nodes below rf are as they were -/
def OLD (rf : Nat) (b b' : Nat → Nat → Int32) : Prop := ∀ p, 39 ≤ p → p ≤ 41 → ∀ x, x < rf → b' p x = b p x
def OLP (P : Nat) (b b' : Nat → Nat → Int32) : Prop := ∀ p, 44 ≤ p → p ≤ 48 → ∀ x, x < P → b' p x = b p x
/-- declared letters are as they were -/
def OLL (K : cp_K) (b : Nat → Nat → Int32) (K' : cp_K) (b' : Nat → Nat → Int32) : Prop := ∀ c, c < 26 → ¬ b 30 c = 0 → K'.2.2.1 4 c = K.2.2.1 4 c ∧ (∀ p, 30 ≤ p → p ≤ 36 → b' p c = b p c) ∧ ∀ x, x < 4 → b' 37 (4 * c + x) = b 37 (4 * c + x)
section CPFT
variable {K K' : cp_K} {b b' : Nat → Nat → Int32} {ar ar' : Nat → Nat} {rf P : Nat}
theorem CHN_ft {R R' : Nat → Nat → Nat → Prop} (hK : KFX K K') (hlt : ∀ q i j, R q i j → i < j) : ∀ (m q i j : Nat), j ≤ rf → (∀ q i' j', j' ≤ rf → R q i' j' → R' q i' j') → CHN R K m q i j → CHN R' K' m q i j
  | 0, _, _, _, _, _, h => h
  | m + 1, q, i, j, hj, hR, h => by
    obtain ⟨h1, i', h2, h3⟩ := h
    have := CHN_le hlt m _ _ _ h3
    refine ⟨hK.n h1, i', hR q i i' (by omega) h2, ?_⟩
    rw [hK.r h1]
    exact CHN_ft hK hlt m _ i' j hj hR h3
theorem CHZ_ft {R R' : Nat → Nat → Nat → Prop} (hK : KFX K K') (hlt : ∀ q i j, R q i j → i < j) : ∀ (m q z i j : Nat), j ≤ rf → (∀ q i' j', j' ≤ rf → R q i' j' → R' q i' j') → CHZ R K m q z i j → CHZ R' K' m q z i j
  | 0, q, z, i, j, hj, hR, h => ⟨h.1, hK.n h.2.1, hR _ _ _ hj h.2.2⟩
  | m + 1, q, z, i, j, hj, hR, h => by
    obtain ⟨h1, h2, i', h3, h4⟩ := h
    have := CHZ.le hlt m _ _ _ _ h4
    refine ⟨hK.n h1, h2, i', hR _ _ _ (by omega) h3, ?_⟩
    rw [hK.r h1]
    exact CHZ_ft hK hlt m _ z i' j hj hR h4
theorem TR.ft {pl : Nat → Nat → Prop} (hK : KFX K K') (hb : OLD rf b b') : ∀ (k p i j : Nat), j ≤ rf → TR K b pl k p i j → TR K' b' pl k p i j
  | 0, _, _, _, _, h => h
  | k + 1, p, i, j, hj, h => by
    have hij := SH_lt _ _ _ (TR.sh _ _ _ _ h)
    unfold TR at h ⊢
    obtain ⟨h0, h1, h⟩ := h
    refine ⟨hK.n h0, h1, ?_⟩
    rw [hK.i h0, hK.r h0, hb 39 (by omega) (by omega) i (by omega), hb 40 (by omega) (by omega) i (by omega), hb 41 (by omega) (by omega) i (by omega)]
    rcases h with h | h | h | h | ⟨q1, q2, c, m, q3, q4, q5, q6, q7, q8, q9⟩
    · exact Or.inl h
    · exact Or.inr (Or.inl h)
    · exact Or.inr (Or.inr (Or.inl h))
    · exact Or.inr (Or.inr (Or.inr (Or.inl h)))
    · exact Or.inr (Or.inr (Or.inr (Or.inr ⟨q1, q2, c, m, q3, q4, q5, q6, q7, q8, CHN_ft hK (fun q i j h => SH_lt _ _ _ (TR.sh _ _ _ _ h)) m _ _ _ hj (TR.ft hK hb k) q9⟩)))
theorem DTM.ft {k q i j : Nat} {sc : Nat → Prop} (hK : KFX K K') (hb : OLD rf b b') (ha : ∀ c, c < 26 → ar c ≤ 6 → ar' c = ar c) (hj : j ≤ rf) (h : DTM K b ar k sc q i j) : DTM K' b' ar' k sc q i j := by
  refine ⟨TR.ft hK hb k q i j hj h.1, fun x x1 x2 => ?_⟩
  rw [hb 39 (by omega) (by omega) x (by omega), hb 40 (by omega) (by omega) x (by omega), hb 41 (by omega) (by omega) x (by omega)]
  obtain ⟨h1, h2, h3⟩ := h.2 x x1 x2
  refine ⟨h1, h2, fun c m e1 e2 hc e3 hm => ?_⟩
  have := h3 c m e1 e2 hc e3 hm
  rw [ha c hc (by omega)]
  exact this
/-- a code -/
theorem VCH.ft (hK : KFX K K') (hb : OLD rf b b') : ∀ (vs : List Nat) (q x : Nat), x + vs.length ≤ rf → VCH K b vs q x → VCH K' b' vs q x
  | [], _, _, _, h => h
  | c :: vs, q, x, hx, h => by
    rw [List.length_cons] at hx
    obtain ⟨h1, h2, h3, h4, h5, h6⟩ := h
    refine ⟨hK.n h1, h2, by rw [hK.i h1]; exact h3, by rw [hb 40 (by omega) (by omega) x (by omega)]; exact h4, by rw [hb 39 (by omega) (by omega) x (by omega)]; exact h5, ?_⟩
    rw [hK.r h1]
    exact VCH.ft hK hb vs _ _ (by omega) h6
theorem PTN.ft {p i : Nat} {vs : List Nat} (hK : KFX K K') (hb : OLD rf b b') (hp : nd K p 9) (hi : i + 1 + vs.length ≤ rf) (h : PTN K b ar p i vs) : PTN K' b' ar p i vs := by
  obtain ⟨h1, h2, h3, h4⟩ := h
  unfold PTN
  rw [hK.i hp, hK.r hp, hb 39 (by omega) (by omega) i (by omega), hb 40 (by omega) (by omega) i (by omega), hb 41 (by omega) (by omega) i (by omega)]
  exact ⟨h1, h2, VCH.ft hK hb vs _ _ hi h3, h4⟩
theorem CSE.lt {R : (Nat → Prop) → Nat → Nat → Nat → Prop} {sc : Nat → Prop} (hlt : ∀ sc q i j, R sc q i j → i < j) : ∀ (m q i j : Nat), CSE R K b ar sc m q i j → i ≤ j
  | 0, _, _, _, h => Nat.le_of_eq h.2
  | m + 1, q, i, j, h => by
    obtain ⟨-, -, vs, i2, -, h4, h5⟩ := h
    have := hlt _ _ _ _ h4
    have := CSE.lt hlt m _ _ _ h5
    omega
theorem CSE.ft {R R' : (Nat → Prop) → Nat → Nat → Nat → Prop} {sc : Nat → Prop} (hK : KFX K K') (hb : OLD rf b b') (hlt : ∀ sc q i j, R sc q i j → i < j) (hR : ∀ sc q i j, j ≤ rf → R sc q i j → R' sc q i j) : ∀ (m q i j : Nat), j ≤ rf → CSE R K b ar sc m q i j → CSE R' K' b' ar sc m q i j
  | 0, _, _, _, _, h => h
  | m + 1, q, i, j, hj, h => by
    obtain ⟨h1, h2, vs, i2, h3, h4, h5⟩ := h
    have := hlt _ _ _ _ h4
    have := CSE.lt hlt m _ _ _ h5
    unfold CSE
    rw [hK.r h1]
    exact ⟨hK.n h1, hK.n h2, vs, i2, h3.ft hK hb h2 (by omega), hR _ _ _ _ (by omega) h4, CSE.ft hK hb hlt hR m _ _ _ hj h5⟩
theorem CR.ft (hK : KFX K K') (hb : OLD rf b b') (hl : ∀ c, c < 26 → ¬ b 30 c = 0 → b' 30 c = b 30 c ∧ b' 31 c = b 31 c) : ∀ (k : Nat) (sc : Nat → Prop) (p i j : Nat), j ≤ rf → CR K b ar k sc p i j → CR K' b' ar k sc p i j
  | 0, _, _, _, _, _, h => h
  | k + 1, sc, p, i, j, hj, h => by
    have hlt : ∀ sc q i j, CR K b ar k sc q i j → i < j := fun sc q i j h => SH_lt _ _ _ (CR.sh _ _ _ _ _ h)
    have hij := SH_lt _ _ _ (CR.sh _ _ _ _ _ h)
    unfold CR at h ⊢
    obtain ⟨h0, h⟩ := h
    refine ⟨hK.n h0, ?_⟩
    rw [hK.i h0, hK.r h0, hb 39 (by omega) (by omega) i (by omega), hb 40 (by omega) (by omega) i (by omega), hb 41 (by omega) (by omega) i (by omega)]
    rcases h with h | h | h | ⟨q1, q2, c, m, q3, q4, q5, q6, q7, q8, q9, q10⟩ | ⟨q1, q2, q3⟩ | ⟨q1, q2, m, i1, q3, q4, q5, q6, q7⟩ | ⟨q1, q2, q3, q4⟩
    · exact Or.inl h
    · exact Or.inr (Or.inl h)
    · exact Or.inr (Or.inr (Or.inl h))
    · refine Or.inr (Or.inr (Or.inr (Or.inl ⟨q1, q2, c, m, q3, q4, q5, q6, q7, q8, ?_, CHN_ft hK (hlt sc) m _ _ _ hj (CR.ft hK hb hl k sc) q10⟩)))
      rcases q9 with ⟨e1, e2⟩ | ⟨e1, e2⟩
      · exact Or.inl ⟨(hl c q3 (by rw [e1]; decide)).1.trans e1, e2⟩
      · exact Or.inr ⟨(hl c q3 (by rw [e1]; decide)).1.trans e1, (hl c q3 (by rw [e1]; decide)).2.trans e2⟩
    · have n4 := q2.1
      refine Or.inr (Or.inr (Or.inr (Or.inr (Or.inl ⟨q1, CHN_ft hK (hlt sc) 2 _ _ _ hj (CR.ft hK hb hl k sc) q2, ?_⟩))))
      rw [hK.r n4]
      exact q3
    · have n4 := CR.nd q6
      have := CSE.lt hlt m _ _ _ q7
      refine Or.inr (Or.inr (Or.inr (Or.inr (Or.inr (Or.inl ⟨q1, q2, m, i1, q3, q4, q5, CR.ft hK hb hl k sc _ _ _ (by omega) q6, ?_⟩)))))
      rw [hK.r n4]
      exact CSE.ft hK hb hlt (fun sc => CR.ft hK hb hl k sc) m _ _ _ hj q7
    · have q3' := q3
      obtain ⟨n4, i1, -, n6, i2, -, n66, i3, -, -⟩ := q3'
      refine Or.inr (Or.inr (Or.inr (Or.inr (Or.inr (Or.inr ⟨q1, q2, CHN_ft hK (hlt sc) 4 _ _ _ hj (CR.ft hK hb hl k sc) q3, ?_⟩)))))
      rw [hK.r n4, hK.r n6, hK.r n66]
      exact q4
theorem PCH.ft (hK : KFX K K') : ∀ (ps : List Nat) (q z : Nat), PCH K ps q z → PCH K' ps q z
  | [], _, _, h => h
  | c :: ps, q, z, h => by
    obtain ⟨h1, h2, h3, h4, h5⟩ := h
    refine ⟨hK.n h1, h2, h3, by rw [hK.i h1]; exact h4, ?_⟩
    rw [hK.r h1]
    exact PCH.ft hK ps _ z h5
end CPFT
