/-! ===== reading: the parts of a declaration, both sides ===== -/
/-- parts one behind the other; qe is the last, e what is behind it -/
def RPD (K : cp_K) (b : Nat → Nat → Int32) (rf e qe : Nat) : Nat → Nat → Nat → Nat → Nat → Nat → Prop
  | 0, _, i, j, a, a1 => i = j ∧ a = a1
  | m + 1, pt, i, j, a, a1 => ∃ i' a', PRT K b rf a pt i i' a' ∧ (m = 0 → a = qe ∧ K.2.2.1 a 6 = e) ∧ (0 < m → K.2.2.1 a 6 = a') ∧ RPD K b rf e qe m (pt + 1) i' j a' a1
theorem RPD.le {K : cp_K} {b : Nat → Nat → Int32} {rf e qe : Nat} : ∀ (m pt i j a a1 : Nat), RPD K b rf e qe m pt i j a a1 → i ≤ j ∧ a ≤ a1 ∧ (0 < m → a ≤ qe ∧ qe < a1)
  | 0, _, _, _, _, _, h => by have := h.1; have := h.2; exact ⟨by omega, by omega, fun q => by omega⟩
  | m + 1, pt, i, j, a, a1, h => by
    obtain ⟨i', a', h1, h2, h3, h4⟩ := h
    have l1 := h1.lt
    obtain ⟨l2, l3, l4⟩ := RPD.le m _ _ _ _ _ h4
    refine ⟨by omega, by omega, fun _ => ?_⟩
    by_cases hm : m = 0
    · have := (h2 hm).1; omega
    · have := l4 (by omega); omega
theorem RPD.loc {K K2 : cp_K} {b b2 : Nat → Nat → Int32} {rf e e2 qe : Nat} (hn : K.1.1 ≤ K2.1.1) (he : K2.2.2.1 qe 6 = e2) : ∀ (m pt i j a a1 : Nat), RPD K b rf e qe m pt i j a a1 → (∀ x, a ≤ x → x < a1 → (∀ f, K2.2.1 x f = K.2.1 x f) ∧ K2.1.2 x = K.1.2 x ∧ K2.2.2.1 x 4 = K.2.2.1 x 4 ∧ K2.2.2.1 x 5 = K.2.2.1 x 5 ∧ (x ≠ qe → K2.2.2.1 x 6 = K.2.2.1 x 6)) → (∀ x, i ≤ x → x < j → b2 39 x = b 39 x ∧ b2 40 x = b 40 x ∧ b2 41 x = b 41 x ∧ b2 42 (x - rf) = b 42 (x - rf)) → (∀ g, 44 ≤ g → g ≤ 48 → ∀ x, pt ≤ x → x < pt + m → b2 g x = b g x) → RPD K2 b2 rf e2 qe m pt i j a a1
  | 0, _, _, _, _, _, h, _, _, _ => h
  | m + 1, pt, i, j, a, a1, h, hK, hb, hp => by
    obtain ⟨i', a', h1, h2, h3, h4⟩ := h
    have l1 := h1.lt
    obtain ⟨l2, l3, l4⟩ := RPD.le m _ _ _ _ _ h4
    have hqe : a = qe ∨ a' ≤ qe := by
      by_cases hm : m = 0
      · exact Or.inl (h2 hm).1
      · exact Or.inr (l4 (by omega)).1
    refine ⟨i', a', h1.loc hn (fun x x1 x2 => ?_) (fun x x1 x2 => hb x x1 (by omega)) (fun g g1 g2 => hp g g1 g2 pt (Nat.le_refl _) (by omega)), fun hm => ⟨(h2 hm).1, by rw [(h2 hm).1]; exact he⟩, fun hm => ?_, RPD.loc hn he m _ _ _ _ _ h4 (fun x x1 x2 => hK x (by omega) x2) (fun x x1 x2 => hb x (by omega) x2) (fun g g1 g2 x x1 x2 => hp g g1 g2 x (by omega) (by omega))⟩
    · obtain ⟨c1, c2, c3, c4, c5⟩ := hK x x1 (by omega)
      exact ⟨c1, c2, c3, c4, fun hx => c5 (by omega)⟩
    · rw [(hK a (Nat.le_refl _) (by omega)).2.2.2.2 (by have := l4 hm; omega)]
      exact h3 hm
theorem LST.nx {R : Nat → Nat → Nat → Nat → Prop} {K : cp_K} : ∀ (m q e i j a a1 : Nat), LST K m q e → RCH R K m q i j a a1 → K.2.2.1 e 6 = 0
  | 0, _, _, _, _, _, _, h, _ => h.elim
  | 1, q, e, i, j, a, a1, h, hc => by
    obtain ⟨rfl, i', a', h1, h2, h3, h4⟩ := hc
    have e' : q = e := h
    rw [← e']; exact h2
  | m + 2, q, e, i, j, a, a1, h, hc => by
    obtain ⟨rfl, i', a', h1, h2⟩ := hc
    exact LST.nx (m + 1) _ e i' j a' a1 h h2
theorem RCH.chz {K : cp_K} {b : Nat → Nat → Int32} {rf k : Nat} {R' : Nat → Nat → Nat → Prop} (hR : ∀ q i j a, RTR K b rf k q i j a → nd K q 9 ∧ R' q i j) : ∀ (m q e i j a a1 : Nat), RCH (RTR K b rf k) K (m + 1) q i j a a1 → LST K (m + 1) q e → CHZ R' K m q e i j
  | 0, q, e, i, j, a, a1, hc, hl => by
    obtain ⟨rfl, i', a', h1, h2, rfl, h4⟩ := hc
    have e' : q = e := hl
    obtain ⟨c1, c2⟩ := hR _ _ _ _ h1
    exact ⟨e', c1, c2⟩
  | m + 1, q, e, i, j, a, a1, hc, hl => by
    obtain ⟨rfl, i', a', h1, h2⟩ := hc
    have l1 := RTR.lt _ _ _ _ _ h1
    have l3 := LST.ge (RTR.lt k) (m + 1) _ e _ _ _ _ hl h2
    obtain ⟨c1, c2⟩ := hR _ _ _ _ h1
    exact ⟨c1, by omega, i', c2, RCH.chz hR m _ e i' j a' a1 h2 hl⟩
theorem RTR.nd {K : cp_K} {b : Nat → Nat → Int32} {rf k q i j a : Nat} (h : RTR K b rf k q i j a) : nd K q 9 := by
  cases k with
  | zero => exact h.elim
  | succ k => exact h.1
/-- parts that were read are the parts of both sides -/
theorem RPD.rpt {K : cp_K} {b : Nat → Nat → Int32} {rf z qe jm : Nat} {pl : Nat → Nat → Prop} (hp : ∀ q' i', rf ≤ i' → i' < jm → 86 ≤ q' → K.2.1 q' 2 = b 42 (i' - rf) → pl q' i') : ∀ (m pt i j a : Nat), rf ≤ i → j ≤ jm → RPD K b rf z qe m pt i j a z → RPT K b pl 8 z m a pt i j
  | 0, _, _, _, _, _, _, h => ⟨h.2, h.1⟩
  | m + 1, pt, i, j, a, hi, hj, h => by
    obtain ⟨i', a', h1, h2, h3, h4⟩ := h
    have l1 := h1.lt
    obtain ⟨l2, l3, l4⟩ := RPD.le m _ _ _ _ _ h4
    have nx : K.2.2.1 a 6 = a' := by
      by_cases hm : m = 0
      · subst hm
        rw [(h2 rfl).2]; exact h4.2.symm
      · exact h3 (by omega)
    have ih := RPD.rpt hp m (pt + 1) i' j a' (by omega) hj h4
    obtain ⟨c0, c1, c2, c3, c4, c5⟩ := h1
    refine ⟨by omega, c0, c2, c3, i', by rw [nx]; exact ih, ?_⟩
    have tr : ∀ q2 i2 j2 a2, i ≤ i2 → j2 ≤ i' → RTR K b rf 8 q2 i2 j2 a2 → TR K b pl 8 q2 i2 j2 := fun q2 i2 j2 a2 hh hh2 h => RTR.tr 8 _ _ _ _ h (fun q' i3 d1 d2 d3 d4 => hp q' i3 (by omega) (by omega) d3 d4)
    rcases c5 with ⟨e1, e2, e3, e4, lt, mt, f1, f2, f3, f4, f5, f6, f7, f8⟩ | ⟨e1, e2, e3, e4⟩
    · refine Or.inl ⟨e1, e2, e3, e4, ⟨lt, mt, f1, f2, f3, f4, f5, f6, ?_⟩, LST.nx _ _ _ _ _ _ _ f8 f7⟩
      rw [c4]
      have := RCH.chz (R' := fun q2 i2 j2 => i2 < j2 ∧ (i ≤ i2 → j2 ≤ i' → TR K b pl 8 q2 i2 j2)) (fun q2 i2 j2 a2 h => ⟨h.nd, (RTR.lt _ _ _ _ _ h).1, fun hh hh2 => tr q2 i2 j2 a2 hh hh2 h⟩) mt _ _ _ _ _ _ f7 f8
      exact CHZ.mr ⟨fun _ _ _ => rfl, rfl, fun _ _ h => h⟩ (fun q2 i2 j2 h => h.1) _ _ _ _ _ this (fun q2 i2 j2 hh hh2 h => h.2 hh hh2)
    · exact Or.inr ⟨e1, by rw [c4]; exact e2.nd, by rw [c4]; exact tr _ _ _ _ (Nat.le_refl _) (Nat.le_refl _) e2, by rw [c4]; exact e3, e4⟩
