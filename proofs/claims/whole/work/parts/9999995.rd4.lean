/-! ===== reading: terms, both sides ===== -/
theorem pfx_loc {g g' : Nat → Nat} {i : Nat} : ∀ (d : Nat), (∀ x, i ≤ x → x < i + d → g' x = g x) → pfx g' (i + d) + pfx g i = pfx g (i + d) + pfx g' i
  | 0, _ => by rw [Nat.add_zero]; omega
  | d + 1, h => by
    have := pfx_loc d (fun x x1 x2 => h x x1 (by omega))
    have e := h (i + d) (by omega) (by omega)
    show pfx g' (i + d) + g' (i + d) + pfx g i = pfx g (i + d) + g (i + d) + pfx g' i
    omega
theorem gI_loc {b b' : Nat → Nat → Int32} {i j : Nat} (hij : i ≤ j) (h : ∀ x, i ≤ x → x < j → b' 39 x = b 39 x ∧ b' 41 x = b 41 x) : gI b' j - gI b' i = gI b j - gI b i := by
  have e := pfx_loc (g := fun x => if b 39 x = 5 ∧ ¬ b 41 x = 0 then 1 else 0) (g' := fun x => if b' 39 x = 5 ∧ ¬ b' 41 x = 0 then 1 else 0) (i := i) (j - i) (fun x x1 x2 => by
    obtain ⟨e1, e2⟩ := h x x1 (by omega)
    show (if b' 39 x = 5 ∧ ¬ b' 41 x = 0 then 1 else 0) = (if b 39 x = 5 ∧ ¬ b 41 x = 0 then 1 else 0)
    rw [e1, e2])
  rw [show i + (j - i) = j by omega] at e
  have l1 := pfx_le (g := fun x => if b 39 x = 5 ∧ ¬ b 41 x = 0 then 1 else 0) hij
  have l2 := pfx_le (g := fun x => if b' 39 x = 5 ∧ ¬ b' 41 x = 0 then 1 else 0) hij
  unfold gI
  omega
def TW (b : Nat → Nat → Int32) (o p p' i j : Nat) : Prop := (i ≤ j ∧ p' = p + (j - i) + 2 * (gI b j - gI b i)) ∧ (o = 0 → ∀ x, i ≤ x → x < j → ¬ b 39 x = 4)
theorem TW.loc {b b' : Nat → Nat → Int32} {o p p' i j : Nat} (h : TW b o p p' i j) (hb : ∀ x, i ≤ x → x < j → b' 39 x = b 39 x ∧ b' 41 x = b 41 x) : TW b' o p p' i j := ⟨⟨h.1.1, by rw [gI_loc h.1.1 hb]; exact h.1.2⟩, fun ho x x1 x2 => by rw [(hb x x1 x2).1]; exact h.2 ho x x1 x2⟩
theorem TW.join {b : Nat → Nat → Int32} {o p p' p2 i j j2 : Nat} (h : TW b o p p' i j) (g : TW b o p' p2 j j2) : TW b o p p2 i j2 := by
  have l1 : gI b i ≤ gI b j := pfx_le h.1.1
  have l2 : gI b j ≤ gI b j2 := pfx_le g.1.1
  obtain ⟨⟨h1, h2⟩, h3⟩ := h
  obtain ⟨⟨g1, g2⟩, g3⟩ := g
  refine ⟨⟨by omega, by omega⟩, fun ho x x1 x2 => ?_⟩
  by_cases hx : x < j
  · exact h3 ho x x1 hx
  · exact g3 ho x (by omega) x2
section CPR5
variable {X : Int32 × Int32 × Int32} {tx : Nat → Nat} {n rf : Nat} {K : cp_K} {S : cp_S} {l : List cp_I} {p n1 : Nat}
theorem KRX_leaf {x y : Int32} (h86 : 86 ≤ K.1.1) {q0 ql : Nat} (h0 : K.1.1 ≤ q0) (hl : K.1.1 ≤ ql) : KRX q0 ql K (qlf K x y) := ⟨by rw [ql_n]; omega, fun z hz => ql_t hz, fun z z1 z2 => by rw [ql_n] at z2; rw [show z = K.1.1 by omega]; exact ql_ts, fun z hz h21 f _ => by rw [ql_i h21 (by omega)], fun f hf => by rw [ql_21 h86, if_neg hf], fun z hz f _ _ => by rw [ql_r (by omega)], ql_w⟩
theorem KRX_nadd {q0 ql c : Nat} (hq : nd K q0 9) (hl : K.2.2.1 q0 5 = 0 ∨ (K.2.2.1 q0 5 = ql ∧ ql ≠ q0)) : KRX q0 ql K (nadd K q0 c) := by
  have n21 : (21 : Nat) ≠ q0 := by have := hq.1; omega
  refine ⟨by rw [na_n]; exact Nat.le_refl _, fun z _ => by rw [na_n], fun z z1 z2 => by rw [na_n] at z2; omega, fun z hz h21 f hf => ?_, fun f hf => by rw [na_i n21], fun z hz f hf hg => ?_, na_w⟩
  · by_cases hz0 : z = q0
    · subst hz0
      rw [na_ip, if_neg (by rcases hf with h | h; exact absurd rfl h; exact h)]
    · rw [na_i hz0]
  · by_cases hz0 : z = q0
    · subst hz0
      obtain ⟨h4, h5⟩ := hf.resolve_left (fun h => h rfl)
      rw [na_rp (by rcases hl with h | h; exact Or.inr h; exact Or.inl (by rw [h.1]; exact h.2)), if_neg h5, if_neg h4]
    · rcases hl with h | ⟨h, h'⟩
      · rw [na_r hz0 (Or.inr h)]
      · by_cases hzl : z = ql
        · subst hzl
          by_cases h00 : K.2.2.1 q0 5 = 0
          · rw [na_r hz0 (Or.inr h00)]
          · rw [← h, na_rl h00 (by rw [h]; exact h'), if_neg (by rcases hg with w | w; exact absurd rfl w; exact w)]
        · rw [na_r hz0 (Or.inl (by rw [h]; exact hzl))]
theorem KRX_at {q0 ql : Nat} {x : Int32} : KRX q0 ql K (kI K 21 2 x) := ⟨Nat.le_refl _, fun _ _ => rfl, fun z z1 z2 => absurd z2 (by show ¬ z < K.1.1; omega), fun z _ h21 f _ => by rw [kI_i, cp_up_ne h21], fun f hf => by rw [kI_i, va_up_at, cp_up_ne hf], fun _ _ _ _ _ => rfl, rfl⟩
theorem PLI.node {x v : Int32} (h : PLI S rf n1 p) (hr : rf ≤ n1) : PLI (ndS S n1 rf x v (nI p)) rf (n1 + 1) (p + 1) := by
  refine ⟨fun i i1 i2 => ?_, fun i i' i1 i2 i3 => ?_⟩
  · by_cases hi : i = n1
    · subst hi; exact ⟨p, by omega, by rw [nds_42, if_pos rfl]⟩
    · obtain ⟨w, w1, w2⟩ := h.1 i i1 (by omega)
      exact ⟨w, by omega, by rw [nds_42, if_neg (by omega)]; exact w2⟩
  · by_cases hi : i' = n1
    · subst hi
      obtain ⟨w, w1, w2⟩ := h.1 i i1 i2
      exact ⟨w, p, w1, by omega, by rw [nds_42, if_neg (by omega)]; exact w2, by rw [nds_42, if_pos rfl]⟩
    · obtain ⟨w, w', w1, w2, w3, w4⟩ := h.2 i i' i1 i2 (by omega)
      exact ⟨w, w', w1, by omega, by rw [nds_42, if_neg (by omega)]; exact w3, by rw [nds_42, if_neg (by omega)]; exact w4⟩
theorem PLI.eq {S' : cp_S} {p' : Nat} (h : PLI S rf n1 p) (e : ∀ x, x < n1 - rf → S'.2 42 x = S.2 42 x) (hp : p ≤ p') : PLI S' rf n1 p' := by
  refine ⟨fun i i1 i2 => ?_, fun i i' i1 i2 i3 => ?_⟩
  · obtain ⟨w, w1, w2⟩ := h.1 i i1 i2
    exact ⟨w, by omega, by rw [e _ (by omega)]; exact w2⟩
  · obtain ⟨w, w', w1, w2, w3, w4⟩ := h.2 i i' i1 i2 i3
    exact ⟨w, w', w1, by omega, by rw [e _ (by omega)]; exact w3, by rw [e _ (by omega)]; exact w4⟩
theorem RJ.leaf {x y x' v : Int32} (h : RJ tx n rf K S l p n1) (hp : p < n) : RJ tx n rf (qlf K x y) (ndS S n1 rf x' v (nI p)) l (p + 1) (n1 + 1) := by
  obtain ⟨⟨h1, h2, h3, h4⟩, ps, ⟨h5, h6, h7, h8, h9⟩, h10, pi⟩ := id h
  refine h.mv (KRX_leaf h4 (Nat.le_refl _) (Nat.le_refl _)) (nds_rfx (n1 := n1) (len := l.length) (i0 := n1)) ps.node ?_ (by omega) ⟨by omega, by omega⟩ (pi.node h7) (by omega)
  rw [ql_21 h4, if_pos rfl, h1, nI_1]
/-- at the end there is no piece -/
theorem piece_end {o d : Nat} (ho : o < 2) (h : RJ tx n rf K S l n n1) : KC 8 m_Q_piece (fun G => [.ref (cp_b G + 21), .int (nI (2 - o)), .int (nI d)]) K (fun G => some (va_rf (kr G 0))) K := by
  refine c_Q_piece (D := 0) ?_
  unfold wp_Q_piece_0
  rw [h.pk0]
  have n3 : ¬ nI (2 - o) = 3 := nI_cc (a := 3) (by omega) (by omega) (by omega)
  exact ⟨h.1.2.2.1, fun _ => ⟨fun _ => ⟨fun _ => ⟨fun _ => ⟨fun _ => ⟨fun _ => ⟨rfl, rfl⟩, fun q => absurd q (by decide)⟩, fun q => absurd q (by decide)⟩, fun q => absurd q n3⟩, fun q => absurd rfl q⟩, fun q => absurd rfl q⟩, fun q => absurd rfl q⟩
/-- a simple piece -/
theorem piece_leaf {o d : Nat} {x y : Int32} (ho : o < 2) (h : RJ tx n rf K S l p n1) (hp : p < n) (hk : (isV (tx p) ∧ x = 5 ∧ y = nI (tx p)) ∨ (isD (tx p) ∧ x = 1 ∧ y = nI (tx p - 48)) ∨ (tx p = 35 ∧ x = 2 ∧ y = 0) ∨ (tx p = 95 ∧ o = 1 ∧ x = 4 ∧ y = 0)) : KC 8 m_Q_piece (fun G => [.ref (cp_b G + 21), .int (nI (2 - o)), .int (nI d)]) K (fun G => some (va_rf (kr G K.1.1))) (qlf K x y) := by
  have hc : tx p < 200 := by have := (h.2.2.2.1 p hp).1; omega
  have n3 : ¬ nI (2 - o) = 3 := nI_cc (a := 3) (by omega) (by omega) (by omega)
  refine c_Q_piece (D := 0) ?_
  unfold wp_Q_piece_0
  rw [h.pk hp]
  rcases hk with ⟨hv, rfl, rfl⟩ | ⟨hv, rfl, rfl⟩ | ⟨hv, rfl, rfl⟩ | ⟨hv, ho1, rfl, rfl⟩
  · exact ⟨h.1.2.2.1, fun q => absurd q (ifV1 hc hv), fun _ => ⟨rfl, rfl⟩⟩
  · have nv : ¬ isV (tx p) := fun q => by have := q.1; have := hv.2; omega
    refine ⟨h.1.2.2.1, fun _ => ⟨fun q => absurd q (ifD1 hc hv), fun _ => ⟨rfl, ?_⟩⟩, fun q => absurd (ifV0 hc nv) q⟩
    rw [show nI (tx p) - 48 = nI (tx p - 48) from pk_sub (a := tx p) (b := 48) hv.1]
  · refine ⟨h.1.2.2.1, fun _ => ⟨fun _ => ⟨fun _ => ⟨fun _ => ⟨fun q => absurd (by rw [hv]; rfl) q, fun _ => ⟨rfl, rfl⟩⟩, fun q => absurd q n3⟩, fun q => absurd (ifL0 hc (fun w => by have := w.1; omega)) q⟩, fun q => absurd (ifD0 hc (fun w => by have := w.1; omega)) q⟩, fun q => absurd (ifV0 hc (fun w => by have := w.1; omega)) q⟩
  · refine ⟨h.1.2.2.1, fun _ => ⟨fun _ => ⟨fun _ => ⟨fun _ => ⟨fun _ => ⟨fun q => absurd (by rw [hv]; rfl) q, fun _ => ⟨fun q => absurd (by rw [ho1]; rfl) q, fun _ => ⟨rfl, rfl⟩⟩⟩, fun q => absurd q (nI_cc (a := 35) hc (by omega) (by omega))⟩, fun q => absurd q n3⟩, fun q => absurd (ifL0 hc (fun w => by have := w.2; omega)) q⟩, fun q => absurd (ifD0 hc (fun w => by have := w.2; omega)) q⟩, fun q => absurd (ifV0 hc (fun w => by have := w.1; omega)) q⟩
/-- no piece -/
theorem piece_no {o d : Nat} (ho : o < 2) (h : RJ tx n rf K S l p n1) (hp : p < n) (nv : ¬ isV (tx p)) (nd : ¬ isD (tx p)) (n35 : ¬ tx p = 35) (n95 : ¬ (tx p = 95 ∧ o = 1)) (nl : ¬ isL (tx p)) : KC 8 m_Q_piece (fun G => [.ref (cp_b G + 21), .int (nI (2 - o)), .int (nI d)]) K (fun G => some (va_rf (kr G 0))) K := by
  have hc : tx p < 200 := by have := (h.2.2.2.1 p hp).1; omega
  have n3 : ¬ nI (2 - o) = 3 := nI_cc (a := 3) (by omega) (by omega) (by omega)
  refine c_Q_piece (D := 0) ?_
  unfold wp_Q_piece_0
  rw [h.pk hp]
  refine ⟨h.1.2.2.1, fun _ => ⟨fun _ => ⟨fun _ => ⟨fun _ => ⟨fun _ => ⟨fun _ => ⟨rfl, rfl⟩, fun q95 => ⟨fun _ => ⟨rfl, rfl⟩, fun q => ?_⟩⟩, fun q => absurd q (nI_cc (a := 35) hc (by omega) n35)⟩, fun q => absurd q n3⟩, fun q => absurd (ifL0 hc nl) q⟩, fun q => absurd (ifD0 hc nd) q⟩, fun q => absurd (ifV0 hc nv) q⟩
  exact absurd ⟨(nI_ch (a := 95) (by omega) (by omega)).mp q95, by have := (nI_ch (c := 2 - o) (a := 1) (by omega) (by omega)).mp q; omega⟩ n95
end CPR5
/-- a piece that is a term: both sides -/
def PJ (X : Int32 × Int32 × Int32) (tx : Nat → Nat) (n rf f : Nat) : Prop := ∀ (d o : Nat) (K : cp_K) (S : cp_S) (l : List cp_I) (p n1 : Nat), d + f = 9 → 1 ≤ d → o < 2 → RJ tx n rf K S l p n1 → p < n → l.length ≤ 8 * d + 20 →
  (∃ (K' : cp_K) (S' : cp_S) (p' : Nat), KC (10 + 4 * f) m_Q_piece (fun G => [.ref (cp_b G + 21), .int (nI (2 - o)), .int (nI d)]) K (fun G => some (va_rf (kr G 0))) K' ∧ K'.2.1 21 2 = nI p' ∧ (p ≤ p' ∧ p' ≤ n) ∧ BTK X n (some (.int (nI p'))) S' S p (2 * d + o) ∧ KRX K.1.1 K.1.1 K K' ∧ RFX rf n1 l.length n1 S S' ∧ K'.1.1 ≤ K.1.1 + (p' - p)) ∨
  ∃ (K' : cp_K) (S' : cp_S) (p' n1' : Nat) (jk : List cp_I), KC (10 + 4 * f) m_Q_piece (fun G => [.ref (cp_b G + 21), .int (nI (2 - o)), .int (nI d)]) K (fun G => some (va_rf (kr G K.1.1))) K' ∧ (∀ r Sx, RD X n r Sx p' S' → BTK X n r Sx S p (2 * d + o)) ∧ RJ tx n rf K' S' (jk ++ l) p' n1' ∧ (jk.length ≤ 1 ∧ ∀ j ∈ jk, may j ∧ (p' < n → SKP (nI (tx p')) j)) ∧ RTR K' S'.2 rf f K.1.1 n1 n1' K'.1.1 ∧ K'.2.2.1 K.1.1 6 = 0 ∧ KRX K.1.1 K.1.1 K K' ∧ RFX rf n1 l.length n1 S S' ∧ TW S'.2 o p p' n1 n1' ∧ K'.1.1 ≤ K.1.1 + (p' - p) ∧ p < p'
abbrev LQ (q0 o d : Nat) (x4 : Int32) (t : Nat) : cp_G → List (Nat × Value) := fun G => [(0, .ref (cp_b G + 21)), (1, va_rf (kr G q0)), (2, .int (nI (2 - o))), (3, .int (nI d)), (4, .int x4), (5, .int (nI t))]
/-- the arguments, t of them being read -/
def AL (X : Int32 × Int32 × Int32) (tx : Nat → Nat) (n rf f t : Nat) : Prop := ∀ (d o : Nat) (K : cp_K) (S : cp_S) (l : List cp_I) (p n1 q0 ql i0 : Nat), d + 1 + f = 9 → o < 2 → RJ tx n rf K S ((202, nI i0, nI (2 * d + o)) :: l) p n1 → p < n → l.length ≤ 8 * d + 20 → S.2 41 i0 = nI (t + 1) → (rf ≤ i0 ∧ i0 < n1) → (nd K q0 9 ∧ K.2.1 q0 3 = nI t) → ((t = 0 ∧ K.2.2.1 q0 5 = 0 ∧ ql = K.1.1) ∨ (0 < t ∧ K.2.2.1 q0 5 = ql ∧ q0 < ql ∧ nd K ql 9)) →
  (∃ (K' : cp_K) (S' : cp_S) (p' : Nat), JC (4 + 4 * f + 8) m_Q_readPieces (fun _ => .inl (some (.int 0))) K' 3 (LQ q0 o (d + 1) 41 (t + 1)) (fun _ => []) K ∧ K'.2.1 21 2 = nI p' ∧ (p ≤ p' ∧ p' ≤ n) ∧ BTK X n (some (.int (nI p'))) S' S p (2 * (d + 1) + o) ∧ KRX q0 ql K K' ∧ RFX rf n1 l.length i0 S S' ∧ K'.1.1 ≤ K.1.1 + (p' - p)) ∨
  ∃ (K' : cp_K) (S' : cp_S) (p' n1' m : Nat), JC (4 + 4 * f + 8) m_Q_readPieces (fun _ => .inl (some (.int 1))) K' 3 (LQ q0 o (d + 1) 41 (t + 1)) (fun _ => []) K ∧ (∀ r Sx, RD X n r Sx p' S' → BTK X n r Sx S p (2 * (d + 1) + o)) ∧ RJ tx n rf K' S' l p' n1' ∧ RCH (RTR K' S'.2 rf f) K' m K.1.1 n1 n1' K.1.1 K'.1.1 ∧ (1 ≤ m ∧ t + m ≤ 6 ∧ K'.2.1 q0 3 = nI (t + m) ∧ S'.2 41 i0 = nI (t + m)) ∧ ((t = 0 → K'.2.2.1 q0 4 = K.1.1) ∧ (0 < t → K'.2.2.1 q0 4 = K.2.2.1 q0 4 ∧ K'.2.2.1 ql 6 = K.1.1)) ∧ KRX q0 ql K K' ∧ RFX rf n1 l.length i0 S S' ∧ (∃ pe, p' = pe + 1 ∧ TW S'.2 o p pe n1 n1') ∧ K'.1.1 ≤ K.1.1 + (p' - p) ∧ p < p'
