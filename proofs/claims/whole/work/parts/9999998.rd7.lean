/-! ===== reading: a row of closed terms, both sides ===== -/
/-- as RFX, with parts: the terms of pt are counted, and names -/
def RFZ (rf n1 len pt : Nat) (S S' : cp_S) : Prop := (∀ k, k ≠ 16 → k ≠ 29 → k ≠ 34 → S'.1 k = S.1 k) ∧ (∀ q, (q < 39 ∨ 51 < q) → S'.2 q = S.2 q) ∧ (∀ q, 39 ≤ q → q ≤ 41 → ∀ x, x < n1 → S'.2 q x = S.2 q x) ∧ (∀ x, x < n1 - rf → S'.2 42 x = S.2 42 x) ∧ (∀ q, 44 ≤ q → q ≤ 48 → ∀ x, (x ≠ pt ∨ q ≠ 47) → S'.2 q x = S.2 q x) ∧ ∀ q, 49 ≤ q → q ≤ 51 → ∀ x, x < len → S'.2 q x = S.2 q x
theorem RFZ.refl {rf n1 len pt : Nat} {S : cp_S} : RFZ rf n1 len pt S S := ⟨fun _ _ _ _ => rfl, fun _ _ => rfl, fun _ _ _ _ _ => rfl, fun _ _ => rfl, fun _ _ _ _ _ => rfl, fun _ _ _ _ _ => rfl⟩
theorem RFZ.trans {rf n1 len pt n2 len2 : Nat} {S S1 S2 : cp_S} (h : RFZ rf n1 len pt S S1) (g : RFZ rf n2 len2 pt S1 S2) (hn : n1 ≤ n2) (hl : len ≤ len2) : RFZ rf n1 len pt S S2 := by
  obtain ⟨a1, a2, a3, a4, a5, a6⟩ := h
  obtain ⟨b1, b2, b3, b4, b5, b6⟩ := g
  exact ⟨fun k k1 k2 k3 => (b1 k k1 k2 k3).trans (a1 k k1 k2 k3), fun q hq => (b2 q hq).trans (a2 q hq), fun q q1 q2 x hx => (b3 q q1 q2 x (by omega)).trans (a3 q q1 q2 x hx), fun x hx => (b4 x (by omega)).trans (a4 x hx), fun q q1 q2 x hx => (b5 q q1 q2 x hx).trans (a5 q q1 q2 x hx), fun q q1 q2 x hx => (b6 q q1 q2 x (by omega)).trans (a6 q q1 q2 x hx)⟩
theorem RFX.z {rf n1 len pt : Nat} {S S' : cp_S} (h : RFX rf n1 len n1 S S') : RFZ rf n1 len pt S S' := ⟨fun k k1 k2 _ => h.1 k k1 k2, fun q hq => h.2.1 q (by omega), fun q q1 q2 x hx => h.2.2.1 q q1 q2 x hx (Or.inl (by omega)), h.2.2.2.1, fun q q1 q2 x _ => by rw [h.2.1 q (by omega)], h.2.2.2.2⟩
theorem SPO.rfz {rf n1 len pt : Nat} {S T : cp_S} (h : SPO S T) : RFZ rf n1 len pt S T := (h.rfx (i0 := n1)).z
theorem RJ.mvz {tx : Nat → Nat} {n rf : Nat} {K K' : cp_K} {S S' : cp_S} {l l' : List cp_I} {p p' n1 n1' q0 ql : Nat} (h : RJ tx n rf K S l p n1) (hk : KRX q0 ql K K') (h27 : S'.2 27 = S.2 27) (ps : PS S' l' n1' rf) (h21 : K'.2.1 21 2 = nI p') (hp : p' ≤ n) (hn : rf ≤ n1' ∧ n1' - rf ≤ p') (pi : PLI S' rf n1' p') (hq : q0 ≠ 1) : RJ tx n rf K' S' l' p' n1' := by
  obtain ⟨⟨h1, h2, h3, h4⟩, -, ⟨h5, h6, h6', h6'', h6r⟩, h7, -⟩ := h
  obtain ⟨a1, a2, a3, a4, a5, a6, a7⟩ := hk
  have e1 : K'.2.1 1 = K.2.1 1 := funext (fun f => a4 1 (by omega) (by decide) f (Or.inl (Ne.symm hq)))
  refine ⟨⟨h21, by rw [a5 1 (by decide)]; exact h2, ?_, by omega⟩, ps, ⟨h5, hp, hn.1, hn.2, h6r⟩, fun x hx => ?_, pi⟩
  · unfold qok at h3 ⊢
    rw [e1, a5 1 (by decide), a6 21 (by omega) 0 (Or.inr ⟨by decide, by decide⟩) (Or.inr (by decide))]
    exact h3
  · obtain ⟨b1, b2, b3⟩ := h7 x hx
    exact ⟨b1, by rw [e1]; exact b2, by rw [h27]; exact b3⟩
/-- the last of a chain -/
def LST (K : cp_K) : Nat → Nat → Nat → Prop
  | 0, _, _ => False
  | 1, q, e => q = e
  | m + 2, q, e => LST K (m + 1) (K.2.2.1 q 6) e
section CPGL
variable {X : Int32 × Int32 × Int32} {tx : Nat → Nat} {n rf pt : Nat} {l : List cp_I} {x4 : Int32} {it : Nat → cp_I} {CN : Nat → cp_S → Prop}
def GL (X : Int32 × Int32 × Int32) (tx : Nat → Nat) (n rf pt : Nat) (l : List cp_I) (x4 : Int32) (it : Nat → cp_I) (CN : Nat → cp_S → Prop) (t : Nat) : Prop := ∀ (K : cp_K) (S : cp_S) (p n1 q0 ql : Nat), RJ tx n rf K S (it (t + 1) :: l) p n1 → p < n → CN (t + 1) S → (nd K q0 9 ∧ K.2.1 q0 3 = nI t) → ((t = 0 ∧ K.2.2.1 q0 5 = 0 ∧ ql = K.1.1) ∨ (0 < t ∧ K.2.2.1 q0 5 = ql ∧ q0 < ql ∧ nd K ql 9)) →
  (∃ (K' : cp_K) (S' : cp_S) (p' : Nat), JC 44 m_Q_readPieces (fun _ => .inl (some (.int 0))) K' 3 (LQ q0 0 1 x4 (t + 1)) (fun _ => []) K ∧ K'.2.1 21 2 = nI p' ∧ (p ≤ p' ∧ p' ≤ n) ∧ BTK X n (some (.int (nI p'))) S' S p 2 ∧ KRX q0 ql K K' ∧ RFZ rf n1 l.length pt S S' ∧ K'.1.1 ≤ K.1.1 + (p' - p)) ∨
  ∃ (K' : cp_K) (S' : cp_S) (p' pe n1' m : Nat) (l' : List cp_I) (qe : Nat), JC 44 m_Q_readPieces (fun _ => .inl (some (.int 1))) K' 3 (LQ q0 0 1 x4 (t + 1)) (fun _ => []) K ∧ (∀ r Sx, RD X n r Sx p' S' → BTK X n r Sx S p 2) ∧ RJ tx n rf K' S' l' p' n1' ∧ ((x4 = 41 ∧ l' = l ∧ p' = pe + 1) ∨ (x4 = 0 ∧ p' = n ∧ pe = n ∧ ∃ jk, l' = jk ++ it (t + m) :: l ∧ jk.length ≤ 1 ∧ ∀ j ∈ jk, may j)) ∧ RCH (RTR K' S'.2 rf 8) K' m K.1.1 n1 n1' K.1.1 K'.1.1 ∧ (1 ≤ m ∧ t + m ≤ 6 ∧ K'.2.1 q0 3 = nI (t + m) ∧ CN (t + m) S') ∧ ((t = 0 → K'.2.2.1 q0 4 = K.1.1) ∧ (0 < t → K'.2.2.1 q0 4 = K.2.2.1 q0 4 ∧ K'.2.2.1 ql 6 = K.1.1)) ∧ (K'.2.2.1 q0 5 = qe ∧ nd K' qe 9 ∧ q0 < qe ∧ LST K' m K.1.1 qe ∧ K'.2.2.1 qe 6 = 0) ∧ KRX q0 ql K K' ∧ RFZ rf n1 l.length pt S S' ∧ TW S'.2 0 p pe n1 n1' ∧ K'.1.1 ≤ K.1.1 + (p' - p) ∧ p < p'
theorem gl_step (hP : PJ X tx n rf 8) (hl : l.length ≤ 20) (hx4 : x4 = 41 ∨ x4 = 0)
    (hnext : ∀ (S : cp_S) (jk : List cp_I) (p n1 t : Nat), PS S (jk ++ it t :: l) n1 rf → (jk ++ it t :: l).length ≤ 400 → p < n → n ≤ 80 → S.2 27 p = nI (tx p) → tx p < 200 → (x4 = 41 → ¬ tx p = 41) → (∀ j ∈ jk, SKP (nI (tx p)) j) → t < 6 → CN t S → ∃ T, PS T (it (t + 1) :: l) n1 rf ∧ RFZ rf n1 l.length pt S T ∧ CN (t + 1) T ∧ ∀ o Sx, BTK X n o Sx T p 2 → RD X n o Sx p S)
    (hfull : ∀ (S : cp_S) (jk : List cp_I) (p n1 : Nat), PS S (jk ++ it (5 + 1) :: l) n1 rf → (jk ++ it (5 + 1) :: l).length ≤ 400 → p < n → n ≤ 80 → S.2 27 p = nI (tx p) → tx p < 200 → (x4 = 41 → ¬ tx p = 41) → (∀ j ∈ jk, SKP (nI (tx p)) j) → CN (5 + 1) S → ∃ T, SPO S T ∧ RD X n (some (.int (nI p))) T p S)
    (hclose : x4 = 41 → ∀ (S : cp_S) (jk : List cp_I) (p n1 t : Nat), PS S (jk ++ it t :: l) n1 rf → (jk ++ it t :: l).length ≤ 400 → p < n → n ≤ 80 → S.2 27 p = nI 41 → (∀ j ∈ jk, SKP (nI 41) j) → ∃ T, PS T l n1 rf ∧ SPO S T ∧ ∀ o Sx, RD X n o Sx (p + 1) T → RD X n o Sx p S)
    (hmay : x4 = 41 → ∀ t, ¬ may (it t)) (hCN : ∀ (t : Nat) (S S' : cp_S) (n1 len : Nat), RFX rf n1 len n1 S S' → CN t S → CN t S') (hCS : ∀ (t : Nat) (S T : cp_S), SPO S T → CN t S → CN t T) {t : Nat} (ht : t ≤ 5) (ih : t < 5 → GL X tx n rf pt l x4 it CN (t + 1)) : GL X tx n rf pt l x4 it CN t := by
  intro K S p n1 q0 ql rj hp hc ⟨hq0, hq3⟩ hlast
  have ho : 0 < 2 := by omega
  obtain ⟨⟨r1, r2, r3, r4⟩, ps, ⟨r5, r6, r7, r8, r9⟩, r10, r11⟩ := id rj
  have q0lt := hq0.2.1
  have q086 := hq0.1
  have hll : (it (t + 1) :: l : List cp_I).length = l.length + 1 := List.length_cons
  -- the class: withPiece, the loop
  have wp : ∀ (r : Nat) (T1 : cp_K), KC (42) m_Q_piece (fun G => [.ref (cp_b G + 21), .int (nI (2 - 0)), .int (nI 1)]) K (fun G => some (va_rf (kr G r))) T1 → ∀ (r' : Nat) (K' : cp_K), ((¬ r = 0 → nd T1 q0 9 ∧ (¬ T1.2.2.1 q0 5 = 0 → nd T1 (T1.2.2.1 q0 5) 9) ∧ r' = q0 ∧ K' = nadd T1 q0 r) ∧ (r = 0 → r' = 0 ∧ K' = T1)) → KC (43) m_Q_withPiece (fun G => [.ref (cp_b G + 21), va_rf (kr G q0), .int (nI (2 - 0)), .int (nI 1)]) K (fun G => some (va_rf (kr G r'))) K' := fun r T1 kc r' K' w => (c_Q_withPiece (D := 35) ⟨fun _ => ⟨r, T1, kc.mono (by omega), fun h => by obtain ⟨a1, a2, a3, a4⟩ := w.1 h; exact ⟨a1, a2, by rw [a3], a4⟩, fun h => by obtain ⟨a1, a2⟩ := w.2 h; exact ⟨by rw [a1], a2⟩⟩, fun h => absurd h (by omega)⟩).mono (by omega)
  rcases hP 1 0 K S _ p n1 (by omega) (by omega) ho rj hp (by rw [hll]; omega) with ⟨K1, S1, p1, a1, a2, a3, a4, a5, a6, a7⟩ | ⟨K1, S1, p1, n11, jk, a1, a2, a3, ⟨a4, a4'⟩, a5, a6, a7, a8, a9, a10, a11⟩
  · -- no argument
    refine Or.inl ⟨K1, S1, p1, b_Q_readPieces_3 (D := 36) ⟨fun h => absurd h (nI_nlt (a := 6) (b := t + 1) (by omega) (by omega)), fun _ => ⟨0, K1, (wp 0 K1 a1 0 K1 ⟨fun h => absurd rfl h, fun _ => ⟨rfl, rfl⟩⟩).mono (by omega), fun h => absurd rfl h, fun _ => ⟨rfl, rfl⟩⟩⟩, a2, a3, a4, ?_, ?_, a7⟩
    · exact KRX.trans KRX.refl a5 (Or.inr (Nat.le_refl _)) (Or.inr (Nat.le_refl _))
    · exact (a6.wk (Nat.le_refl _) (by rw [hll]; omega) (Or.inl rfl)).z
  · -- an argument
    obtain ⟨⟨b1, b2, b3, b4⟩, ps1, ⟨b5, b6, b7, b8, b9⟩, b10, b11⟩ := id a3
    obtain ⟨lt1, lt2⟩ := RTR.lt _ _ _ _ _ a5
    have e5 : K1.2.2.1 q0 5 = K.2.2.1 q0 5 := a7.2.2.2.2.2.1 q0 q0lt 5 (Or.inl (by omega)) (Or.inl (by omega))
    have e4 : K1.2.2.1 q0 4 = K.2.2.1 q0 4 := a7.2.2.2.2.2.1 q0 q0lt 4 (Or.inl (by omega)) (Or.inl (by omega))
    have e3 : K1.2.1 q0 3 = nI t := by rw [a7.2.2.2.1 q0 q0lt (by omega) 3 (Or.inl (by omega))]; exact hq3
    have hlast1 : K1.2.2.1 q0 5 = 0 ∨ (K1.2.2.1 q0 5 = ql ∧ ql ≠ q0) := by
      rw [e5]
      rcases hlast with ⟨-, h, -⟩ | ⟨-, h, h', -⟩
      · exact Or.inl h
      · exact Or.inr ⟨h, by omega⟩
    have qlle : ql ≤ K.1.1 := by
      rcases hlast with ⟨-, -, h⟩ | ⟨-, -, -, h⟩
      · omega
      · have := h.2.1; omega
    have nq1 : nd K1 q0 9 := a7.nd hq0
    have nql1 : ¬ K1.2.2.1 q0 5 = 0 → nd K1 (K1.2.2.1 q0 5) 9 := fun h => by
      rw [e5] at h ⊢
      rcases hlast with ⟨-, h', -⟩ | ⟨-, h', -, h''⟩
      · exact absurd h' h
      · rw [h']; exact a7.nd h''
    obtain ⟨K2, hK2⟩ : ∃ K2 : cp_K, K2 = nadd K1 q0 K.1.1 := ⟨_, rfl⟩
    obtain ⟨qx, hqx, hqx2, hqx3⟩ : ∃ qx, (qx = ql ∨ K.1.1 ≤ qx) ∧ (qx < K.1.1 ∨ K1.1.1 ≤ qx) ∧ (K1.2.2.1 q0 5 = 0 ∨ (K1.2.2.1 q0 5 = qx ∧ qx ≠ q0)) := by
      rcases hlast with ⟨-, h, -⟩ | ⟨-, h, h', h''⟩
      · exact ⟨K1.1.1, Or.inr (by omega), Or.inr (Nat.le_refl _), Or.inl (e5.trans h)⟩
      · exact ⟨ql, Or.inl rfl, Or.inl h''.2.1, Or.inr ⟨e5.trans h, by omega⟩⟩
    have kx2 : KRX q0 qx K1 K2 := by rw [hK2]; exact KRX_nadd nq1 hqx3
    have n2 : K2.1.1 = K1.1.1 := by rw [hK2, na_n]
    have k02 : KRX q0 ql K K2 := (KRX.trans (KRX.refl (q0 := q0) (ql := ql)) a7 (Or.inr (Nat.le_refl _)) (Or.inr (Nat.le_refl _))).trans kx2 (Or.inl rfl) hqx
    have c3 : K2.2.1 q0 3 = nI (t + 1) := by rw [hK2, na_ip, if_pos rfl, e3, nI_1]
    have c5 : K2.2.2.1 q0 5 = K.1.1 := by rw [hK2, na_rp (by rcases hlast1 with h | h; exact Or.inr h; exact Or.inl (by rw [h.1]; exact h.2)), if_pos rfl]
    have c4 : (t = 0 → K2.2.2.1 q0 4 = K.1.1) ∧ (0 < t → K2.2.2.1 q0 4 = K.2.2.1 q0 4 ∧ K2.2.2.1 ql 6 = K.1.1) := by
      rcases hlast with ⟨h1, h2, h3⟩ | ⟨h1, h2, h3, h4⟩
      · refine ⟨fun _ => ?_, fun h => absurd h (by omega)⟩
        rw [hK2, na_rp (Or.inr (e5.trans h2)), if_neg (by decide), if_pos rfl, if_pos (e5.trans h2)]
      · have l86 := h4.1
        have hne : ¬ K1.2.2.1 q0 5 = 0 := by rw [e5, h2]; omega
        have hnq : K1.2.2.1 q0 5 ≠ q0 := by rw [e5, h2]; omega
        refine ⟨fun h => absurd h (by omega), fun _ => ⟨?_, ?_⟩⟩
        · rw [hK2, na_rp (Or.inl hnq), if_neg (by decide), if_pos rfl, if_neg hne, e4]
        · have := na_rl (K := K1) (p := q0) (r := K.1.1) (f := 6) hne hnq
          rw [if_pos rfl, e5, h2] at this
          rw [hK2]; exact this
    have at2 : K2.2.1 21 2 = nI p1 := by rw [hK2, na_i (by omega)]; exact b1
    have rj2 : RJ tx n rf K2 S1 (jk ++ it (t + 1) :: l) p1 n11 := a3.mvz kx2 rfl ps1 at2 b6 ⟨b7, b8⟩ b11 (by omega)
    have lst1 : K2.2.2.1 K.1.1 6 = 0 := by rw [kx2.2.2.2.2.2.1 K.1.1 (by omega) 6 (Or.inl (by omega)) (Or.inl (by omega))]; exact a6
    have nc2 : nd K2 K.1.1 9 := ⟨by omega, by omega, by rw [kx2.2.1 _ (by omega)]; exact a7.2.2.1 _ (Nat.le_refl _) (by omega)⟩
    have rtr2 : ∀ (K3 : cp_K) (S3 : cp_S), KRX q0 K.1.1 K2 K3 → (∀ x, n1 ≤ x → x < n11 → S3.2 39 x = S1.2 39 x ∧ S3.2 40 x = S1.2 40 x ∧ S3.2 41 x = S1.2 41 x ∧ S3.2 42 (x - rf) = S1.2 42 (x - rf)) → RTR K3 S3.2 rf 8 K.1.1 n1 n11 K1.1.1 := fun K3 S3 g11 hb => by
      refine RTR.loc (K := K1) (b := S1.2) (by have := g11.1; omega) _ _ _ _ _ a5 (fun x x1 x2 => ⟨fun g => ?_, ?_, ?_, fun hx => ?_⟩) hb
      · rw [g11.2.2.2.1 x (by omega) (by omega) g (Or.inl (by omega)), kx2.2.2.2.1 x (by omega) (by omega) g (Or.inl (by omega))]
      · rw [g11.2.1 x (by omega), kx2.2.1 x (by omega)]
      · rw [g11.2.2.2.2.2.1 x (by omega) 4 (Or.inl (by omega)) (Or.inr (by decide)), kx2.2.2.2.2.2.1 x (by omega) 4 (Or.inl (by omega)) (Or.inr (by decide))]
      · rw [g11.2.2.2.2.2.1 x (by omega) 6 (Or.inl (by omega)) (Or.inl hx), kx2.2.2.2.2.2.1 x (by omega) 6 (Or.inl (by omega)) (Or.inl (by omega))]
    have cnt1 : CN (t + 1) S1 := hCN _ _ _ _ _ a8 hc
    have kwp : KC (43) m_Q_withPiece (fun G => [.ref (cp_b G + 21), va_rf (kr G q0), .int (nI (2 - 0)), .int (nI 1)]) K (fun G => some (va_rf (kr G q0))) K2 := wp K.1.1 K1 a1 q0 K2 ⟨fun _ => ⟨nq1, nql1, rfl, hK2⟩, fun h => absurd h (by omega)⟩
    have loop : ∀ (r : Int32) (K' : cp_K), (¬ qpk K2 = x4 → JC 44 m_Q_readPieces (fun _ => .inl (some (.int r))) K' 3 (LQ q0 0 1 x4 (t + 2)) (fun _ => []) K2) → (qpk K2 = x4 → r = 1 ∧ ((x4 = 0 ∧ K' = K2) ∨ (¬ x4 = 0 ∧ K' = qtk K2 x4))) → JC 44 m_Q_readPieces (fun _ => .inl (some (.int r))) K' 3 (LQ q0 0 1 x4 (t + 1)) (fun _ => []) K := fun r K' w1 w2 => by
      refine b_Q_readPieces_3 (D := 36) ⟨fun h => absurd h (nI_nlt (a := 6) (b := t + 1) (by omega) (by omega)), fun _ => ⟨q0, K2, kwp.mono (by omega), fun _ => ⟨rj2.1.2.2.1, fun h => ?_, fun h => ⟨fun h0 => ?_, fun h0 => ⟨fun h1 => absurd h1 (ife1 h), fun _ => ?_⟩⟩⟩, fun h => absurd h (by omega)⟩⟩
      · rw [nI_1]; exact w1 h
      · obtain ⟨e1, ⟨e2, e3⟩ | ⟨e2, e3⟩⟩ := w2 h
        · rw [e1, e3]; exact ⟨rfl, rfl⟩
        · exact absurd h0 e2
      · obtain ⟨e1, ⟨e2, e3⟩ | ⟨e2, e3⟩⟩ := w2 h
        · exact absurd e2 h0
        · rw [e1, e3]; exact ⟨rfl, rfl⟩
    have rfx1 : RFZ rf n1 l.length pt S S1 := (a8.wk (Nat.le_refl _) (by rw [hll]; omega) (Or.inl rfl)).z
    have fail : ∀ (p' : Nat) (S' : cp_S), p' = p1 → RD X n (some (.int (nI p'))) S' p1 S1 → SPO S1 S' → JC 44 m_Q_readPieces (fun _ => .inl (some (.int 0))) K2 3 (LQ q0 0 1 x4 (t + 2)) (fun _ => []) K2 → ¬ qpk K2 = x4 → (∃ (K' : cp_K) (S' : cp_S) (p' : Nat), JC 44 m_Q_readPieces (fun _ => .inl (some (.int 0))) K' 3 (LQ q0 0 1 x4 (t + 1)) (fun _ => []) K ∧ K'.2.1 21 2 = nI p' ∧ (p ≤ p' ∧ p' ≤ n) ∧ BTK X n (some (.int (nI p'))) S' S p 2 ∧ KRX q0 ql K K' ∧ RFZ rf n1 l.length pt S S' ∧ K'.1.1 ≤ K.1.1 + (p' - p)) := fun p' S' e w1 w2 w3 w4 => ⟨K2, S', p', loop 0 K2 (fun _ => w3) (fun h => absurd h w4), by rw [e]; exact rj2.1.1, by omega, a2 _ _ w1, k02, rfx1.trans w2.rfz (Nat.le_refl _) (Nat.le_refl _), by rw [n2]; omega⟩
    have hlen : (jk ++ it (t + 1) :: l : List cp_I).length ≤ 400 := by rw [List.length_append, List.length_cons]; omega
    by_cases hpn : p1 = n
    · -- the end of the text
      subst hpn
      have k0 := rj2.pk0
      rcases hx4 with hx4 | hx4
      · have n41 : ¬ qpk K2 = x4 := by rw [k0, hx4]; decide
        refine Or.inl (fail p1 S1 rfl (rd_end_no ps1 hlen b5 (i := it (t + 1)) (List.mem_append.mpr (Or.inr List.mem_cons_self)) (hmay hx4 _)) ⟨fun _ _ => rfl, rfl⟩ ?_ n41)
        refine b_Q_readPieces_3 (D := 36) ⟨fun _ => ⟨rfl, rfl⟩, fun _ => ⟨0, K2, (c_Q_withPiece (D := 1) ⟨fun _ => ⟨0, K2, piece_end ho rj2, fun h => absurd rfl h, fun _ => ⟨rfl, rfl⟩⟩, fun _ => ⟨rfl, rfl⟩⟩).mono (by omega), fun h => absurd rfl h, fun _ => ⟨rfl, rfl⟩⟩⟩
      · refine Or.inr ⟨K2, S1, p1, p1, n11, 1, jk ++ it (t + 1) :: l, K.1.1, loop 1 K2 (fun h => absurd (by rw [k0, hx4]) h) (fun _ => ⟨rfl, Or.inl ⟨hx4, rfl⟩⟩), a2, rj2, Or.inr ⟨hx4, rfl, rfl, jk, rfl, a4, fun j hj => (a4' j hj).1⟩, ⟨rfl, n11, K1.1.1, rtr2 K2 S1 KRX.refl (fun _ _ _ => ⟨rfl, rfl, rfl, rfl⟩), lst1, rfl, n2.symm⟩, ⟨Nat.le_refl _, by omega, c3, cnt1⟩, c4, ⟨c5, nc2, by omega, rfl, lst1⟩, k02, rfx1, a9, by omega, a11⟩
    · have hp1 : p1 < n := by omega
      have hc200 : tx p1 < 200 := by have := (b10 p1 hp1).1; omega
      have pk1 := rj2.pk hp1
      have ctx := (b10 p1 hp1).2.2
      by_cases h41 : x4 = 41 ∧ tx p1 = 41
      · -- the bracket is closed
        obtain ⟨hx41, h41⟩ := h41
        obtain ⟨T, t1, t2, t3⟩ := hclose hx41 S1 jk p1 n11 (t + 1) ps1 hlen hp1 b5 (by rw [ctx, h41]) (fun j hj => by have := (a4' j hj).2 hp1; rw [h41] at this; exact this)
        have q41 : qpk K2 = x4 := by rw [pk1, h41, hx41]; rfl
        obtain ⟨K3, hK3⟩ : ∃ K3 : cp_K, K3 = kI K2 21 2 (nI (p1 + 1)) := ⟨_, rfl⟩
        have hq : qtk K2 x4 = K3 := by rw [qtk_eq (p := 0) q41, rj2.1.1, nI_1, hK3]
        have k23 : ∀ qy, KRX q0 qy K2 K3 := fun qy => by rw [hK3]; exact KRX_at
        have k03 := k02.trans (k23 ql) (Or.inl rfl) (Or.inl rfl)
        have rfx2 : RFZ rf n1 l.length pt S T := rfx1.trans t2.rfz (Nat.le_refl _) (Nat.le_refl _)
        have n3 : K3.1.1 = K1.1.1 := by rw [hK3]; exact n2
        have r3e : ∀ x g, K3.2.2.1 x g = K2.2.2.1 x g := fun x g => by rw [hK3]; rfl
        have i3e : ∀ x g, x ≠ 21 → K3.2.1 x g = K2.2.1 x g := fun x g hx => by rw [hK3, kI_i, cp_up_ne hx]
        exact Or.inr ⟨K3, T, p1 + 1, p1, n11, 1, l, K.1.1, loop 1 K3 (fun h => absurd q41 h) (fun _ => ⟨rfl, Or.inr ⟨by rw [hx41]; decide, hq.symm⟩⟩), fun r Sx w => a2 _ _ (t3 _ _ w), rj.mvz k03 (by rw [t2.2, a8.2.1 27 (by omega)]) t1 (by rw [hK3, kI_i, va_up_at, va_up_at]) (by omega) ⟨b7, by omega⟩ (b11.eq (fun x _ => by rw [t2.2]) (by omega)) (by omega), Or.inl ⟨hx41, rfl, rfl⟩, ⟨rfl, n11, K1.1.1, rtr2 K3 T (k23 _) (fun x _ _ => by rw [t2.2]; exact ⟨rfl, rfl, rfl, rfl⟩), by rw [r3e]; exact lst1, rfl, n3.symm⟩, ⟨Nat.le_refl _, by omega, by rw [i3e _ _ (by omega)]; exact c3, hCS _ _ _ t2 cnt1⟩, ⟨fun h => by rw [r3e]; exact c4.1 h, fun h => ⟨by rw [r3e]; exact (c4.2 h).1, by rw [r3e]; exact (c4.2 h).2⟩⟩, ⟨by rw [r3e]; exact c5, (k23 0).nd nc2, by omega, rfl, by rw [r3e]; exact lst1⟩, k03, rfx2, a9.loc (fun x _ _ => by rw [t2.2]; exact ⟨rfl, rfl⟩), by rw [n3]; omega, by omega⟩
      · have h41' : x4 = 41 → ¬ tx p1 = 41 := fun h1 h2 => h41 ⟨h1, h2⟩
        have n41 : ¬ qpk K2 = x4 := by
          rw [pk1]
          rcases hx4 with h | h
          · rw [h]; exact nI_cc (a := 41) hc200 (by omega) (h41' h)
          · rw [h]; have := (b10 p1 hp1).1; exact nI_cc (a := 0) hc200 (by omega) (by omega)
        by_cases ht5 : t = 5
        · obtain ⟨T, t1, t2⟩ := hfull S1 jk p1 n11 (by rw [ht5] at ps1; exact ps1) (by rw [ht5] at hlen; exact hlen) hp1 b5 ctx hc200 h41' (fun j hj => (a4' j hj).2 hp1) (by rw [ht5] at cnt1; exact cnt1)
          refine Or.inl (fail p1 T rfl t2 t1 (b_Q_readPieces_3 (D := 36) ⟨fun _ => ⟨rfl, rfl⟩, fun h => absurd ?_ h⟩) n41)
          rw [ht5]; decide
        · obtain ⟨T, t1, t2, t3, t4⟩ := hnext S1 jk p1 n11 (t + 1) ps1 hlen hp1 b5 ctx hc200 h41' (fun j hj => (a4' j hj).2 hp1) (by omega) cnt1
          have rfx2 : RFZ rf n1 l.length pt S T := rfx1.trans t2 (by omega) (Nat.le_refl _)
          have rjT : RJ tx n rf K2 T (it (t + 1 + 1) :: l) p1 n11 := rj2.mvz (KRX.refl (q0 := 0) (ql := 0)) (t2.2.1 27 (by omega)) t1 rj2.1.1 b6 ⟨b7, b8⟩ (b11.eq (fun x hx => t2.2.2.2.1 x hx) (Nat.le_refl _)) (by omega)
          rcases ih (by omega) K2 T p1 n11 q0 K.1.1 rjT hp1 t3 ⟨kx2.nd nq1, c3⟩ (Or.inr ⟨by omega, c5, by omega, nc2⟩) with ⟨K', S', p', g1, g2, g3, g4, g5, g6, g7⟩ | ⟨K', S', p', pe, n1', m, l', qe, g1, g2, g3, g3', g4, ⟨g5, g6, g7, g8⟩, ⟨-, g10⟩, ⟨h1, h2, h3, h4, h5⟩, g11, g12, g14, g15, g16⟩
          · exact Or.inl ⟨K', S', p', loop 0 K' (fun _ => g1) (fun h => absurd h n41), g2, ⟨by omega, g3.2⟩, a2 _ _ (t4 _ _ g4), k02.trans g5 (Or.inl rfl) (Or.inr (Nat.le_refl _)), rfx2.trans g6 (by omega) (Nat.le_refl _), by omega⟩
          · obtain ⟨g10a, g10b⟩ := g10 (by omega)
            have k0' := k02.trans g11 (Or.inl rfl) (Or.inr (Nat.le_refl _))
            have sx' : RFZ rf n11 l.length pt S1 S' := t2.trans g12 (Nat.le_refl _) (Nat.le_refl _)
            rw [n2] at g4 g10b h4
            refine Or.inr ⟨K', S', p', pe, n1', m + 1, l', qe, loop 1 K' (fun _ => g1) (fun h => absurd h n41), fun r Sx w => a2 _ _ (t4 _ _ (g2 r Sx w)), g3, by rw [show t + (m + 1) = t + 1 + m by omega]; exact g3', ⟨rfl, n11, K1.1.1, rtr2 K' S' g11 (fun x x1 x2 => ⟨sx'.2.2.1 39 (by omega) (by omega) x x2, sx'.2.2.1 40 (by omega) (by omega) x x2, sx'.2.2.1 41 (by omega) (by omega) x x2, sx'.2.2.2.1 _ (by omega)⟩), by rw [g10b]; exact g4⟩, ⟨by omega, by omega, by rw [g7]; congr 1; omega, by rw [show t + (m + 1) = t + 1 + m by omega]; exact g8⟩, ⟨fun h => by rw [g10a]; exact c4.1 h, fun h => ⟨by rw [g10a]; exact (c4.2 h).1, ?_⟩⟩, ⟨h1, h2, h3, ?_, h5⟩, k0', rfx2.trans g12 (by omega) (Nat.le_refl _), ?_, by omega, by omega⟩
            · have hql : ql < K.1.1 ∧ ql ≠ q0 := by
                rcases hlast with ⟨h1, -⟩ | ⟨-, -, h3, h4⟩
                · omega
                · exact ⟨h4.2.1, by omega⟩
              rw [g11.2.2.2.2.2.1 ql (by omega) 6 (Or.inl hql.2) (Or.inl (by omega))]
              exact (c4.2 h).2
            · obtain ⟨m', rfl⟩ : ∃ m', m = m' + 1 := ⟨m - 1, by omega⟩
              show LST K' (m' + 1) (K'.2.2.1 K.1.1 6) qe
              rw [g10b]; exact h4
            · exact (a9.loc (fun x x1 x2 => ⟨sx'.2.2.1 39 (by omega) (by omega) x x2, sx'.2.2.1 41 (by omega) (by omega) x x2⟩)).join g14
end CPGL
