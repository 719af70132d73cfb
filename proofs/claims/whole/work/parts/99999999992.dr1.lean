/-! ===== the head of a value: what both write of it ===== -/
theorem ws_at {b : Nat → Int32} {α : Type} {g : α → Int32} : ∀ (A : List α) (t : Nat), ws b t A.length = A.map g → ∀ i (h : i < A.length), b (t + i) = g A[i]
  | [], _, _, i, h => absurd h (by simp)
  | q :: A, t, e, i, h => by
    rw [List.length_cons, ws, List.map_cons] at e
    obtain ⟨e1, e2⟩ := List.cons.inj e
    cases i with
    | zero => exact e1
    | succ i =>
      have := ws_at A (t + 1) e2 i (by simpa using h)
      rw [show t + 1 + i = t + (i + 1) by omega] at this
      exact this
/-- what drawOne does -/
def DRO (S S' : cp_S) (s n m : Nat) (cs : List Nat) : Prop := (∀ k, k ≠ 74 → k ≠ 75 → S'.1 k = S.1 k) ∧ S'.1 75 = nI (min (m + 1) 100) ∧ ((S'.1 74 = 0 ∨ S'.1 74 = 1) ∧ (S'.1 74 = 1 ↔ S.1 74 = 1 ∨ S.2 52 s = 2)) ∧ (∀ p, p ≠ 29 → p ≠ 79 → p ≠ 80 → p ≠ 81 → S'.2 p = S.2 p) ∧ (∀ i, i < n → S'.2 29 i = S.2 29 i) ∧ (n + cs.length ≤ 100 → ∀ i (h : i < cs.length), S'.2 29 (n + i) = nI cs[i]) ∧ (S'.2 79 m = (if S.2 52 s = 0 then 2 else if S.2 52 s = 1 then 3 else 5) ∧ S'.2 80 m = S.2 53 s ∧ S'.2 81 m = S.2 55 s) ∧ ∀ p, 79 ≤ p → p ≤ 81 → ∀ i, i < m → S'.2 p i = S.2 p i
theorem d1_pre {S : cp_S} {m s : Nat} {x2 : Int32} (h75 : S.1 75 = nI m) (hm : m ≤ 100) (hs : s < 6000) (h74 : S.1 74 = 0 ∨ S.1 74 = 1) : ∃ (y1 : Int32) (S1 : cp_S), (y1 = 0 ∨ y1 = 1) ∧ (y1 = 1 ↔ S.1 74 = 1 ∨ S.2 52 s = 2) ∧ (∀ k, k ≠ 75 → S1.1 k = S.1 k) ∧ S1.1 75 = nI (min (m + 1) 100) ∧ (∀ p, p ≠ 79 → p ≠ 80 → p ≠ 81 → S1.2 p = S.2 p) ∧ (S1.2 79 m = (if S.2 52 s = 0 then 2 else if S.2 52 s = 1 then 3 else 5) ∧ S1.2 80 m = S.2 53 s ∧ S1.2 81 m = S.2 55 s) ∧ (∀ p, 79 ≤ p → p ≤ 81 → ∀ i, i < m → S1.2 p i = S.2 p i) ∧ ∀ (o : Option Value) (S' : cp_S), JK 0 m_M_drawOne o S' 118 [(1, .int (nI s)), (2, .int x2), (3, .int x2)] (fun G => [.int y1, .ref (cp_b G + 26)]) S1 → MC 0 m_M_drawOne [.int (nI s), .int x2] S o S' := by
  have hs6 : vp_in (nI s) 6000 := vp_in_nI hs (by decide)
  have hm1 : vp_in (nI m) 101 := vp_in_nI (by omega) (by decide)
  have cs : (nI s).toNatClampNeg = s := nI_clamp (by omega)
  have cm : (nI m).toNatClampNeg = m := nI_clamp (by omega)
  obtain ⟨op, hop⟩ : ∃ op : Int32, op = (if S.2 52 s = 0 then 2 else if S.2 52 s = 1 then 3 else 5) := ⟨_, rfl⟩
  obtain ⟨S0, hS0⟩ : ∃ S0 : cp_S, S0 = (S.1, va_up (va_up (va_up S.2 79 (upd (S.2 79) m op)) 80 (upd (S.2 80) m (S.2 53 s))) 81 (upd (S.2 81) m (S.2 55 s))) := ⟨_, rfl⟩
  obtain ⟨S1, hS1⟩ : ∃ S1 : cp_S, S1 = (va_up S0.1 75 (nI (min (m + 1) 100)), S0.2) := ⟨_, rfl⟩
  have hS02 : S0.2 = va_up (va_up (va_up S.2 79 (upd (S.2 79) m op)) 80 (upd (S.2 80) m (S.2 53 s))) 81 (upd (S.2 81) m (S.2 55 s)) := by rw [hS0]
  have hS11 : S1.1 = va_up S0.1 75 (nI (min (m + 1) 100)) := by rw [hS1]
  have hS12 : S1.2 = S0.2 := by rw [hS1]
  have s0 : ∀ p, p ≠ 79 → p ≠ 80 → p ≠ 81 → S0.2 p = S.2 p := fun p h1 h2 h3 => by
    rw [hS02, cp_up_ne h3, cp_up_ne h2, cp_up_ne h1]
  have s79 : S0.2 79 = upd (S.2 79) m op := by
    rw [hS02, cp_up_ne (by decide), cp_up_ne (by decide), va_up_at]
  have s80 : S0.2 80 = upd (S.2 80) m (S.2 53 s) := by
    rw [hS02, cp_up_ne (by decide), va_up_at]
  have s81 : S0.2 81 = upd (S.2 81) m (S.2 55 s) := by
    rw [hS02, va_up_at]
  -- from 38 on
  have m38 : ∀ (o : Option Value) (S' : cp_S), JK 0 m_M_drawOne o S' 92 [(1, .int (nI s)), (2, .int x2), (3, .int x2)] (fun G => [.int (nI (min (m + 1) 100)), .ref (cp_b G + 26)]) S0 → MC 0 m_M_drawOne [.int (nI s), .int x2] S o S' := fun o S' w => by
    have w38 : JK 0 m_M_drawOne o S' 38 [(1, .int (nI s)), (2, .int x2), (3, .int x2)] (fun G => [.int op, .int (S.1 75), .ref (cp_b G + 79)]) S := by
      refine b_M_drawOne_38 ?_
      unfold wp_M_drawOne_38
      rw [h75, cs, cm]
      refine ⟨hm1, hs6, hm1, hs6, hm1, fun h => ?_, fun h => ?_⟩
      · have : 100 ≤ m := (nI_leq (a := 100) (by omega) (by omega)).mp h
        rw [show min (m + 1) 100 = m by omega, hS0] at w
        exact w
      · have : ¬ 100 ≤ m := fun q => h (nI_le (a := 100) q (by omega))
        rw [show min (m + 1) 100 = m + 1 by omega, hS0] at w
        rw [nI_1]
        exact w
    refine c_M_drawOne (b_M_drawOne_0 ?_)
    unfold wp_M_drawOne_0
    rw [cs]
    refine ⟨hs6, fun h0 => ⟨hs6, fun h1 => ?_, fun h1 => ?_⟩, fun h0 => ?_⟩
    · rw [if_neg h0, if_neg h1] at hop; rw [hop] at w38; exact w38
    · rw [if_neg h0, if_pos h1] at hop; rw [hop] at w38; exact w38
    · rw [if_pos h0] at hop; rw [hop] at w38; exact w38
  have f1 : ∀ k, k ≠ 75 → S1.1 k = S.1 k := fun k hk => by
    rw [hS11, cp_up_ne hk, hS0]
  have f2 : S1.1 75 = nI (min (m + 1) 100) := by rw [hS11, va_up_at]
  have f3 : ∀ p, p ≠ 79 → p ≠ 80 → p ≠ 81 → S1.2 p = S.2 p := fun p h1 h2 h3 => by rw [hS12]; exact s0 p h1 h2 h3
  have f4 : S1.2 79 m = op ∧ S1.2 80 m = S.2 53 s ∧ S1.2 81 m = S.2 55 s := by
    rw [hS12, s79, s80, s81, pk_us, pk_us, pk_us]
    exact ⟨rfl, rfl, rfl⟩
  have f5 : ∀ p, 79 ≤ p → p ≤ 81 → ∀ i, i < m → S1.2 p i = S.2 p i := fun p p1 p2 i hi => by
    rw [hS12]
    rcases (show p = 79 ∨ p = 80 ∨ p = 81 by omega) with rfl | rfl | rfl
    · rw [s79, pk_un (by omega)]
    · rw [s80, pk_un (by omega)]
    · rw [s81, pk_un (by omega)]
  have e52 : S0.2 52 (nI s).toNatClampNeg = S.2 52 s := by rw [cs, s0 52 (by decide) (by decide) (by decide)]
  have e74 : S0.1 74 = S.1 74 := by rw [hS0]
  by_cases hy : S.1 74 = 1 ∨ S.2 52 s = 2
  · refine ⟨1, S1, Or.inr rfl, ⟨fun _ => hy, fun _ => rfl⟩, f1, f2, f3, hop ▸ f4, f5, fun o S' w => m38 o S' (b_M_drawOne_92 ?_)⟩
    have w2 : JK 0 m_M_drawOne o S' 113 [(1, .int (nI s)), (2, .int x2), (3, .int x2)] (fun G => [.ref (cp_b G + 26)]) (va_up S0.1 75 (nI (min (m + 1) 100)), S0.2) := by
      rw [← hS1]
      exact b_M_drawOne_113 w
    unfold wp_M_drawOne_92
    refine ⟨fun _ => w2, fun h0 => ⟨hs6, fun h2 => ?_, fun _ => w2⟩⟩
    rw [e52] at h2
    rw [e74] at h0
    rcases hy with hy | hy
    · rw [hy] at h0; exact absurd h0 (by decide)
    · exact absurd hy h2
  · refine ⟨0, S1, Or.inl rfl, ⟨fun h => absurd h (by decide), fun h => absurd h hy⟩, f1, f2, f3, hop ▸ f4, f5, fun o S' w => m38 o S' (b_M_drawOne_92 ?_)⟩
    unfold wp_M_drawOne_92
    rw [← hS1]
    refine ⟨fun h => ?_, fun h0 => ⟨hs6, fun h2 => w, fun h2 => ?_⟩⟩
    · rw [e74] at h
      rcases h74 with q | q
      · exact absurd q h
      · exact absurd (Or.inl q) hy
    · rw [e52] at h2
      exact absurd (Or.inr h2) hy
/-- a head that is no number -/
theorem d1_let {S : cp_S} {m s n c : Nat} {k : Nat} (h75 : S.1 75 = nI m) (hm : m ≤ 100) (hs : s < 6000) (hn : n ≤ 100) (h74 : S.1 74 = 0 ∨ S.1 74 = 1) (h55 : S.2 55 s = nI k) (hk : k ≤ 6) (h52 : (S.2 52 s = 1 ∧ c = 35) ∨ (S.2 52 s = 2 ∧ c = 95) ∨ (S.2 52 s = 3 ∧ 65 ≤ c ∧ S.2 53 s = nI (c - 65))) (hc : c < 128) : ∃ n' S', MC 0 m_M_drawOne [.int (nI s), .int (nI n)] S (some (.int (nI n'))) S' ∧ n' = n + (if k = 0 then [c] else [c, 40]).length ∧ DRO S S' s n m (if k = 0 then [c] else [c, 40]) := by
  obtain ⟨y1, S1, g1, g2, g3, g4, g5, g6, g7, g8⟩ := d1_pre (x2 := nI n) h75 hm hs h74
  have hs6 : vp_in (nI s) 6000 := vp_in_nI hs (by decide)
  have cs : (nI s).toNatClampNeg = s := nI_clamp (by omega)
  have cn : (nI n).toNatClampNeg = n := nI_clamp (by omega)
  have fit : narrow (cp_ty 11 74) (.int y1) = .int y1 ∧ fits (cp_ty 11 74) (.int y1) = true := by
    rcases g1 with rfl | rfl <;> exact ⟨rfl, rfl⟩
  obtain ⟨S2, hS2⟩ : ∃ S2 : cp_S, S2 = (va_up S1.1 74 y1, S1.2) := ⟨_, rfl⟩
  obtain ⟨S3, hS3⟩ : ∃ S3 : cp_S, S3 = (S2.1, va_up (va_up S2.2 29 (upd (S2.2 29) n (nI c))) 29 (upd (upd (S2.2 29) n (nI c)) (n + 1) 40)) := ⟨_, rfl⟩
  have hS32 : S3.2 = va_up (va_up S2.2 29 (upd (S2.2 29) n (nI c))) 29 (upd (upd (S2.2 29) n (nI c)) (n + 1) 40) := by rw [hS3]
  have hS22 : S2.2 = S1.2 := by rw [hS2]
  have e52 : S1.2 52 (nI s).toNatClampNeg = S.2 52 s := by rw [cs, g5 52 (by decide) (by decide) (by decide)]
  have e53 : S1.2 53 (nI s).toNatClampNeg = S.2 53 s := by rw [cs, g5 53 (by decide) (by decide) (by decide)]
  have e55 : S2.2 55 s = nI k := by rw [hS22, g5 55 (by decide) (by decide) (by decide)]; exact h55
  have ln : (if k = 0 then [c] else [c, 40] : List Nat).length = if k = 0 then 1 else 2 := by split <;> rfl
  have w174 : JK 0 m_M_drawOne (some (.int (nI (n + (if k = 0 then [c] else [c, 40] : List Nat).length)))) S3 174 [(1, .int (nI s)), (2, .int (nI n)), (3, .int (nI n))] (fun G => [.int (nI c), .int (nI n), .ref (cp_b G + 29)]) S2 := by
    refine b_M_drawOne_174 ?_
    unfold wp_M_drawOne_174
    rw [cs, cn, nI_1, nI_clamp (show n + 1 < 2 ^ 31 by omega), e55]
    refine ⟨vp_in_nI (show n < 110 by omega) (by decide), vp_in_nI (show n + 1 < 110 by omega) (by decide), hs6, fun h => ?_, fun h => ?_⟩
    · have : k = 0 := by
        have := (nI_leq (b := 0) (by omega) (by omega)).mp h
        omega
      rw [ln, if_pos this]
      exact ⟨rfl, hS3⟩
    · have : ¬ k = 0 := fun e => h (by rw [e]; decide)
      rw [ln, if_neg this]
      exact ⟨by rw [show (2 : Int32) = nI 2 from rfl, nI_add], hS3⟩
  have w118 : JK 0 m_M_drawOne (some (.int (nI (n + (if k = 0 then [c] else [c, 40] : List Nat).length)))) S3 118 [(1, .int (nI s)), (2, .int (nI n)), (3, .int (nI n))] (fun G => [.int y1, .ref (cp_b G + 26)]) S1 := by
    refine b_M_drawOne_118 ?_
    unfold wp_M_drawOne_118
    rw [e52, e53, ← hS2]
    refine ⟨fit, hs6, fun h0 => ?_, fun h0 => ⟨hs6, fun h1 => ⟨hs6, fun h2 => ⟨hs6, ?_⟩, fun h2 => ?_⟩, fun h1 => ?_⟩⟩
    · rcases h52 with q | q | q <;> exact absurd (q.1.symm.trans h0) (by decide)
    · rcases h52 with q | q | q
      · exact absurd q.1 h1
      · exact absurd q.1 h2
      · rw [q.2.2, show (65 : Int32) = nI 65 from rfl, nI_add, show 65 + (c - 65) = c by omega]
        exact w174
    · rcases h52 with q | q | q
      · exact absurd q.1 h1
      · rw [q.2] at w174 hS3 ⊢
        exact w174
      · exact absurd (q.1.symm.trans h2) (by decide)
    · rcases h52 with q | q | q
      · rw [q.2] at w174 hS3 ⊢
        exact w174
      · exact absurd (q.1.symm.trans h1) (by decide)
      · exact absurd (q.1.symm.trans h1) (by decide)
  have t1 : S3.1 = va_up S1.1 74 y1 := by rw [hS3, hS2]
  have t2 : ∀ p, p ≠ 29 → S3.2 p = S1.2 p := fun p hp => by
    rw [hS32, cp_up_ne hp, cp_up_ne hp, hS2]
  have t29 : S3.2 29 = upd (upd (S.2 29) n (nI c)) (n + 1) 40 := by
    rw [hS32, va_up_at, hS22, g5 29 (by decide) (by decide) (by decide)]
  refine ⟨_, S3, g8 _ _ w118, rfl, fun k h1 h2 => ?_, ?_, ⟨?_, ?_⟩, fun p p1 p2 p3 p4 => ?_, fun i hi => ?_, fun _ i hi => ?_, ⟨?_, ?_, ?_⟩, fun p p1 p2 i hi => ?_⟩
  · rw [t1, cp_up_ne h1]; exact g3 k h2
  · rw [t1, cp_up_ne (by decide)]; exact g4
  · rw [t1, va_up_at]; exact g1
  · rw [t1, va_up_at]; exact g2
  · rw [t2 p p1]; exact g5 p p2 p3 p4
  · rw [t29, pk_un (by omega), pk_un (by omega)]
  · by_cases hk0 : k = 0
    · rw [ln, if_pos hk0] at hi
      have : i = 0 := by omega
      subst this
      simp only [if_pos hk0, t29]
      rw [pk_un (by omega)]
      exact pk_us
    · rw [ln, if_neg hk0] at hi
      simp only [if_neg hk0, t29]
      rcases (show i = 0 ∨ i = 1 by omega) with rfl | rfl
      · rw [pk_un (by omega)]
        exact pk_us
      · exact pk_us
  · rw [t2 79 (by decide)]; exact g6.1
  · rw [t2 80 (by decide)]; exact g6.2.1
  · rw [t2 81 (by decide)]; exact g6.2.2
  · rw [t2 p (by omega)]; exact g7 p p1 p2 i hi
/-- a number -/
theorem d1_num {z : Int32} : ∃ cs : List Nat, 1 ≤ cs.length ∧ cs.length ≤ 12 ∧ (∀ c ∈ cs, c < 128 ∧ c ≠ 95) ∧ (∀ (K : cp_K) (n : Nat), DN K n → KC 8 m_V_writeNumber (fun G => [.ref (cp_b G + 6), .int z]) K (fun _ => none) (wputs K cs)) ∧
    ∀ (S : cp_S) (m s n : Nat), S.1 75 = nI m → m ≤ 100 → s < 6000 → n ≤ 100 → (S.1 74 = 0 ∨ S.1 74 = 1) → S.2 52 s = 0 → S.2 53 s = z → ∃ n' S', MC 0 m_M_drawOne [.int (nI s), .int (nI n)] S (some (.int (nI n'))) S' ∧ (n + cs.length ≤ 100 → n' = n + cs.length) ∧ (100 < n + cs.length → 100 < n') ∧ n' ≤ 112 ∧ DRO S S' s n m cs := by
  obtain ⟨cs, c1, c2, c3, c4, c5⟩ := num_ch z
  refine ⟨cs, c1, c2, c3, c4, fun S m s n h75 hm hs hn h74 h52 h53 => ?_⟩
  obtain ⟨y1, S1, g1, g2, g3, g4, g5, g6, g7, g8⟩ := d1_pre (x2 := nI n) h75 hm hs h74
  obtain ⟨n', S', a1, a2, a3, a4, a5, a6, a7, a8⟩ := c5 S1 n s (nI n) y1 hn hs (by rw [g5 52 (by decide) (by decide) (by decide)]; exact h52) (by rw [g5 53 (by decide) (by decide) (by decide)]; exact h53) g1
  refine ⟨n', S', g8 _ _ a4, a1, a2, a3, fun k h1 h2 => ?_, ?_, ⟨?_, ?_⟩, fun p p1 p2 p3 p4 => ?_, fun i hi => ?_, a8, ⟨?_, ?_, ?_⟩, fun p p1 p2 i hi => ?_⟩
  · rw [a5, cp_up_ne h1]; exact g3 k h2
  · rw [a5, cp_up_ne (by decide)]; exact g4
  · rw [a5, va_up_at]; exact g1
  · rw [a5, va_up_at]; exact g2
  · rw [a6 p p1]; exact g5 p p2 p3 p4
  · rw [a7 i hi, g5 29 (by decide) (by decide) (by decide)]
  · rw [a6 79 (by decide)]; exact g6.1
  · rw [a6 80 (by decide)]; exact g6.2.1
  · rw [a6 81 (by decide)]; exact g6.2.2
  · rw [a6 p (by omega)]; exact g7 p p1 p2 i hi
