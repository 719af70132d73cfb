/-! ===== running: what both sides start from and what they leave ===== -/
abbrev LPR (x1 x2 : Int32) (o : Option Value) (S' S : cp_S) : Prop := ∀ x3 : Int32, JJ 4 m_M_runs o S' 79 [(1, .int x1), (2, .int x2), (3, .int x3)] S
/-- the frame e on top gives r -/
def GIV (e : Nat) (S : cp_S) (r : Nat) : cp_S := match e with
  | 0 => giv0 S (nI r)
  | e + 1 => giv S e (S.2 73 e).toNatClampNeg (nI r)
/-- all that lies below the frame e, and below the binding B, is as it was -/
def FRB (e B : Nat) (S S2 : cp_S) : Prop := (∀ k, k ∉ ([35, 40, 44, 60, 61, 62, 63, 64, 70] : List Nat) → S2.1 k = S.1 k) ∧ (∀ p, (p < 52 ∨ p = 57 ∨ (62 < p ∧ p < 72) ∨ 78 < p) → S2.2 p = S.2 p) ∧ (∀ p, 72 ≤ p → p ≤ 74 → ∀ x, x < e → S2.2 p x = S.2 p x) ∧ (∀ x, x < 8 * e → S2.2 75 x = S.2 75 x) ∧ ∀ p, 76 ≤ p → p ≤ 78 → ∀ x, x < B → S2.2 p x = S.2 p x
theorem FRB.refl {e B : Nat} {S : cp_S} : FRB e B S S := ⟨fun _ _ => rfl, fun _ _ => rfl, fun _ _ _ _ _ => rfl, fun _ _ => rfl, fun _ _ _ _ _ => rfl⟩
theorem FRB.trans {e B e' B' : Nat} {S S1 S2 : cp_S} (h : FRB e B S S1) (g : FRB e' B' S1 S2) (he : e ≤ e') (hB : B ≤ B') : FRB e B S S2 := by
  obtain ⟨h1, h2, h3, h4, h5⟩ := h
  obtain ⟨g1, g2, g3, g4, g5⟩ := g
  exact ⟨fun k hk => (g1 k hk).trans (h1 k hk), fun p hp => (g2 p hp).trans (h2 p hp), fun p p1 p2 x hx => (g3 p p1 p2 x (by omega)).trans (h3 p p1 p2 x hx), fun x hx => (g4 x (by omega)).trans (h4 x hx), fun p p1 p2 x hx => (g5 p p1 p2 x (by omega)).trans (h5 p p1 p2 x hx)⟩
abbrev rs6 : List Nat := [7, 9, 11, 15, 17, 19]
theorem KU.trans {K K1 K2 : cp_K} {a b : Int32} (h : KF rs6 (kI K 23 3 a) K1) (g : KF rs6 (kI K1 23 3 b) K2) : KF rs6 (kI K 23 3 b) K2 := by
  have e : (kI K1 23 3 b).2.1 = (kI K 23 3 b).2.1 := by
    rw [kI_i, kI_i, h.1, kI_i]
    funext p
    by_cases hp : p = 23
    · subst hp
      rw [va_up_at, va_up_at, va_up_at, va_up_up]
    · rw [cp_up_ne hp, cp_up_ne hp, cp_up_ne hp]
  obtain ⟨h1, h2, h3, h4, h5, h6⟩ := h
  obtain ⟨g1, g2, g3, g4, g5, g6⟩ := g
  refine ⟨g1.trans e, g2.trans h2, fun q hq => ⟨(g3 q hq).1.trans (h3 q hq).1, (g3 q hq).2.trans (h3 q hq).2⟩, Nat.le_trans h4 g4, fun p hp => (g5 p (Nat.lt_of_lt_of_le hp h4)).trans (h5 p hp), fun ho => ?_⟩
  obtain ⟨a1, a2⟩ := h6 ho
  obtain ⟨b1, b2⟩ := g6 a1
  exact ⟨b1, by
    have e1 : (kI K 23 3 b).1.1 = (kI K 23 3 a).1.1 := rfl
    have e2 : k_caps (kI K 23 3 b) = k_caps (kI K 23 3 a) := rfl
    have e3 : (kI K1 23 3 b).1.1 = K1.1.1 := rfl
    have e4 : k_caps (kI K1 23 3 b) = k_caps K1 := rfl
    omega⟩
theorem KU.of {K K' : cp_K} {a : Int32} {rs : List Nat} (h : KF rs K K') (ha : K.2.1 23 3 = a) (hs : ∀ q, q ∈ rs → q ∈ rs6) : KF rs6 (kI K 23 3 a) K' := by
  have e : (kI K 23 3 a).2.1 = K.2.1 := by
    rw [kI_i]
    funext p
    by_cases hp : p = 23
    · subst hp
      rw [va_up_at]
      funext k
      by_cases hk : k = 3
      · subst hk; rw [va_up_at]; exact ha.symm
      · rw [cp_up_ne hk]
    · rw [cp_up_ne hp]
  have h' := h.sub hs
  exact ⟨h'.1.trans e.symm, h'.2⟩
theorem KU.nd {K K' : cp_K} {a : Int32} {p c : Nat} (h : KF rs6 (kI K 23 3 a) K') (hp : nd K p c) : nd K' p c := h.nd (nd_kI hp)
theorem KU.i {K K' : cp_K} {a : Int32} (h : KF rs6 (kI K 23 3 a) K') {p k : Nat} (hp : p ≠ 23) : K'.2.1 p k = K.2.1 p k := by rw [h.1, kI_i, cp_up_ne hp]
theorem KU.s {K K' : cp_K} {a : Int32} (h : KF rs6 (kI K 23 3 a) K') : K'.2.1 23 3 = a := by rw [h.1, kI_i, va_up_at, va_up_at]
/-- what a run stands on: e frames, w steps, B bindings of the reference, n of the class -/
def WST (ar : Nat → Nat) (hl : List Nat) (C : Nat) (K : cp_K) (S : cp_S) (ρ : Nat → Nat → Prop) (nv nc e w B n : Nat) : Prop :=
  (VI (rat K 7) (rsz K 7) S.2 nv nc ρ hl C ∧ (∀ h ∈ hl, h + 3 ≤ rsz K 7) ∧ AR ar (rat K 7) ρ) ∧ (S.1 35 = nI nv ∧ S.1 40 = nI nc ∧ S.1 61 = nI w ∧ S.1 62 = nI e ∧ S.1 63 = 0 ∧ S.1 70 = nI B) ∧ (K.2.1 23 3 = nI w ∧ BS K n) ∧ (w ≤ 100 ∧ e ≤ 30 ∧ B ≤ 10 + 6 * w ∧ n + 14 * (31 - e) ≤ 10000 ∧ nv + (100 - w) < 6000 ∧ nc + (100 - w) < 6000 ∧ rsz K 7 + 9 * (101 - w) < 1048000 ∧ rsz K 9 < 16000 ∧ rsz K 11 < 16000)
/-- what has become of it -/
def WPO (ar : Nat → Nat) (hl : List Nat) (C : Nat) (K : cp_K) (S : cp_S) (ρ : Nat → Nat → Prop) (nv nc e w B n : Nat) (K' : cp_K) (S2 : cp_S) (ρ' : Nat → Nat → Prop) (nv' nc' w' n' cc dv : Nat) : Prop :=
  (VI (rat K' 7) (rsz K' 7) S2.2 nv' nc' ρ' hl C ∧ AR ar (rat K' 7) ρ' ∧ (∀ x y, ρ x y → ρ' x y)) ∧ (KF rs6 (kI K 23 3 (nI w')) K' ∧ BS K' n' ∧ (∀ q, q = 15 ∨ q = 17 ∨ q = 19 → ∀ x, x < n → rat K' q x = rat K q x) ∧ rsz K 7 ≤ rsz K' 7 ∧ rsz K' 7 + 9 * dv ≤ rsz K 7 + 9 * (w' - w) ∧ ∀ x, x < rsz K 7 → rat K' 7 x = rat K 7 x) ∧
  (S2.1 35 = nI nv' ∧ S2.1 40 = nI nc' ∧ S2.1 61 = nI w' ∧ S2.1 60 = S.1 60 + nI (w' - w)) ∧ (w ≤ w' ∧ w' ≤ 100 ∧ nv ≤ nv' ∧ nv' + dv ≤ nv + (w' - w) ∧ nc ≤ nc' ∧ nc' + cc ≤ nc + (w' - w) ∧ rsz K' 9 < 16000 ∧ rsz K' 11 < 16000) ∧ FRB e B S S2 ∧ (∀ p, 52 ≤ p → p ≤ 55 → ∀ r, r < nv → S2.2 p r = S.2 p r) ∧ ∀ t, t < nc → S2.2 56 t = S.2 56 t
section CPLP
variable {S S' T : cp_S} {o : Option Value} {x1 x2 : Int32} {e i s : Nat}
/-- the frame e is on top, at the node i, in the state s -/
def TOPF (S : cp_S) (e i s : Nat) (y : Int32) : Prop := S.1 62 = nI (e + 1) ∧ S.1 63 = 0 ∧ S.2 72 e = nI i ∧ S.2 73 e = nI s ∧ S.2 74 e = y ∧ e < 30 ∧ i < 2720
theorem lp_fail (h : S.1 63 = 1) : LPR x1 x2 (some (.int (-1))) S S := fun x3 => b_M_runs_79 ⟨fun _ => ⟨fun hn => absurd hn (by rw [h]; decide), fun _ => ⟨rfl, rfl⟩⟩, fun _ => ⟨fun _ => ⟨fun hn => absurd hn (by rw [h]; decide), fun _ => ⟨rfl, rfl⟩⟩, fun hn => absurd hn (by rw [h]; decide)⟩⟩
theorem lp_done (h : S.1 62 = nI 0) (h2 : S.1 63 = 0) : LPR x1 x2 (some (.int (S.1 64))) S S := fun x3 => b_M_runs_79 ⟨fun _ => ⟨fun _ => ⟨rfl, rfl⟩, fun hn => absurd h2 hn⟩, fun hn => absurd (by rw [h]; decide) hn⟩
theorem lp_go {y : Int32} (h : TOPF S e i s y) {c : Int32} (hop : S.2 39 i = c) (w : ∀ x3 : Int32,
    (c = 1 → ∃ r T, MC 0 m_M_meaning [.int (S.2 40 i), .int y] S (some (.int r)) S ∧ MC 0 m_M_give [.int r] S none T ∧ LPR x1 x2 o S' T) ∧
    (c = 2 → ∃ r T U, MC 0 m_M_value [.int 0, .int (S.2 40 i)] S (some (.int r)) T ∧ MC 0 m_M_give [.int r] T none U ∧ LPR x1 x2 o S' U) ∧
    (c = 5 → ∃ T, MC 3 m_M_call [.int (nI e), .int (nI i), .int (nI s)] S none T ∧ LPR x1 x2 o S' T) ∧
    (c = 6 ∨ c = 7 → ∃ T, MC 3 m_M_add [.int (nI e), .int (nI i), .int (nI s)] S none T ∧ LPR x1 x2 o S' T) ∧
    (c = 8 → ∃ T, MC 2 m_M_match [.int (nI e), .int (nI i), .int (nI s)] S none T ∧ LPR x1 x2 o S' T) ∧
    (c = 9 → ∃ T, MC 3 m_M_choose [.int (nI e), .int (nI i), .int (nI s)] S none T ∧ LPR x1 x2 o S' T) ∧
    (c = 10 → LPR x1 x2 o S' (fld S))) (hc : c = 1 ∨ c = 2 ∨ c = 5 ∨ c = 6 ∨ c = 7 ∨ c = 8 ∨ c = 9 ∨ c = 10) : LPR x1 x2 o S' S := by
  intro x3
  obtain ⟨h1, h2, h3, h4, h5, h6, h7⟩ := h
  obtain ⟨w1, w2, w5, w6, w8, w9, w10⟩ := w x3
  have v72 : vp_in (nI e) (cp_ml 72) := vp_in_nI (show e < 32 by omega) (by decide)
  have v39 : vp_in (nI i) (cp_ml 39) := vp_in_nI (show i < 2720 by omega) (by decide)
  refine b_M_runs_79 ⟨fun hn => absurd hn (by rw [h1]; exact nI_nle (by omega) (by omega)), fun _ => ⟨fun hn => absurd h2 hn, fun _ => ?_⟩⟩
  rw [h1, nI_pred, nI_clamp (show e < 2 ^ 31 by omega), h3, nI_clamp (show i < 2 ^ 31 by omega), h4, h5, hop]
  refine ⟨v72, v72, v39, ?_, ?_, ?_, ?_, ?_, ?_, ?_, ?_, ?_, ?_⟩
  · intro e1
    obtain ⟨r, T, m1, m2, m3⟩ := w1 e1
    exact ⟨v39, v72, r, S, m1, T, m2, b_M_runs_268 (m3 _)⟩
  · intro e1
    obtain ⟨r, T, U, m1, m2, m3⟩ := w2 e1
    exact ⟨v39, r, T, m1, U, m2, b_M_runs_268 (m3 _)⟩
  · intro e1; rw [e1] at hc; exact absurd hc (by decide)
  · intro e1; rw [e1] at hc; exact absurd hc (by decide)
  · intro e1
    obtain ⟨T, m1, m2⟩ := w5 e1
    exact ⟨T, m1, b_M_runs_268 (m2 _)⟩
  · intro e1
    obtain ⟨T, m1, m2⟩ := w6 (Or.inl e1)
    exact ⟨T, m1, b_M_runs_268 (m2 _)⟩
  · intro e1
    obtain ⟨T, m1, m2⟩ := w6 (Or.inr e1)
    exact ⟨T, m1, b_M_runs_268 (m2 _)⟩
  · intro e1
    obtain ⟨T, m1, m2⟩ := w8 e1
    exact ⟨T, m1, b_M_runs_268 (m2 _)⟩
  · intro e1
    obtain ⟨T, m1, m2⟩ := w9 e1
    exact ⟨T, m1, b_M_runs_268 (m2 _)⟩
  · intro hn
    have : c = 10 := by
      rcases hc with h | h | h | h | h | h | h | h
      · exact absurd h (hn 1 (by decide))
      · exact absurd h (hn 2 (by decide))
      · exact absurd h (hn 5 (by decide))
      · exact absurd h (hn 6 (by decide))
      · exact absurd h (hn 7 (by decide))
      · exact absurd h (hn 8 (by decide))
      · exact absurd h (hn 9 (by decide))
      · exact h
    exact b_M_runs_268 (w10 this _)
theorem lp_call {y : Int32} (h : TOPF S e i s y) (hop : S.2 39 i = 5) (m : MC 3 m_M_call [.int (nI e), .int (nI i), .int (nI s)] S none T) (w : LPR x1 x2 o S' T) : LPR x1 x2 o S' S := lp_go h hop (fun _ => ⟨fun hn => absurd hn (by decide), fun hn => absurd hn (by decide), fun _ => ⟨T, m, w⟩, fun hn => absurd hn (by decide), fun hn => absurd hn (by decide), fun hn => absurd hn (by decide), fun hn => absurd hn (by decide)⟩) (by decide)
theorem lp_add {y c : Int32} (h : TOPF S e i s y) (hop : S.2 39 i = c) (hc : c = 6 ∨ c = 7) (m : MC 3 m_M_add [.int (nI e), .int (nI i), .int (nI s)] S none T) (w : LPR x1 x2 o S' T) : LPR x1 x2 o S' S := by
  refine lp_go h hop (fun _ => ⟨fun hn => ?_, fun hn => ?_, fun hn => ?_, fun _ => ⟨T, m, w⟩, fun hn => ?_, fun hn => ?_, fun hn => ?_⟩) (by rcases hc with rfl | rfl <;> decide) <;> (rw [hn] at hc; exact absurd hc (by decide))
theorem lp_match {y : Int32} (h : TOPF S e i s y) (hop : S.2 39 i = 8) (m : MC 2 m_M_match [.int (nI e), .int (nI i), .int (nI s)] S none T) (w : LPR x1 x2 o S' T) : LPR x1 x2 o S' S := lp_go h hop (fun _ => ⟨fun hn => absurd hn (by decide), fun hn => absurd hn (by decide), fun hn => absurd hn (by decide), fun hn => absurd hn (by decide), fun _ => ⟨T, m, w⟩, fun hn => absurd hn (by decide), fun hn => absurd hn (by decide)⟩) (by decide)
theorem lp_choose {y : Int32} (h : TOPF S e i s y) (hop : S.2 39 i = 9) (m : MC 3 m_M_choose [.int (nI e), .int (nI i), .int (nI s)] S none T) (w : LPR x1 x2 o S' T) : LPR x1 x2 o S' S := lp_go h hop (fun _ => ⟨fun hn => absurd hn (by decide), fun hn => absurd hn (by decide), fun hn => absurd hn (by decide), fun hn => absurd hn (by decide), fun hn => absurd hn (by decide), fun _ => ⟨T, m, w⟩, fun hn => absurd hn (by decide)⟩) (by decide)
theorem lp_tilde {y : Int32} (h : TOPF S e i s y) (hop : S.2 39 i = 10) (w : LPR x1 x2 o S' (fld S)) : LPR x1 x2 o S' S := lp_go h hop (fun _ => ⟨fun hn => absurd hn (by decide), fun hn => absurd hn (by decide), fun hn => absurd hn (by decide), fun hn => absurd hn (by decide), fun hn => absurd hn (by decide), fun hn => absurd hn (by decide), fun _ => w⟩) (by decide)
theorem lp_var {y : Int32} {r : Int32} (h : TOPF S e i s y) (hop : S.2 39 i = 1) (m : MC 0 m_M_meaning [.int (S.2 40 i), .int y] S (some (.int r)) S) (g : MC 0 m_M_give [.int r] S none T) (w : LPR x1 x2 o S' T) : LPR x1 x2 o S' S := lp_go h hop (fun _ => ⟨fun _ => ⟨r, T, m, g, w⟩, fun hn => absurd hn (by decide), fun hn => absurd hn (by decide), fun hn => absurd hn (by decide), fun hn => absurd hn (by decide), fun hn => absurd hn (by decide), fun hn => absurd hn (by decide)⟩) (by decide)
theorem lp_num {y : Int32} {r : Int32} {U : cp_S} (h : TOPF S e i s y) (hop : S.2 39 i = 2) (m : MC 0 m_M_value [.int 0, .int (S.2 40 i)] S (some (.int r)) T) (g : MC 0 m_M_give [.int r] T none U) (w : LPR x1 x2 o S' U) : LPR x1 x2 o S' S := lp_go h hop (fun _ => ⟨fun hn => absurd hn (by decide), fun _ => ⟨r, T, U, m, g, w⟩, fun hn => absurd hn (by decide), fun hn => absurd hn (by decide), fun hn => absurd hn (by decide), fun hn => absurd hn (by decide), fun hn => absurd hn (by decide)⟩) (by decide)
theorem MC_GIV {r : Nat} (h : S.1 62 = nI (e + 1)) (he : e ≤ 30) (hs : ∀ e', e = e' + 1 → ∃ s, s < 8 ∧ S.2 73 e' = nI s) : MC 0 m_M_give [.int (nI r)] S none (GIV e S r) := by
  cases e with
  | zero => exact MC_give0 h
  | succ e =>
    obtain ⟨s, s1, s2⟩ := hs e rfl
    have : GIV (e + 1) S r = giv S e s (nI r) := by
      show giv S e (S.2 73 e).toNatClampNeg (nI r) = _
      rw [s2, nI_clamp (by omega)]
    rw [this]
    exact MC_give h (by omega) s2 s1
end CPLP
