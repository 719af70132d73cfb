/-! ===== types: the reference's loop ===== -/
section CPRG
variable {S T S1 S2 S3 : cp_S} {o : Option Value} {Sx : cp_S} {lev c i0 sp np t a a' : Nat} {start : Int32}
/-- a level stands at the part t, at the argument a -/
def LVL (S : cp_S) (lev c i0 sp t a : Nat) : Prop := S.2 65 lev = nI i0 ∧ i0 < 2720 ∧ S.2 40 i0 = nI c ∧ c < 26 ∧ S.2 33 c = nI sp ∧ S.2 66 lev = nI t ∧ S.2 67 lev = nI a ∧ sp + t < 180 ∧ a < 2720 ∧ 1 ≤ lev ∧ lev ≤ 9
/-- the level has gone on by one part and one argument -/
def STL (S S' : cp_S) (lev t a' : Nat) : Prop := S'.1 = S.1 ∧ (∀ p, p ≠ 63 → p ≠ 66 → p ≠ 67 → S'.2 p = S.2 p) ∧ (∀ x, S'.2 66 x = if x = lev then nI (t + 1) else S.2 66 x) ∧ ∀ x, S'.2 67 x = if x = lev then nI a' else S.2 67 x
theorem stl60 (h : LVL S lev c i0 sp t a) (hb : MC 1 m_M_behind [.int (nI a)] S (some (.int (nI a'))) S) {x2 : Int32} : ∃ S', STL S S' lev t a' ∧ S'.2 63 = S.2 63 ∧ JJ 3 m_M_settle none S' 60 [(1, .int (nI lev)), (2, .int x2)] S := by
  obtain ⟨h1, h2, h3, h4, h5, h6, h7, h8, h9, h10, h11⟩ := h
  have vl : vp_in (nI lev) (cp_ml 67) := vp_in_nI (show lev < 10 by omega) (by decide)
  refine ⟨(S.1, (va_up (va_up S.2 67 (upd (S.2 67) lev (nI a'))) 66 (upd (S.2 66) lev (nI (t + 1))))), ⟨rfl, fun p p1 p2 p3 => ?_, fun x => ?_, fun x => ?_⟩, ?_, b_M_settle_60 ?_⟩
  · show va_up (va_up S.2 67 (upd (S.2 67) lev (nI a'))) 66 (upd (S.2 66) lev (nI (t + 1))) p = _
    rw [cp_up_ne p2, cp_up_ne p3]
  · show va_up (va_up S.2 67 (upd (S.2 67) lev (nI a'))) 66 (upd (S.2 66) lev (nI (t + 1))) 66 x = _
    rw [va_up_at]
    by_cases hx : x = lev
    · rw [if_pos hx, hx, pk_us]
    · rw [if_neg hx, pk_un hx]
  · show va_up (va_up S.2 67 (upd (S.2 67) lev (nI a'))) 66 (upd (S.2 66) lev (nI (t + 1))) 67 x = _
    rw [cp_up_ne (by decide), va_up_at]
    by_cases hx : x = lev
    · rw [if_pos hx, hx, pk_us]
    · rw [if_neg hx, pk_un hx]
  · show va_up (va_up S.2 67 (upd (S.2 67) lev (nI a'))) 66 (upd (S.2 66) lev (nI (t + 1))) 63 = _
    rw [cp_up_ne (by decide), cp_up_ne (by decide)]
  · unfold wp_M_settle_60
    rw [nI_clamp (show lev < 2 ^ 31 by omega), h7]
    refine ⟨vl, nI a', S, hb, vl, vl, vl, rfl, ?_⟩
    rw [h6, nI_1]
theorem MC_settle_u (h : LVL S lev c i0 sp t a) (h44 : ¬ S.2 44 (sp + t) = 0) (hb : MC 1 m_M_behind [.int (nI a)] S (some (.int (nI a'))) S) : ∃ S', STL S S' lev t a' ∧ S'.2 63 = S.2 63 ∧ MC 3 m_M_settle [.int (nI lev)] S none S' := by
  obtain ⟨S', s1, s2, s3⟩ := stl60 h hb (x2 := nI (sp + t))
  obtain ⟨h1, h2, h3, h4, h5, h6, h7, h8, h9, h10, h11⟩ := h
  refine ⟨S', s1, s2, c_M_settle (b_M_settle_0 ?_)⟩
  unfold wp_M_settle_0
  rw [nI_clamp (show lev < 2 ^ 31 by omega), h1, nI_clamp (show i0 < 2 ^ 31 by omega), h3, nI_clamp (show c < 2 ^ 31 by omega), h5, h6, nI_add, nI_clamp (show sp + t < 2 ^ 31 by omega)]
  exact ⟨vp_in_nI (show lev < 10 by omega) (by decide), vp_in_nI (show i0 < 2720 by omega) (by decide), vp_in_nI (show c < 26 by omega) (by decide), vp_in_nI (show lev < 10 by omega) (by decide), vp_in_nI (show sp + t < 180 by omega) (by decide), fun _ => s3, fun hn => absurd hn h44⟩
theorem MC_settle_n {x r : Nat} (h : LVL S lev c i0 sp t a) (h44 : S.2 44 (sp + t) = 0) (h45 : S.2 45 (sp + t) = nI x) (hx : x < 26) (hv : MC 2 m_M_valueOf [.int (nI a), .int (nI 0)] S (some (.int (nI r))) S1) (hS1 : ∀ p, 57 < p → S1.2 p = S.2 p) (hlo : ∀ p, p < 52 → S1.2 p = S.2 p) (hb : MC 1 m_M_behind [.int (nI a)] (S1.1, va_up S1.2 63 (upd (S1.2 63) (26 * lev + x) (nI r))) (some (.int (nI a'))) (S1.1, va_up S1.2 63 (upd (S1.2 63) (26 * lev + x) (nI r)))) : ∃ S', STL S1 S' lev t a' ∧ (∀ y, S'.2 63 y = if y = 26 * lev + x then nI r else S.2 63 y) ∧ MC 3 m_M_settle [.int (nI lev)] S none S' := by
  have h' : LVL (S1.1, va_up S1.2 63 (upd (S1.2 63) (26 * lev + x) (nI r))) lev c i0 sp t a := by
    obtain ⟨h1, h2, h3, h4, h5, h6, h7, h8, h9, h10, h11⟩ := h
    have e : ∀ p, p ≠ 63 → (p < 52 ∨ 57 < p) → va_up S1.2 63 (upd (S1.2 63) (26 * lev + x) (nI r)) p = S.2 p := fun p p1 p2 => by
      rw [cp_up_ne p1]
      rcases p2 with q | q
      · exact hlo p q
      · exact hS1 p q
    unfold LVL
    simp only [e 65 (by decide) (by omega), e 40 (by decide) (by omega), e 33 (by decide) (by omega), e 66 (by decide) (by omega), e 67 (by decide) (by omega)]
    exact ⟨h1, h2, h3, h4, h5, h6, h7, h8, h9, h10, h11⟩
  obtain ⟨S', s1, s2, s3⟩ := stl60 h' hb (x2 := nI (sp + t))
  obtain ⟨h1, h2, h3, h4, h5, h6, h7, h8, h9, h10, h11⟩ := h
  refine ⟨S', ⟨s1.1, fun p p1 p2 p3 => (s1.2.1 p p1 p2 p3).trans (cp_up_ne p1), fun y => (s1.2.2.1 y).trans (by simp only [cp_up_ne (show (66 : Nat) ≠ 63 by decide)]), fun y => (s1.2.2.2 y).trans (by simp only [cp_up_ne (show (67 : Nat) ≠ 63 by decide)])⟩, fun y => ?_, c_M_settle (b_M_settle_0 ?_)⟩
  · rw [s2]
    show va_up S1.2 63 (upd (S1.2 63) (26 * lev + x) (nI r)) 63 y = _
    rw [va_up_at]
    by_cases hy : y = 26 * lev + x
    · rw [if_pos hy, hy, pk_us]
    · rw [if_neg hy, pk_un hy, hS1 63 (by omega)]
  unfold wp_M_settle_0
  rw [nI_clamp (show lev < 2 ^ 31 by omega), h1, nI_clamp (show i0 < 2 ^ 31 by omega), h3, nI_clamp (show c < 2 ^ 31 by omega), h5, h6, nI_add, nI_clamp (show sp + t < 2 ^ 31 by omega), h45, h7, show (26 : Int32) = nI 26 from rfl, pk_mul, nI_add, nI_clamp (show 26 * lev + x < 2 ^ 31 by omega)]
  exact ⟨vp_in_nI (show lev < 10 by omega) (by decide), vp_in_nI (show i0 < 2720 by omega) (by decide), vp_in_nI (show c < 26 by omega) (by decide), vp_in_nI (show lev < 10 by omega) (by decide), vp_in_nI (show sp + t < 180 by omega) (by decide), fun hn => absurd h44 hn, fun _ => ⟨vp_in_nI (show sp + t < 180 by omega) (by decide), vp_in_nI (show lev < 10 by omega) (by decide), nI r, S1, hv, vp_in_nI (show 26 * lev + x < 260 by omega) (by decide), s3⟩⟩
/-- suits -/
theorem MC_suits_star {rf : Nat} {y x3 : Int32} (h : LVL S lev c i0 sp t a) (h20 : S.1 20 = nI rf) (hrf : rf ≤ a) (hrf2 : a - rf < 82) (hy : S.2 42 (a - rf) = y) : MC 4 m_M_suits [.int (-2), .int (nI lev), .int x3] S (some (.int 0)) (va_up S.1 59 y, S.2) := by
  obtain ⟨h1, h2, h3, h4, h5, h6, h7, h8, h9, h10, h11⟩ := h
  refine c_M_suits (b_M_suits_0 ?_)
  unfold wp_M_suits_0
  rw [nI_clamp (show lev < 2 ^ 31 by omega), h1, nI_clamp (show i0 < 2 ^ 31 by omega), h3]
  refine ⟨vp_in_nI (show lev < 10 by omega) (by decide), vp_in_nI (show i0 < 2720 by omega) (by decide), vp_in_nI (show c < 26 by omega) (by decide), vp_in_nI (show lev < 10 by omega) (by decide), fun _ => b_M_suits_51 ?_, fun hn => absurd rfl hn⟩
  unfold wp_M_suits_51
  rw [nI_clamp (show lev < 2 ^ 31 by omega), h7, h20, pk_sub hrf, nI_clamp (show a - rf < 2 ^ 31 by omega), hy]
  exact ⟨vp_in_nI (show lev < 10 by omega) (by decide), vp_in_nI (show a - rf < 82 by omega) (by decide), rfl, rfl, rfl⟩
theorem MC_suits {rf tr ip r8 : Nat} {y x3 : Int32} {ok : Bool} (h : LVL S lev c i0 sp t a) (htr : tr < 2 ^ 31) (h46 : S.2 46 (sp + t) = nI ip) (hv : MC 2 m_M_valueOf [.int (nI ip), .int (nI lev)] S (some (.int (nI r8))) S1) (hm : MC 3 m_M_makeSame [.int (nI tr), .int (nI r8)] S1 (some (.int (if ok then 1 else 0))) S2)
    (hbad : ok = false → S2.2 67 lev = nI a ∧ S2.1 20 = nI rf ∧ rf ≤ a ∧ a - rf < 82 ∧ S2.2 42 (a - rf) = y ∧ S3 = (va_up S2.1 59 y, S2.2)) (hok : ok = true → (x3 = 0 → MC 3 m_M_settle [.int (nI lev)] S2 none S3) ∧ (x3 = 1 → lev ≤ 8 ∧ (¬ S2.1 42 = S2.2 70 (lev + 1) → MC 3 m_M_settle [.int (nI lev)] S2 none S3) ∧ (S2.1 42 = S2.2 70 (lev + 1) → MC 3 m_M_settle [.int (nI lev)] (va_up (va_up S2.1 35 (S2.2 68 (lev + 1))) 40 (S2.2 69 (lev + 1)), S2.2) none S3)) ∧ (x3 = 0 ∨ x3 = 1)) : MC 4 m_M_suits [.int (nI tr), .int (nI lev), .int x3] S (some (.int (if ok then 1 else 0))) S3 := by
  obtain ⟨h1, h2, h3, h4, h5, h6, h7, h8, h9, h10, h11⟩ := h
  have vl : vp_in (nI lev) (cp_ml 65) := vp_in_nI (show lev < 10 by omega) (by decide)
  refine c_M_suits (b_M_suits_0 ?_)
  unfold wp_M_suits_0
  rw [nI_clamp (show lev < 2 ^ 31 by omega), h1, nI_clamp (show i0 < 2 ^ 31 by omega), h3, nI_clamp (show c < 2 ^ 31 by omega), h5, h6, nI_add, nI_clamp (show sp + t < 2 ^ 31 by omega), h46, nI_1]
  refine ⟨vl, vp_in_nI (show i0 < 2720 by omega) (by decide), vp_in_nI (show c < 26 by omega) (by decide), vl, fun hn => ?_, fun _ => ⟨vp_in_nI (show sp + t < 180 by omega) (by decide), nI r8, S1, hv, _, S2, hm, fun hk => ?_, fun hk => ?_⟩⟩
  · exact absurd hn (fun e => by
      have h1 := nI_pos htr
      rw [e] at h1
      exact h1 (by decide))
  · cases ok with
    | false => exact absurd rfl hk
    | true =>
      obtain ⟨w1, w2, w3⟩ := hok rfl
      refine ⟨fun z => ⟨S3, w1 z, rfl, rfl, rfl⟩, fun z => ?_⟩
      obtain ⟨u0, u1, u2⟩ := w2 (w3.resolve_left z)
      have vl1 : vp_in (nI (lev + 1)) (cp_ml 70) := vp_in_nI (show lev + 1 < 10 by omega) (by decide)
      rw [nI_clamp (show lev + 1 < 2 ^ 31 by omega)]
      exact ⟨vl1, fun q => ⟨S3, u1 q, rfl, rfl, rfl⟩, fun q => ⟨vl1, vl1, S3, u2 q, rfl, rfl, rfl⟩⟩
  · cases ok with
    | true => exact absurd hk (by decide)
    | false =>
      obtain ⟨w1, w2, w3, w4, w5, w6⟩ := hbad rfl
      refine b_M_suits_51 ?_
      unfold wp_M_suits_51
      rw [nI_clamp (show lev < 2 ^ 31 by omega), w1, w2, pk_sub w3, nI_clamp (show a - rf < 2 ^ 31 by omega), w5]
      exact ⟨vl, vp_in_nI (show a - rf < 82 by omega) (by decide), rfl, w6, rfl⟩
/-- behind goOn -/
def AFT (start : Int32) (lev : Nat) (t0 : Int32) (o : Option Value) (Sx : cp_S) (r : Int32) (T : cp_S) : Prop := ((¬ r = (-2) → ((r < 0 → JJ 7 m_M_typeOf o Sx 82 [(1, .int start), (2, .int (nI lev)), (3, .int t0), (4, .int r)] T) ∧ (¬ r < 0 → vp_in r (cp_ml 39) ∧ ((¬ T.2 39 (Int32.toNatClampNeg r) = 5 → JJ 7 m_M_typeOf o Sx 82 [(1, .int start), (2, .int (nI lev)), (3, .int t0), (4, .int r)] T) ∧ (T.2 39 (Int32.toNatClampNeg r) = 5 → ∃ r7 T6, MC 1 m_M_begin [.int r, .int (nI lev + 1)] T (some (.int r7)) T6 ∧ ((¬ r7 = 0 → JJ 7 m_M_typeOf o Sx 170 [(1, .int start), (2, .int (nI lev + 1)), (3, .int t0), (4, .int r)] T6) ∧ (r7 = 0 → o = some (.int (-1)) ∧ Sx = T6))))))) ∧ (r = (-2) → o = some (.int (-1)) ∧ Sx = T))
/-- the level stands in goOn's loop -/
def RG (start : Int32) (lev c : Nat) (o : Option Value) (Sx S : cp_S) : Prop := ∀ t0 : Int32, ∃ r T, JJ 6 m_M_goOn (some (.int r)) T 12 [(1, .int (nI lev)), (2, .int (nI c))] S ∧ AFT start lev t0 o Sx r T
theorem rg_in (h : LVL S lev c i0 sp t a) (w : RG start lev c o Sx S) (t0 : Int32) : JJ 7 m_M_typeOf o Sx 31 [(1, .int start), (2, .int (nI lev)), (3, .int t0)] S := by
  obtain ⟨h1, h2, h3, h4, h5, h6, h7, h8, h9, h10, h11⟩ := h
  obtain ⟨r, T, w1, w2⟩ := w t0
  refine b_M_typeOf_31 ⟨fun hn => absurd hn (nI_nle (by omega) (by omega)), fun _ => ⟨r, T, c_M_goOn (b_M_goOn_0 ?_), w2⟩⟩
  unfold wp_M_goOn_0
  rw [nI_clamp (show lev < 2 ^ 31 by omega), h1, nI_clamp (show i0 < 2 ^ 31 by omega), h3]
  exact ⟨vp_in_nI (show lev < 10 by omega) (by decide), vp_in_nI (show i0 < 2720 by omega) (by decide), w1⟩
theorem rg_step (hst : ∀ r T, JJ 6 m_M_goOn r T 12 [(1, .int (nI lev)), (2, .int (nI c))] S1 → JJ 6 m_M_goOn r T 12 [(1, .int (nI lev)), (2, .int (nI c))] S) (w : RG start lev c o Sx S1) : RG start lev c o Sx S := fun t0 => by
  obtain ⟨r, T, w1, w2⟩ := w t0
  exact ⟨r, T, hst _ _ w1, w2⟩
theorem go12 {r : Option Value} (h : LVL S lev c i0 sp t a) (h34 : S.2 34 c = nI np) (ht : t < np) (w : wp_M_goOn_12 r T S (nI lev) (nI c)) : JJ 6 m_M_goOn r T 12 [(1, .int (nI lev)), (2, .int (nI c))] S := b_M_goOn_12 w
/-- a condition is met -/
theorem rg_cond (h : LVL S lev c i0 sp t a) (h34 : S.2 34 c = nI np) (hnp : np ≤ 6) (ht : t < np) (h44 : S.2 44 (sp + t) = 2) (hm : MC 5 m_M_condition [.int (nI (sp + t)), .int (nI lev)] S (some (.int 1)) T) (h66 : T.2 66 lev = nI t) (w : RG start lev c o Sx (T.1, va_up T.2 66 (upd (T.2 66) lev (nI (t + 1))))) : RG start lev c o Sx S := by
  obtain ⟨h1, h2, h3, h4, h5, h6, h7, h8, h9, h10, h11⟩ := h
  have vl : vp_in (nI lev) (cp_ml 66) := vp_in_nI (show lev < 10 by omega) (by decide)
  have vc : vp_in (nI c) (cp_ml 34) := vp_in_nI (show c < 26 by omega) (by decide)
  refine rg_step (fun r T' j => b_M_goOn_12 ?_) w
  unfold wp_M_goOn_12
  rw [nI_clamp (show lev < 2 ^ 31 by omega), nI_clamp (show c < 2 ^ 31 by omega), h34, h6, h5, nI_add, nI_clamp (show sp + t < 2 ^ 31 by omega), h44]
  refine ⟨vl, vc, fun hn => absurd hn (nI_ge (by omega) (by omega)), fun _ => ⟨vc, vl, vl, vp_in_nI (show sp + t < 180 by omega) (by decide), fun hn => absurd rfl hn, fun _ => ⟨_, T, hm, fun _ => ⟨vl, vl, b_M_goOn_154 ?_⟩, fun hn => absurd hn (by decide)⟩⟩⟩
  unfold wp_M_goOn_154
  rw [h66, nI_1]
  exact j
/-- a condition is not met -/
theorem rg_ncond {rf : Nat} {y : Int32} (h : LVL S lev c i0 sp t a) (h34 : S.2 34 c = nI np) (hnp : np ≤ 6) (ht : t < np) (h44 : S.2 44 (sp + t) = 2) (hm : MC 5 m_M_condition [.int (nI (sp + t)), .int (nI lev)] S (some (.int 0)) T) (h65 : T.2 65 lev = nI i0) (h20 : T.1 20 = nI rf) (hrf : rf ≤ i0) (hrf2 : i0 - rf < 82) (hy : T.2 42 (i0 - rf) = y) : RG start lev c (some (.int (-1))) (va_up T.1 59 y, T.2) S := by
  obtain ⟨h1, h2, h3, h4, h5, h6, h7, h8, h9, h10, h11⟩ := h
  have vl : vp_in (nI lev) (cp_ml 66) := vp_in_nI (show lev < 10 by omega) (by decide)
  have vc : vp_in (nI c) (cp_ml 34) := vp_in_nI (show c < 26 by omega) (by decide)
  intro t0
  refine ⟨-2, (va_up T.1 59 y, T.2), b_M_goOn_12 ?_, ⟨fun hn => absurd rfl hn, fun _ => ⟨rfl, rfl⟩⟩⟩
  unfold wp_M_goOn_12
  rw [nI_clamp (show lev < 2 ^ 31 by omega), nI_clamp (show c < 2 ^ 31 by omega), h34, h6, h5, nI_add, nI_clamp (show sp + t < 2 ^ 31 by omega), h44]
  refine ⟨vl, vc, fun hn => absurd hn (nI_ge (by omega) (by omega)), fun _ => ⟨vc, vl, vl, vp_in_nI (show sp + t < 180 by omega) (by decide), fun hn => absurd rfl hn, fun _ => ⟨_, T, hm, fun hn => absurd rfl hn, fun _ => ?_⟩⟩⟩
  rw [h65, h20, pk_sub hrf, nI_clamp (show i0 - rf < 2 ^ 31 by omega), hy]
  exact ⟨vl, vp_in_nI (show i0 - rf < 82 by omega) (by decide), rfl, rfl⟩
/-- a hole -/
theorem rg_hole {rf nv F : Nat} (h : LVL S lev c i0 sp t a) (h34 : S.2 34 c = nI np) (hnp : np ≤ 6) (ht : t < np) (h44 : ¬ S.2 44 (sp + t) = 2) (h39 : S.2 39 a = 4) (h20 : S.1 20 = nI rf) (hrf : rf ≤ a) (hrf2 : a - rf < 82) (h35 : S.1 35 = nI nv) (hnv : nv < 6000) (h42 : S.1 42 = nI F) (hm : MC 3 m_M_settle [.int (nI lev)] (va_up (nvl S nv 2 (-1)).1 42 (nI (F + 1)), va_up (nvl S nv 2 (-1)).2 43 (upd ((nvl S nv 2 (-1)).2 43) (a - rf) (nI nv))) none T) (w : RG start lev c o Sx T) : RG start lev c o Sx S := by
  obtain ⟨h1, h2, h3, h4, h5, h6, h7, h8, h9, h10, h11⟩ := h
  have vl : vp_in (nI lev) (cp_ml 66) := vp_in_nI (show lev < 10 by omega) (by decide)
  have vc : vp_in (nI c) (cp_ml 34) := vp_in_nI (show c < 26 by omega) (by decide)
  refine rg_step (fun r T' j => b_M_goOn_12 ?_) w
  unfold wp_M_goOn_12
  rw [nI_clamp (show lev < 2 ^ 31 by omega), nI_clamp (show c < 2 ^ 31 by omega), h34, h6, h5, nI_add, nI_clamp (show sp + t < 2 ^ 31 by omega), h7, nI_clamp (show a < 2 ^ 31 by omega), h39, h20, pk_sub hrf, nI_clamp (show a - rf < 2 ^ 31 by omega)]
  refine ⟨vl, vc, fun hn => absurd hn (nI_ge (by omega) (by omega)), fun _ => ⟨vc, vl, vl, vp_in_nI (show sp + t < 180 by omega) (by decide), fun _ => ⟨vp_in_nI (show a < 2720 by omega) (by decide), fun hn => absurd rfl hn, fun _ => ⟨nI nv, nvl S nv 2 (-1), MC_value h35 hnv, vp_in_nI (show a - rf < 82 by omega) (by decide), T, ?_, b_M_goOn_154 j⟩⟩, fun hn => absurd hn h44⟩⟩
  rw [nvl_1 (by decide), h42, nI_1]
  exact hm
/-- an argument that is no hole -/
theorem rg_arg (h : LVL S lev c i0 sp t a) (h34 : S.2 34 c = nI np) (hnp : np ≤ 6) (ht : t < np) (h44 : ¬ S.2 44 (sp + t) = 2) (h39 : ¬ S.2 39 a = 4) (w : ∀ t0, AFT start lev t0 o Sx (nI a) S) : RG start lev c o Sx S := by
  obtain ⟨h1, h2, h3, h4, h5, h6, h7, h8, h9, h10, h11⟩ := h
  have vl : vp_in (nI lev) (cp_ml 66) := vp_in_nI (show lev < 10 by omega) (by decide)
  have vc : vp_in (nI c) (cp_ml 34) := vp_in_nI (show c < 26 by omega) (by decide)
  intro t0
  refine ⟨nI a, S, b_M_goOn_12 ?_, w t0⟩
  unfold wp_M_goOn_12
  rw [nI_clamp (show lev < 2 ^ 31 by omega), nI_clamp (show c < 2 ^ 31 by omega), h34, h6, h5, nI_add, nI_clamp (show sp + t < 2 ^ 31 by omega), h7, nI_clamp (show a < 2 ^ 31 by omega)]
  exact ⟨vl, vc, fun hn => absurd hn (nI_ge (by omega) (by omega)), fun _ => ⟨vc, vl, vl, vp_in_nI (show sp + t < 180 by omega) (by decide), fun _ => ⟨vp_in_nI (show a < 2720 by omega) (by decide), fun _ => ⟨rfl, rfl⟩, fun hn => absurd hn h39⟩, fun hn => absurd hn h44⟩⟩
/-- a simple argument -/
theorem rg_simple {ts : Int32} {suit : Int32} (h : LVL S lev c i0 sp t a) (h34 : S.2 34 c = nI np) (hnp : np ≤ 6) (ht : t < np) (h44 : ¬ S.2 44 (sp + t) = 2) (h39 : ¬ S.2 39 a = 4) (h395 : ¬ S.2 39 a = 5) (hs : MC 1 m_M_simple [.int (nI a)] S (some (.int ts)) S1) (w : (ts = -1 → o = some (.int (-1)) ∧ Sx = S1) ∧ (¬ ts = -1 → MC 4 m_M_suits [.int ts, .int (nI lev), .int 0] S1 (some (.int suit)) S2 ∧ (suit = 0 → o = some (.int (-1)) ∧ Sx = S2) ∧ (¬ suit = 0 → ∀ t0, JJ 7 m_M_typeOf o Sx 31 [(1, .int start), (2, .int (nI lev)), (3, .int t0)] S2))) : RG start lev c o Sx S := by
  refine rg_arg h h34 hnp ht h44 h39 (fun t0 => ?_)
  obtain ⟨h1, h2, h3, h4, h5, h6, h7, h8, h9, h10, h11⟩ := h
  have a0 : ¬ nI a < 0 := nI_pos (by omega)
  have am : ¬ nI a = -2 := fun e => by have := nI_pos (n := a) (by omega); rw [e] at this; exact this (by decide)
  have g82 : JJ 7 m_M_typeOf o Sx 82 [(1, .int start), (2, .int (nI lev)), (3, .int t0), (4, .int (nI a))] S := by
    refine b_M_typeOf_82 ⟨fun hn => absurd hn a0, fun _ => ⟨ts, S1, hs, b_M_typeOf_138 ⟨fun hn => ⟨fun hl => absurd hl (nI_nle (by omega) (by omega)), fun _ => ⟨fun _ => ?_, fun hn => absurd (Int32.not_lt.mp a0) hn⟩⟩, fun hy => w.1 hy⟩⟩⟩
    obtain ⟨w1, w2, w3⟩ := w.2 hn
    exact ⟨suit, S2, w1, fun q => b_M_typeOf_170 (w3 q _), fun q => w2 q⟩
  refine ⟨fun _ => ⟨fun hn => absurd hn a0, fun _ => ⟨vp_in_nI (show a < 2720 by omega) (by decide), fun _ => g82, fun hn => ?_⟩⟩, fun hn => absurd hn am⟩
  rw [nI_clamp (by omega)] at hn
  exact absurd hn h395
/-- an argument that is a constant -/
theorem rg_letter {ok : Int32} (h : LVL S lev c i0 sp t a) (h34 : S.2 34 c = nI np) (hnp : np ≤ 6) (ht : t < np) (h44 : ¬ S.2 44 (sp + t) = 2) (h395 : S.2 39 a = 5) (hb : MC 1 m_M_begin [.int (nI a), .int (nI (lev + 1))] S (some (.int ok)) S1) (w : (ok = 0 → o = some (.int (-1)) ∧ Sx = S1) ∧ (¬ ok = 0 → ∀ t0, JJ 7 m_M_typeOf o Sx 31 [(1, .int start), (2, .int (nI (lev + 1))), (3, .int t0)] S1)) : RG start lev c o Sx S := by
  refine rg_arg h h34 hnp ht h44 (by rw [h395]; decide) (fun t0 => ?_)
  obtain ⟨h1, h2, h3, h4, h5, h6, h7, h8, h9, h10, h11⟩ := h
  have a0 : ¬ nI a < 0 := nI_pos (by omega)
  have am : ¬ nI a = -2 := fun e => by have := nI_pos (n := a) (by omega); rw [e] at this; exact this (by decide)
  refine ⟨fun _ => ⟨fun hn => absurd hn a0, fun _ => ⟨vp_in_nI (show a < 2720 by omega) (by decide), fun hn => ?_, fun _ => ⟨ok, S1, by rw [nI_1]; exact hb, fun q => ?_, fun q => w.1 q⟩⟩⟩, fun hn => absurd hn am⟩
  · rw [nI_clamp (by omega)] at hn
    exact absurd h395 hn
  · refine b_M_typeOf_170 ?_
    unfold wp_M_typeOf_170
    rw [nI_1]
    exact w.2 q t0
/-- the parts are done -/
theorem rg_end {lev1 : Nat} {ts : Int32} (h1 : S.2 65 lev = nI i0) (h2 : i0 < 2720) (h3 : S.2 40 i0 = nI c) (h4 : c < 26) (h6 : S.2 66 lev = nI np) (hl : lev = lev1 + 1) (h11 : lev ≤ 9) (h34 : S.2 34 c = nI np) (hnp : np ≤ 6) (hres : (S.2 35 c = -2 ∧ ts = -2 ∧ S1 = S) ∨ ∃ i r, S.2 35 c = nI i ∧ i < 2720 ∧ ts = nI r ∧ MC 2 m_M_valueOf [.int (nI i), .int (nI lev)] S (some (.int (nI r))) S1) (w : JJ 7 m_M_typeOf o Sx 138 [(1, .int start), (2, .int (nI lev1)), (3, .int ts), (4, .int (-1))] S1) : RG start lev c o Sx S := by
  have vl : vp_in (nI lev) (cp_ml 66) := vp_in_nI (show lev < 10 by omega) (by decide)
  have vc : vp_in (nI c) (cp_ml 34) := vp_in_nI (show c < 26 by omega) (by decide)
  intro t0
  refine ⟨-1, S, b_M_goOn_12 ?_, ⟨fun _ => ⟨fun _ => b_M_typeOf_82 ⟨fun _ => ?_, fun hn => absurd (by decide) hn⟩, fun hn => absurd (by decide) hn⟩, fun hn => absurd hn (by decide)⟩⟩
  · unfold wp_M_goOn_12
    rw [nI_clamp (show lev < 2 ^ 31 by omega), nI_clamp (show c < 2 ^ 31 by omega), h34, h6]
    exact ⟨vl, vc, fun _ => ⟨rfl, rfl⟩, fun hn => absurd (nI_le (by omega) (by omega)) hn⟩
  · have e1 : nI lev + (-1) = nI lev1 := by rw [hl, ← Int32.sub_eq_add_neg]; exact nI_pred _
    rw [nI_clamp (show lev < 2 ^ 31 by omega), h1, nI_clamp (show i0 < 2 ^ 31 by omega), h3, nI_clamp (show c < 2 ^ 31 by omega), e1]
    refine ⟨vl, vp_in_nI (show i0 < 2720 by omega) (by decide), vc, fun hn => ?_, fun hy => ?_⟩
    · rcases hres with q | ⟨i, r, q1, q2, q3, q4⟩
      · exact absurd q.1 hn
      · rw [q1]
        exact ⟨nI r, S1, q4, by rw [q3] at w; exact w⟩
    · rcases hres with q | ⟨i, r, q1, q2, q3, q4⟩
      · rw [q.2.1, q.2.2] at w; exact w
      · rw [q1] at hy
        exact absurd hy (fun e => by have := nI_pos (n := i) (by omega); rw [e] at this; exact this (by decide))
end CPRG
