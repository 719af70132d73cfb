/-! ===== running: letters; movers ===== -/
theorem blw.mv {b b' : Nat → Nat → Int32} (hb : BK b b') {i m : Nat} (h : blw b i m) : blw b' i m := by
  unfold blw at h ⊢
  rw [hb 39 (by omega), hb 41 (by omega)]
  exact h
theorem SHL.mv {R R' : Nat → Nat → Prop} (hR : ∀ i j, R i j → R' i j) : ∀ (m i j : Nat), SHL R m i j → SHL R' m i j
  | 0, _, _, h => h
  | m + 1, i, j, h => by
    obtain ⟨i', h1, h2⟩ := h
    exact ⟨i', hR i i' h1, SHL.mv hR m i' j h2⟩
theorem SH.mv {b b' : Nat → Nat → Int32} (hb : BK b b') : ∀ (k i j : Nat), SH b k i j → SH b' k i j
  | 0, _, _, h => h
  | k + 1, i, j, h => by
    obtain ⟨m, h1, h2, h3⟩ := h
    exact ⟨m, h1.mv hb, h2, SHL.mv (SH.mv hb k) m _ _ h3⟩
section CPWU
variable {ar : Nat → Nat} {hl : List Nat} {C : Nat} {K K1 K2 : cp_K} {S S1 S2 : cp_S} {ρ ρ1 ρ2 : Nat → Nat → Prop} {nv nc nv1 nc1 nv2 nc2 e w w1 B n n1 n2 c1 u1 dc du : Nat}
/-- one more step of both sides, no code entered -/
theorem WPO.up (h : WPO ar hl C K S ρ nv nc e w B n K1 S1 ρ1 nv1 nc1 w1 n1 (c1 + dc) (u1 + du)) (V : VI (rat K2 7) (rsz K2 7) S2.2 nv2 nc2 ρ2 hl C) (A : AR ar (rat K2 7) ρ2) (hρ : ∀ x y, ρ1 x y → ρ2 x y) (kf : KF rs6 K1 K2) (hB : BS K2 n2) (hlo : ∀ q, q = 15 ∨ q = 17 ∨ q = 19 → ∀ x, x < n → rat K2 q x = rat K1 q x) (k7 : rsz K1 7 ≤ rsz K2 7 ∧ rsz K2 7 ≤ rsz K1 7 + 9 * du ∧ ∀ x, x < rsz K1 7 → rat K2 7 x = rat K1 7 x) (hs : S2.1 35 = nI nv2 ∧ S2.1 40 = nI nc2 ∧ S2.1 61 = S1.1 61 ∧ S2.1 60 = S1.1 60) (hn : nv1 ≤ nv2 ∧ nv2 ≤ nv1 + du ∧ nc1 ≤ nc2 ∧ nc2 ≤ nc1 + dc ∧ rsz K2 9 < 16000 ∧ rsz K2 11 < 16000) (fr : FRB e B S1 S2) (lo : ∀ p, 52 ≤ p → p ≤ 55 → ∀ r, r < nv1 → S2.2 p r = S1.2 p r) (loc : ∀ t, t < nc1 → S2.2 56 t = S1.2 56 t) : WPO ar hl C K S ρ nv nc e w B n K2 S2 ρ2 nv2 nc2 w1 n2 c1 u1 := by
  obtain ⟨⟨h1, h2, h3⟩, ⟨h4, h5, h6, h7, h8, h9⟩, ⟨h10, h11, h12, h13⟩, ⟨a1, a2, a3, a4, a5, a6, a7, a8⟩, h14, h15, h16⟩ := h
  obtain ⟨k71, k72, k73⟩ := k7
  obtain ⟨s1, s2, s3, s4⟩ := hs
  obtain ⟨m1, m2, m3, m4, m5, m6⟩ := hn
  exact ⟨⟨V, A, fun x y q => hρ x y (h3 x y q)⟩, ⟨KU.trans h4 (KU.of kf (KU.s h4) (fun q hq => hq)), hB, fun q hq x hx => (hlo q hq x hx).trans (h6 q hq x hx), by omega, by omega, fun x hx => (k73 x (by omega)).trans (h9 x hx)⟩, ⟨s1, s2, s3.trans h12, s4.trans h13⟩, ⟨a1, a2, by omega, by omega, by omega, by omega, m5, m6⟩, h14.trans fr (Nat.le_refl _) (Nat.le_refl _), fun p p1 p2 r hr => (lo p p1 p2 r (by omega)).trans (h15 p p1 p2 r hr), fun t ht => (loc t (by omega)).trans (h16 t ht)⟩
/-- only the class's bindings change -/
theorem WPO.bnd (h : WPO ar hl C K S ρ nv nc e w B n K1 S1 ρ1 nv1 nc1 w1 n1 c1 u1) (kf : KF [15, 17, 19] K1 K2) (hB : BS K2 n2) (hlo : ∀ q, q = 15 ∨ q = 17 ∨ q = 19 → ∀ x, x < n → rat K2 q x = rat K1 q x) : WPO ar hl C K S ρ nv nc e w B n K2 S1 ρ1 nv1 nc1 w1 n2 c1 u1 := by
  have e7 := kf.2.2.1 7 (by decide)
  have e9 := kf.2.2.1 9 (by decide)
  have e11 := kf.2.2.1 11 (by decide)
  refine WPO.up (dc := 0) (du := 0) h (by rw [e7.1, e7.2]; exact h.1.1) (by rw [e7.2]; exact h.1.2.1) (fun _ _ q => q) (kf.sub (by decide)) hB hlo ⟨by rw [e7.1]; exact Nat.le_refl _, by rw [e7.1]; exact Nat.le_refl _, fun x _ => by rw [e7.2]⟩ ⟨h.2.2.1.1, h.2.2.1.2.1, rfl, rfl⟩ ⟨Nat.le_refl _, Nat.le_refl _, Nat.le_refl _, Nat.le_refl _, by rw [e9.1]; exact h.2.2.2.1.2.2.2.2.2.2.1, by rw [e11.1]; exact h.2.2.2.1.2.2.2.2.2.2.2⟩ FRB.refl (fun _ _ _ _ _ => rfl) (fun _ _ => rfl)
/-- only the reference changes, not its values -/
theorem WPO.rf (h : WPO ar hl C K S ρ nv nc e w B n K1 S1 ρ1 nv1 nc1 w1 n1 c1 u1) (hh : ∀ h ∈ hl, h + 3 ≤ rsz K1 7) (fr : FRB e B S1 S2) (e5 : ∀ p, 52 ≤ p → p ≤ 56 → S2.2 p = S1.2 p) (hs : S2.1 35 = S1.1 35 ∧ S2.1 40 = S1.1 40 ∧ S2.1 61 = S1.1 61 ∧ S2.1 60 = S1.1 60) : WPO ar hl C K S ρ nv nc e w B n K1 S2 ρ1 nv1 nc1 w1 n1 c1 u1 :=
  WPO.up (dc := 0) (du := 0) h (h.1.1.ga hh e5) h.1.2.1 (fun _ _ q => q) KF.refl h.2.1.2.1 (fun _ _ _ _ => rfl) ⟨Nat.le_refl _, Nat.le_refl _, fun _ _ => rfl⟩ ⟨hs.1.trans h.2.2.1.1, hs.2.1.trans h.2.2.1.2.1, hs.2.2⟩ ⟨Nat.le_refl _, Nat.le_refl _, Nat.le_refl _, Nat.le_refl _, h.2.2.2.1.2.2.2.2.2.2⟩ fr (fun p p1 p2 r _ => by rw [e5 p p1 (by omega)]) (fun t _ => by rw [e5 56 (by omega) (by omega)])
end CPWU
section CPCL
variable {S T : cp_S} {e i s x m : Nat} {y : Int32}
theorem MC_call_e (h : TOPF S e i s y) (h41 : S.2 41 i = nI m) (hm : m ≤ 6) (hs : s < m) (hc : MC 2 m_M_child [.int (nI i), .int (nI s)] S (some (.int (nI x))) S) (mm : MC 0 m_M_enter [.int (nI x), .int y] S none T) : MC 3 m_M_call [.int (nI e), .int (nI i), .int (nI s)] S none T := by
  obtain ⟨h1, h2, h3, h4, h5, h6, h7⟩ := h
  have v39 : vp_in (nI i) (cp_ml 41) := vp_in_nI (show i < 2720 by omega) (by decide)
  refine c_M_call (b_M_call_0 ?_)
  unfold wp_M_call_0
  rw [nI_clamp (show i < 2 ^ 31 by omega), h41]
  refine ⟨v39, v39, fun hn => absurd hn (nI_ge (by omega) (by omega)), fun _ => ⟨nI x, S, hc, vp_in_nI (show e < 32 by omega) (by decide), T, ?_, rfl, rfl⟩⟩
  rw [nI_clamp (by omega), h5]
  exact mm
theorem MC_call_g {r : Int32} (h : TOPF S e i (m + 1) y) (h41 : S.2 41 i = nI m) (hm : m ≤ 6) (g : S.2 75 (8 * e + m) = r) (mm : MC 0 m_M_give [.int r] S none T) : MC 3 m_M_call [.int (nI e), .int (nI i), .int (nI (m + 1))] S none T := by
  obtain ⟨h1, h2, h3, h4, h5, h6, h7⟩ := h
  have v39 : vp_in (nI i) (cp_ml 41) := vp_in_nI (show i < 2720 by omega) (by decide)
  refine c_M_call (b_M_call_0 ?_)
  unfold wp_M_call_0
  rw [nI_clamp (show i < 2 ^ 31 by omega), h41, show (8 : Int32) = nI 8 from rfl, pk_mul, nI_add, nI_clamp (show 8 * e + m < 2 ^ 31 by omega), g]
  exact ⟨v39, v39, fun _ => ⟨fun hn => absurd hn (nI_ge (by omega) (by omega)), fun _ => ⟨vp_in_nI (show 8 * e + m < 256 by omega) (by decide), T, mm, rfl, rfl⟩⟩, fun hn => absurd (nI_le (by omega) (by omega)) hn⟩
/-- the cells of a constant -/
theorem call_cells {nc : Nat} {x2 x3 x5 x6 : Int32} (he : e < 30) (hm : m ≤ 6) (hnc : nc + m ≤ 6000) : ∀ (b t : Nat) (S : cp_S), t + b = m → S.1 40 = nI (nc + t) → ∃ T : cp_S, (∀ k, k ≠ 40 → T.1 k = S.1 k) ∧ T.1 40 = nI (nc + m) ∧ (∀ p, p ≠ 56 → T.2 p = S.2 p) ∧ (∀ z, z < nc + t → T.2 56 z = S.2 56 z) ∧ (∀ x, t ≤ x → x < m → T.2 56 (nc + x) = S.2 75 (8 * e + x)) ∧ ∀ o S', JJ 3 m_M_call o S' 98 [(1, .int (nI e)), (2, .int x2), (3, .int x3), (4, .int (nI m)), (5, .int x5), (6, .int x6), (7, .int (nI m))] T → JJ 3 m_M_call o S' 98 [(1, .int (nI e)), (2, .int x2), (3, .int x3), (4, .int (nI m)), (5, .int x5), (6, .int x6), (7, .int (nI t))] S
  | 0, t, S, ht, h40 => by
    have : t = m := by omega
    subst this
    exact ⟨S, fun _ _ => rfl, h40, fun _ _ => rfl, fun _ _ => rfl, fun x x1 x2 => by omega, fun _ _ q => q⟩
  | b + 1, t, S, ht, h40 => by
    obtain ⟨T, t1, t2, t3, t4, t5, t6⟩ := call_cells (x2 := x2) (x3 := x3) (x5 := x5) (x6 := x6) he hm hnc b (t + 1) ((va_up S.1 40 (nI (nc + t + 1))), (va_up S.2 56 (upd (S.2 56) (nc + t) (S.2 75 (8 * e + t))))) (by omega) (by simp only [va_up_at]; rfl)
    refine ⟨T, fun k hk => (t1 k hk).trans (cp_up_ne hk), t2, fun p hp => (t3 p hp).trans (cp_up_ne hp), fun z hz => ?_, fun x x1 x2 => ?_, fun o S' q => b_M_call_98 ⟨fun hn => absurd hn (nI_ge (by omega) (by omega)), fun _ => ?_⟩⟩
    · rw [t4 z (by omega)]; simp only [va_up_at]; rw [pk_un (by omega)]
    · by_cases hx : x = t
      · subst hx
        rw [t4 _ (by omega)]; simp only [va_up_at]; rw [pk_us]
      · rw [t5 x (by omega) x2]; simp only [cp_up_ne (show (75 : Nat) ≠ 56 by decide)]
    · rw [h40, show (8 : Int32) = nI 8 from rfl, pk_mul, nI_add, nI_clamp (show 8 * e + t < 2 ^ 31 by omega), nI_clamp (show nc + t < 2 ^ 31 by omega), nI_1, nI_1]
      exact ⟨vp_in_nI (show 8 * e + t < 256 by omega) (by decide), vp_in_nI (show nc + t < 6000 by omega) (by decide), t6 o S' q⟩
/-- the names of a program's parameters are bound -/
theorem call_binds {B c : Nat} {x2 x3 : Int32} {ps : List Nat} (he : e < 30) (hm : m ≤ 4) (hc : c < 26) (hB : B + m ≤ 620) (b : Nat → Nat → Int32) (hps : ∀ x (h : x < ps.length), b 37 (4 * c + x) = nI ps[x]) (hl : ps.length = m) : ∀ (k t : Nat) (S : cp_S) (z : Int32), t + k = m → S.1 70 = nI (B + t) → S.2 37 = b 37 → (t = 0 → z = -1) → (∀ t', t = t' + 1 → z = nI (B + t')) → ∃ (T : cp_S) (z' : Int32), (∀ k, k ≠ 70 → T.1 k = S.1 k) ∧ T.1 70 = nI (B + m) ∧ (∀ p, p < 76 ∨ 78 < p → T.2 p = S.2 p) ∧ (∀ p, 76 ≤ p → p ≤ 78 → ∀ x, x < B + t → T.2 p x = S.2 p x) ∧ (∀ x, t ≤ x → (h : x < ps.length) → T.2 76 (B + x) = nI ps[x] ∧ T.2 77 (B + x) = S.2 75 (8 * e + x) ∧ (∀ x', x = x' + 1 → T.2 78 (B + x) = nI (B + x'))) ∧ (∀ t', m = t' + 1 → z' = nI (B + t')) ∧ ∀ o S', JJ 3 m_M_call o S' 174 [(1, .int (nI e)), (2, .int x2), (3, .int x3), (4, .int (nI m)), (5, .int (nI c)), (6, .int z'), (7, .int (nI m))] T → JJ 3 m_M_call o S' 174 [(1, .int (nI e)), (2, .int x2), (3, .int x3), (4, .int (nI m)), (5, .int (nI c)), (6, .int z), (7, .int (nI t))] S
  | 0, t, S, z, ht, h70, h37, z0, z1 => by
    have : t = m := by omega
    subst this
    exact ⟨S, z, fun _ _ => rfl, h70, fun _ _ => rfl, fun _ _ _ _ _ => rfl, fun x x1 x2 => by omega, z1, fun _ _ q => q⟩
  | k + 1, t, S, z, ht, h70, h37, z0, z1 => by
    obtain ⟨T, z', t1, t2, t3, t4, t5, t6, t7⟩ := call_binds (x2 := x2) (x3 := x3) he hm hc hB b hps hl k (t + 1) (bnd S (B + t) (nI (ps[t]'(by omega))) (S.2 75 (8 * e + t)) z) (nI (B + t)) (by omega) rfl (by unfold bnd; simp only [cp_up_ne (show (37 : Nat) ≠ 78 by decide), cp_up_ne (show (37 : Nat) ≠ 77 by decide), cp_up_ne (show (37 : Nat) ≠ 76 by decide)]; exact h37) (fun h => by omega) (fun t' h => by rw [show t' = t by omega])
    have b76 : ∀ x, (bnd S (B + t) (nI (ps[t]'(by omega))) (S.2 75 (8 * e + t)) z).2 76 x = if x = B + t then nI (ps[t]'(by omega)) else S.2 76 x := fun x => by
      unfold bnd
      simp only [cp_up_ne (show (76 : Nat) ≠ 78 by decide), cp_up_ne (show (76 : Nat) ≠ 77 by decide), va_up_at]
      by_cases hx : x = B + t
      · rw [if_pos hx, hx, pk_us]
      · rw [if_neg hx, pk_un hx]
    have b77 : ∀ x, (bnd S (B + t) (nI (ps[t]'(by omega))) (S.2 75 (8 * e + t)) z).2 77 x = if x = B + t then S.2 75 (8 * e + t) else S.2 77 x := fun x => by
      unfold bnd
      simp only [cp_up_ne (show (77 : Nat) ≠ 78 by decide), va_up_at, cp_up_ne (show (77 : Nat) ≠ 76 by decide)]
      by_cases hx : x = B + t
      · rw [if_pos hx, hx, pk_us]
      · rw [if_neg hx, pk_un hx]
    have b78 : ∀ x, (bnd S (B + t) (nI (ps[t]'(by omega))) (S.2 75 (8 * e + t)) z).2 78 x = if x = B + t then z else S.2 78 x := fun x => by
      unfold bnd
      simp only [va_up_at, cp_up_ne (show (78 : Nat) ≠ 77 by decide), cp_up_ne (show (78 : Nat) ≠ 76 by decide)]
      by_cases hx : x = B + t
      · rw [if_pos hx, hx, pk_us]
      · rw [if_neg hx, pk_un hx]
    have blo : ∀ p, p < 76 ∨ 78 < p → (bnd S (B + t) (nI (ps[t]'(by omega))) (S.2 75 (8 * e + t)) z).2 p = S.2 p := fun p hp => by
      unfold bnd
      simp only [cp_up_ne (show p ≠ 78 by omega), cp_up_ne (show p ≠ 77 by omega), cp_up_ne (show p ≠ 76 by omega)]
    refine ⟨T, z', fun k hk => (t1 k hk).trans (by unfold bnd; exact cp_up_ne hk), t2, fun p hp => (t3 p hp).trans (blo p hp), fun p p1 p2 x hx => ?_, fun x x1 x2 => ?_, t6, fun o S' q => b_M_call_174 ⟨fun hn => absurd hn (nI_ge (by omega) (by omega)), fun _ => ?_⟩⟩
    · rw [t4 p p1 p2 x (by omega)]
      have hp : p = 76 ∨ p = 77 ∨ p = 78 := by omega
      rcases hp with rfl | rfl | rfl
      · rw [b76, if_neg (by omega)]
      · rw [b77, if_neg (by omega)]
      · rw [b78, if_neg (by omega)]
    · by_cases hx : x = t
      · subst hx
        rw [t4 76 (by omega) (by omega) _ (by omega), t4 77 (by omega) (by omega) _ (by omega), t4 78 (by omega) (by omega) _ (by omega), b76, b77, b78, if_pos rfl, if_pos rfl, if_pos rfl]
        exact ⟨rfl, rfl, fun x' h => z1 x' h⟩
      · obtain ⟨g1, g2, g3⟩ := t5 x (by omega) x2
        refine ⟨g1, g2.trans ?_, g3⟩
        rw [blo 75 (by omega)]
    · rw [show (8 : Int32) = nI 8 from rfl, show (4 : Int32) = nI 4 from rfl, pk_mul, pk_mul, nI_add, nI_add, nI_clamp (show 8 * e + t < 2 ^ 31 by omega), nI_clamp (show 4 * c + t < 2 ^ 31 by omega), nI_1, h37, hps t (by omega)]
      refine ⟨vp_in_nI (show 4 * c + t < 104 by omega) (by decide), vp_in_nI (show 8 * e + t < 256 by omega) (by decide), _, MC_bind h70 (by omega), ?_⟩
      rw [show (bnd S (B + t) (nI (ps[t]'(by omega))) (S.2 75 (8 * e + t)) z).1 70 - 1 = nI (B + t) from by
        show nI (B + t + 1) - 1 = _
        exact nI_pred _]
      exact t7 o S' q
end CPCL
