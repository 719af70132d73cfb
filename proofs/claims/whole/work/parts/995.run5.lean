/-! ===== running: one code after another ===== -/
section CPWT
variable {ar : Nat → Nat} {hl : List Nat} {C : Nat} {K K1 K2 : cp_K} {S S1 S2 : cp_S} {ρ ρ1 ρ2 : Nat → Nat → Prop} {nv nc nv1 nc1 nv2 nc2 e e' w w1 w2 B B1 n n1 n2 c1 c2 u1 u2 : Nat}
theorem WPO.trans (h : WPO ar hl C K S ρ nv nc e w B n K1 S1 ρ1 nv1 nc1 w1 n1 c1 u1) (g : WPO ar hl C K1 S1 ρ1 nv1 nc1 e' w1 B1 n1 K2 S2 ρ2 nv2 nc2 w2 n2 c2 u2) (he : e ≤ e') (hB : B ≤ B1) (hn : n ≤ n1) : WPO ar hl C K S ρ nv nc e w B n K2 S2 ρ2 nv2 nc2 w2 n2 (c1 + c2) (u1 + u2) := by
  obtain ⟨⟨h1, h2, h3⟩, ⟨h4, h5, h6, h7, h8, h9⟩, ⟨h10, h11, h12, h13⟩, ⟨a1, a2, a3, a4, a5, a6, a7, a8⟩, h14, h15, h16⟩ := h
  obtain ⟨⟨g1, g2, g3⟩, ⟨g4, g5, g6, g7, g8, g9⟩, ⟨g10, g11, g12, g13⟩, ⟨d1, d2, d3, d4, d5, d6, d7, d8⟩, g14, g15, g16⟩ := g
  refine ⟨⟨g1, g2, fun x y q => g3 x y (h3 x y q)⟩, ⟨KU.trans h4 g4, g5, fun q hq x hx => (g6 q hq x (by omega)).trans (h6 q hq x hx), by omega, by omega, fun x hx => (g9 x (by omega)).trans (h9 x hx)⟩, ⟨g10, g11, g12, ?_⟩, ⟨by omega, d2, by omega, by omega, by omega, by omega, d7, d8⟩, h14.trans g14 he hB, fun p p1 p2 r hr => (g15 p p1 p2 r (by omega)).trans (h15 p p1 p2 r hr), fun t ht => (g16 t (by omega)).trans (h16 t ht)⟩
  rw [g13, h13, Int32.add_assoc, nI_add]
  congr 2
  omega
theorem giv_1 {s k : Nat} {x : Int32} (h1 : k ≠ 62) (h2 : k ≠ 64) : (giv S e s x).1 k = S.1 k := by unfold giv; simp only [cp_up_ne h2, cp_up_ne h1]
theorem giv_2 {s p : Nat} {x : Int32} (h1 : p ≠ 73) (h2 : p ≠ 75) : (giv S e s x).2 p = S.2 p := by unfold giv; simp only [cp_up_ne h1, cp_up_ne h2]
theorem giv_62 {s : Nat} {x : Int32} : (giv S e s x).1 62 = nI (e + 1) := by unfold giv; simp [va_up]
theorem giv_73 {s : Nat} {x : Int32} {z : Nat} : (giv S e s x).2 73 z = if z = e then nI (s + 1) else S.2 73 z := by
  unfold giv
  simp only [va_up_at]
  by_cases h : z = e
  · subst h; rw [if_pos rfl, pk_us]
  · rw [if_neg h, pk_un h]
theorem giv_75 {s : Nat} {x : Int32} {z : Nat} : (giv S e s x).2 75 z = if z = 8 * e + s then x else S.2 75 z := by
  unfold giv
  simp only [cp_up_ne (show (75 : Nat) ≠ 73 by decide), va_up_at]
  by_cases h : z = 8 * e + s
  · subst h; rw [if_pos rfl, pk_us]
  · rw [if_neg h, pk_un h]
/-- the same, when the frame e has been given something -/
theorem WPO.giv {s : Nat} {x : Int32} {K' : cp_K} {S3 : cp_S} {ρ' : Nat → Nat → Prop} {nv' nc' w' n' cc dv : Nat} (h : WPO ar hl C K S ρ nv nc (e + 1) w B n K' S3 ρ' nv' nc' w' n' cc dv) (hh : ∀ h ∈ hl, h + 3 ≤ rsz K' 7) : WPO ar hl C K S ρ nv nc e w B n K' (giv S3 e s x) ρ' nv' nc' w' n' cc dv := by
  obtain ⟨⟨h1, h2, h3⟩, k, ⟨h10, h11, h12, h13⟩, b, ⟨f1, f2, f3, f4, f5⟩, h15, h16⟩ := h
  refine ⟨⟨h1.ga hh (fun p p1 p2 => giv_2 (by omega) (by omega)), h2, h3⟩, k, ⟨?_, ?_, ?_, ?_⟩, b, ⟨fun k hk => ?_, fun p hp => ?_, fun p p1 p2 z hz => ?_, fun z hz => ?_, fun p p1 p2 z hz => ?_⟩, fun p p1 p2 r hr => ?_, fun t ht => ?_⟩
  · rw [giv_1 (by decide) (by decide)]; exact h10
  · rw [giv_1 (by decide) (by decide)]; exact h11
  · rw [giv_1 (by decide) (by decide)]; exact h12
  · rw [giv_1 (by decide) (by decide)]; exact h13
  · rw [giv_1 (fun q => hk (by rw [q]; decide)) (fun q => hk (by rw [q]; decide))]; exact f1 k hk
  · rw [giv_2 (by omega) (by omega)]; exact f2 p hp
  · by_cases hp : p = 73
    · subst hp
      rw [giv_73, if_neg (by omega)]
      exact f3 73 (by omega) (by omega) z (by omega)
    · rw [giv_2 hp (by omega)]; exact f3 p p1 p2 z (by omega)
  · rw [giv_75, if_neg (by omega)]; exact f4 z (by omega)
  · rw [giv_2 (by omega) (by omega)]; exact f5 p p1 p2 z hz
  · rw [giv_2 (by omega) (by omega)]; exact h15 p p1 p2 r hr
  · rw [giv_2 (by omega) (by omega)]; exact h16 t ht
/-- the sub-code has been worked out: the frame e stands on top again -/
theorem sub_top {i s : Nat} {y : Int32} {r : Nat} {S3 : cp_S} (hT : TOPF S e i s y) (hs : s < 8) (hF : FRB (e + 1) B S S3) (h63 : S3.1 63 = 0) : GIV (e + 1) S3 r = giv S3 e s (nI r) ∧ TOPF (giv S3 e s (nI r)) e i (s + 1) y ∧ (giv S3 e s (nI r)).2 75 (8 * e + s) = nI r ∧ ∀ t, t < s → (giv S3 e s (nI r)).2 75 (8 * e + t) = S.2 75 (8 * e + t) := by
  obtain ⟨h1, h2, h3, h4, h5, h6, h7⟩ := hT
  have e73 : S3.2 73 e = nI s := by rw [hF.2.2.1 73 (by omega) (by omega) e (by omega)]; exact h4
  have e1 : GIV (e + 1) S3 r = giv S3 e s (nI r) := by
    show giv S3 e (S3.2 73 e).toNatClampNeg (nI r) = _
    rw [e73, nI_clamp (by omega)]
  refine ⟨e1, ⟨giv_62, ?_, ?_, ?_, ?_, h6, h7⟩, ?_, fun t ht => ?_⟩
  · rw [giv_1 (by decide) (by decide)]; exact h63
  · rw [giv_2 (by decide) (by decide), hF.2.2.1 72 (by omega) (by omega) e (by omega)]; exact h3
  · rw [giv_73, if_pos rfl]
  · rw [giv_2 (by decide) (by decide), hF.2.2.1 74 (by omega) (by omega) e (by omega)]; exact h5
  · rw [giv_75, if_pos rfl]
  · rw [giv_75, if_neg (by omega)]; exact hF.2.2.2.1 _ (by omega)
/-- what the next sub-code starts from -/
theorem WPO.wst (h : WST ar hl C K S ρ nv nc e w B n) (g : WPO ar hl C K S ρ nv nc e w B n K1 S1 ρ1 nv1 nc1 w1 n1 c1 u1) (he : e < 30) (h62 : S1.1 62 = nI (e + 1)) (h63 : S1.1 63 = 0) (h70 : S1.1 70 = nI B1) (hB1 : B1 ≤ 10 + 6 * w1) (hn1 : n1 ≤ n + 14) : WST ar hl C K1 S1 ρ1 nv1 nc1 (e + 1) w1 B1 n1 := by
  obtain ⟨⟨V, hh, hA⟩, ⟨h35, h40, h61, -⟩, ⟨h23, hB⟩, b1, b2, b3, b4, b5, b6, b7, b8, b9⟩ := h
  obtain ⟨⟨g1, g2, g3⟩, ⟨g4, g5, g6, g7, g8, g9⟩, ⟨g10, g11, g12, g13⟩, ⟨d1, d2, d3, d4, d5, d6, d7, d8⟩, -⟩ := g
  exact ⟨⟨g1, fun h hm => Nat.le_trans (hh h hm) g7, g2⟩, ⟨g10, g11, g12, h62, h63, h70⟩, ⟨KU.s g4, g5⟩, d2, by omega, hB1, by omega, by omega, by omega, by omega, d7, d8⟩
end CPWT
theorem WPO.less {ar : Nat → Nat} {hl : List Nat} {C : Nat} {K K1 : cp_K} {S S1 : cp_S} {ρ ρ1 : Nat → Nat → Prop} {nv nc nv1 nc1 e w w1 B n n1 c1 u1 c2 u2 : Nat} (h : WPO ar hl C K S ρ nv nc e w B n K1 S1 ρ1 nv1 nc1 w1 n1 c1 u1) (hc : c2 ≤ c1) (hu : u2 ≤ u1) : WPO ar hl C K S ρ nv nc e w B n K1 S1 ρ1 nv1 nc1 w1 n1 c2 u2 := by
  obtain ⟨h1, ⟨h4, h5, h6, h7, h8, h9⟩, h3, ⟨a1, a2, a3, a4, a5, a6, a7, a8⟩, h14⟩ := h
  exact ⟨h1, ⟨h4, h5, h6, h7, by omega, h9⟩, h3, ⟨a1, a2, a3, by omega, a5, by omega, a7, a8⟩, h14⟩
