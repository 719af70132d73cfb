/-! ===== types: what stays, and what has become of the values ===== -/
def KX (K K' : cp_K) : Prop := ∃ I, KF rs6 (K.1, I, K.2.2) K' ∧ (∀ p, p ≠ 23 → p ≠ 24 → I p = K.2.1 p) ∧ I 24 4 = K.2.1 24 4 ∧ I 24 5 = K.2.1 24 5
theorem KX.refl {K : cp_K} : KX K K := ⟨K.2.1, KF.refl, fun _ _ _ => rfl, rfl, rfl⟩
theorem KX.of {rs : List Nat} {K K' : cp_K} (h : KF rs K K') (hs : ∀ q, q ∈ rs → q ∈ rs6) : KX K K' := ⟨K.2.1, h.sub hs, fun _ _ _ => rfl, rfl, rfl⟩
theorem KX.i {K K' : cp_K} (h : KX K K') {p : Nat} (h1 : p ≠ 23) (h2 : p ≠ 24) : K'.2.1 p = K.2.1 p := by
  obtain ⟨I, g1, g2, -⟩ := h
  rw [g1.1]
  exact g2 p h1 h2
theorem KX.nd {K K' : cp_K} (h : KX K K') {p c : Nat} (hp : nd K p c) : nd K' p c := by
  obtain ⟨I, g1, -⟩ := h
  exact KF.nd (K := (K.1, I, K.2.2)) g1 hp
theorem KX.nk {K K' : cp_K} (h : KX K K') : NK K K' := ⟨fun q k hq => by rw [h.i (by omega) (by omega)], by obtain ⟨I, g1, -⟩ := h; exact g1.2.1, fun q c hq => h.nd hq⟩
theorem KX.trans {K K1 K2 : cp_K} (h : KX K K1) (g : KX K1 K2) : KX K K2 := by
  obtain ⟨I1, h1, h2, h3, h4⟩ := h
  obtain ⟨I2, g1, g2, g3, g4⟩ := g
  have e1 : K1.2.1 = I1 := h1.1
  refine ⟨I2, ⟨g1.1, g1.2.1.trans h1.2.1, fun q hq => ⟨(g1.2.2.1 q hq).1.trans (h1.2.2.1 q hq).1, (g1.2.2.1 q hq).2.trans (h1.2.2.1 q hq).2⟩, Nat.le_trans h1.2.2.2.1 g1.2.2.2.1, fun p hp => (g1.2.2.2.2.1 p (Nat.lt_of_lt_of_le hp h1.2.2.2.1)).trans (h1.2.2.2.2.1 p hp), fun ho => ?_⟩, fun p p1 p2 => (g2 p p1 p2).trans (by rw [e1]; exact h2 p p1 p2), g3.trans (by rw [e1]; exact h3), g4.trans (by rw [e1]; exact h4)⟩
  obtain ⟨a1, a2⟩ := h1.2.2.2.2.2 ho
  obtain ⟨b1, b2⟩ := g1.2.2.2.2.2 a1
  refine ⟨b1, ?_⟩
  have e1 : ((K.1, I2, K.2.2) : cp_K).1.1 = ((K.1, I1, K.2.2) : cp_K).1.1 := rfl
  have e2 : k_caps ((K.1, I2, K.2.2) : cp_K) = k_caps ((K.1, I1, K.2.2) : cp_K) := rfl
  have e3 : ((K1.1, I2, K1.2.2) : cp_K).1.1 = K1.1.1 := rfl
  have e4 : k_caps ((K1.1, I2, K1.2.2) : cp_K) = k_caps K1 := rfl
  omega
theorem KX.put {K : cp_K} {p k : Nat} {x : Int32} (h : p = 23 ∨ p = 24 ∧ k ≠ 4 ∧ k ≠ 5) : KX K (kI K p k x) := by
  refine ⟨(kI K p k x).2.1, KF.refl, fun q q1 q2 => ?_, ?_, ?_⟩
  · rw [kI_i, cp_up_ne (by omega)]
  · rw [kI_i]
    rcases h with rfl | ⟨rfl, h1, h2⟩
    · rw [cp_up_ne (by decide)]
    · rw [va_up_at, cp_up_ne (by omega)]
  · rw [kI_i]
    rcases h with rfl | ⟨rfl, h1, h2⟩
    · rw [cp_up_ne (by decide)]
    · rw [va_up_at, cp_up_ne (by omega)]
theorem KX.s4 {K K' : cp_K} (h : KX K K') : K'.2.1 24 4 = K.2.1 24 4 ∧ K'.2.1 24 5 = K.2.1 24 5 := by
  obtain ⟨I, g1, -, g3, g4⟩ := h
  rw [g1.1]
  exact ⟨g3, g4⟩
/-- the reference: what lies below the level is as it was -/
def SX (lev : Nat) (S S' : cp_S) : Prop := (∀ k, k ∉ ([35, 40, 42, 44, 59, 60, 61, 62, 63, 64, 70] : List Nat) → S'.1 k = S.1 k) ∧ (∀ p, ((p < 43 ∨ 43 < p ∧ p < 52) ∨ p = 64 ∨ 78 < p) → S'.2 p = S.2 p) ∧ (∀ x, x < 26 * lev → S'.2 63 x = S.2 63 x) ∧ ∀ p, 65 ≤ p → p ≤ 70 → ∀ x, x < lev → S'.2 p x = S.2 p x
theorem SX.refl {lev : Nat} {S : cp_S} : SX lev S S := ⟨fun _ _ => rfl, fun _ _ => rfl, fun _ _ => rfl, fun _ _ _ _ _ => rfl⟩
theorem SX.trans {lev lev' : Nat} {S S1 S2 : cp_S} (h : SX lev S S1) (g : SX lev' S1 S2) (hl : lev ≤ lev') : SX lev S S2 := ⟨fun k hk => (g.1 k hk).trans (h.1 k hk), fun p hp => (g.2.1 p hp).trans (h.2.1 p hp), fun x hx => (g.2.2.1 x (by omega)).trans (h.2.2.1 x hx), fun p p1 p2 x hx => (g.2.2.2 p p1 p2 x (by omega)).trans (h.2.2.2 p p1 p2 x hx)⟩
theorem SX.bk {lev : Nat} {S S' : cp_S} (h : SX lev S S') : BK S.2 S'.2 := fun p hp => h.2.1 p (Or.inl hp)
/-- the holes of the class lie apart -/
def HD4 (f : Nat → Int32) (hl : List Nat) : Prop := (∀ h ∈ hl, f h = 4) ∧ ∀ h ∈ hl, ∀ h' ∈ hl, h = h' ∨ h + 3 ≤ h' ∨ h' + 3 ≤ h
/-- from K, S to K', S': the values; n bindings stay, n' are there now -/
def TPO (ar : Nat → Nat) (rf : Nat) (pl : Nat → Nat → Prop) (lev n n' : Nat) (K : cp_K) (S : cp_S) (ρ : Nat → Nat → Prop) (nv nc : Nat) (hl : List Nat) (C F : Nat) (L : Nat → Nat → Nat → Nat → Prop) (K' : cp_K) (S' : cp_S) (ρ' : Nat → Nat → Prop) (nv' nc' : Nat) (hl' : List Nat) (C' F' : Nat) (L' : Nat → Nat → Nat → Nat → Prop) : Prop :=
  (TVS ar hl' C' K' S' ρ' nv' nc' ∧ S'.1 42 = nI F' ∧ HLS S' rf pl L' ρ' ∧ HD4 (rat K' 7) hl') ∧ ((∀ x y, ρ x y → ρ' x y) ∧ (∀ p x v r, L p x v r → L' p x v r) ∧ rsz K 7 ≤ rsz K' 7 ∧ (∀ j, j < rsz K 7 → (∀ h ∈ hl, j ≠ h + 1) → rat K' 7 j = rat K 7 j) ∧ (∀ h ∈ hl', h ∈ hl ∨ rsz K 7 ≤ h) ∧ (∀ h ∈ hl, h ∈ hl')) ∧
  (F ≤ F' ∧ C ≤ C' ∧ C' - C ≤ F' - F ∧ (F' = F → hl' = hl ∧ C' = C ∧ L' = L ∧ (∀ j, j < rsz K 7 → rat K' 7 j = rat K 7 j) ∧ (∀ p, 52 ≤ p → p ≤ 55 → ∀ r, r < nv → S'.2 p r = S.2 p r) ∧ (∀ t, t < nc → S'.2 56 t = S.2 56 t) ∧ S'.2 43 = S.2 43)) ∧
  ((K.2.1 23 4 = S.1 60 → K'.2.1 23 4 = S'.1 60) ∧ (S.1 58 = 0 ∨ S'.1 61 = S.1 61)) ∧ KX K K' ∧ SX lev S S' ∧ BS K' n' ∧ ∀ q, q = 15 ∨ q = 17 ∨ q = 19 → ∀ x, x < n → rat K' q x = rat K q x
section CPTP
variable {ar : Nat → Nat} {rf : Nat} {pl : Nat → Nat → Prop} {lev lev' n n' n2 m : Nat} {K K1 K2 : cp_K} {S S1 S2 : cp_S} {ρ ρ1 ρ2 : Nat → Nat → Prop} {nv nc nv1 nc1 nv2 nc2 : Nat} {hl hl1 hl2 : List Nat} {C C1 C2 F F1 F2 : Nat} {L L1 L2 : Nat → Nat → Nat → Nat → Prop}
theorem TPO.trans (h : TPO ar rf pl lev n n' K S ρ nv nc hl C F L K1 S1 ρ1 nv1 nc1 hl1 C1 F1 L1) (g : TPO ar rf pl lev' m n2 K1 S1 ρ1 nv1 nc1 hl1 C1 F1 L1 K2 S2 ρ2 nv2 nc2 hl2 C2 F2 L2) (hlv : lev ≤ lev') (hn : n ≤ m) (hv : F1 = F → nv ≤ nv1 ∧ nc ≤ nc1) : TPO ar rf pl lev n n2 K S ρ nv nc hl C F L K2 S2 ρ2 nv2 nc2 hl2 C2 F2 L2 := by
  obtain ⟨-, ⟨h4, h5, h6, h7, h8, h8'⟩, ⟨h9, h10, h11, h12⟩, h13, h14, h15, h16, h17⟩ := h
  obtain ⟨g0, ⟨g4, g5, g6, g7, g8, g8'⟩, ⟨g9, g10, g11, g12⟩, g13, g14, g15, g16, g17⟩ := g
  refine ⟨g0, ⟨fun x y q => g4 x y (h4 x y q), fun p x v r q => g5 p x v r (h5 p x v r q), by omega, fun j hj hq => ?_, fun x hx => ?_, fun x hx => g8' x (h8' x hx)⟩, ⟨by omega, by omega, by omega, fun e => ?_⟩, ⟨fun q => g13.1 (h13.1 q), by
    rcases h13.2 with w | w
    · exact Or.inl w
    · rcases g13.2 with w' | w'
      · exact Or.inl ((h15.1 58 (by decide)).symm.trans w')
      · exact Or.inr (w'.trans w)⟩, h14.trans g14, h15.trans g15 hlv, g16, fun q hq x hx => (g17 q hq x (by omega)).trans (h17 q hq x hx)⟩
  · rw [g7 j (by omega) (fun x hx e => ?_), h7 j hj hq]
    rcases h8 x hx with q | q
    · exact hq x q e
    · omega
  · rcases g8 x hx with q | q
    · exact h8 x q
    · exact Or.inr (by omega)
  · have e1 : F1 = F := by omega
    have e2 : F2 = F1 := by omega
    obtain ⟨a1, a2, a3, a4, a5, a6, a7⟩ := h12 e1
    obtain ⟨b1, b2, b3, b4, b5, b6, b7⟩ := g12 e2
    obtain ⟨v1, v2⟩ := hv e1
    exact ⟨b1.trans a1, b2.trans a2, b3.trans a3, fun j hj => (b4 j (by omega)).trans (a4 j hj), fun p p1 p2 r hr => (b5 p p1 p2 r (by omega)).trans (a5 p p1 p2 r hr), fun t ht => (b6 t (by omega)).trans (a6 t ht), b7.trans a7⟩
/-- the reference sets back what no filling has touched -/
theorem TPO.reset (h0 : TVS ar hl C K S ρ nv nc) (hs : HLS S rf pl L ρ) (h : TPO ar rf pl lev n n' K S ρ nv nc hl C F L K1 S1 ρ1 nv1 nc1 hl1 C1 F1 L1) (e : F1 = F) (hS : S2.2 = S1.2) (hS1 : ∀ k, k ≠ 35 → k ≠ 40 → S2.1 k = S1.1 k) (h35 : S2.1 35 = nI nv) (h40 : S2.1 40 = nI nc) : TPO ar rf pl lev n n' K S ρ nv nc hl C F L K1 S2 ρ nv nc hl C F L := by
  obtain ⟨⟨⟨⟨V1, -, -⟩, -, r9⟩, g42, hs1, hd4⟩, ⟨h4, h5, h6, h7, h8, h8'⟩, ⟨h9, h10, h11, h12⟩, h13, h14, h15, h16, h17⟩ := h
  obtain ⟨⟨V, hh, hA⟩, -⟩ := h0
  obtain ⟨a1, a2, a3, a4, a5, a6, a7⟩ := h12 e
  subst a1 a2 a3 e
  refine ⟨⟨⟨⟨V.grow hh a4 h6 V1.2.2.2.2.2.2.2 (fun p p1 p2 r hr => by rw [hS]; exact a5 p p1 p2 r hr) (fun t ht => by rw [hS]; exact a6 t ht) (Nat.le_refl _) V.2.2.2.2.2.1 (Nat.le_refl _) V.2.2.2.2.2.2.1, fun h hm => Nat.le_trans (hh h hm) h6, AR.up V hA a4⟩, ⟨h35, h40⟩, r9⟩, by rw [hS1 42 (by decide) (by decide)]; exact g42, ⟨fun p x v r q => ?_, hs1.2⟩, hd4⟩, ⟨fun _ _ q => q, fun _ _ _ _ q => q, h6, h7, fun _ q => Or.inl q, fun _ q => q⟩, ⟨Nat.le_refl _, Nat.le_refl _, by omega, fun _ => ⟨rfl, rfl, rfl, a4, fun p p1 p2 r hr => by rw [hS]; exact a5 p p1 p2 r hr, fun t ht => by rw [hS]; exact a6 t ht, by rw [hS]; exact a7⟩⟩, ⟨fun q => by rw [hS1 60 (by decide) (by decide)]; exact h13.1 q, by rw [hS1 61 (by decide) (by decide)]; exact h13.2⟩, h14, ⟨fun k hk => ?_, by rw [hS]; exact h15.2⟩, h16, h17⟩
  · obtain ⟨z1, z2, z3, z4, z5, z6, z7, z8⟩ := hs.1 p x v r q
    obtain ⟨-, -, -, -, y5, -, -, y8⟩ := hs1.1 p x v r q
    exact ⟨z1, z2, z3, z4, by rw [hS1 20 (by decide) (by decide)]; exact y5, z6, z7, by rw [hS]; exact y8⟩
  · rw [hS1 k (fun q => hk (by rw [q]; decide)) (fun q => hk (by rw [q]; decide))]
    exact h15.1 k hk
/-- values are made, no hole is filled -/
theorem TPO.ev (hs : HLS S rf pl L ρ) (hd4 : HD4 (rat K 7) hl) (hh : ∀ h ∈ hl, h + 3 ≤ rsz K 7) (h42 : S.1 42 = nI F) (st : TVS ar hl C K1 S1 ρ1 nv1 nc1) (hρ : ∀ x y, ρ x y → ρ1 x y) (kx : KX K K1) (h23 : K1.2.1 23 4 = K.2.1 23 4) (hB : BS K1 n') (hr : ∀ q, q = 15 ∨ q = 17 ∨ q = 19 → ∀ x, x < n → rat K1 q x = rat K q x) (h7 : rsz K 7 ≤ rsz K1 7) (h7' : ∀ x, x < rsz K 7 → rat K1 7 x = rat K 7 x) (s1 : ∀ k, k ∉ ([35, 40, 59] : List Nat) → S1.1 k = S.1 k) (s2 : ∀ p, ((p < 52) ∨ p = 64 ∨ 78 < p) → S1.2 p = S.2 p) (s3 : ∀ x, x < 26 * lev → S1.2 63 x = S.2 63 x) (s4 : ∀ p, 65 ≤ p → p ≤ 70 → ∀ x, x < lev → S1.2 p x = S.2 p x) (s5 : ∀ p, 52 ≤ p → p ≤ 55 → ∀ r, r < nv → S1.2 p r = S.2 p r) (s6 : ∀ t, t < nc → S1.2 56 t = S.2 56 t) : TPO ar rf pl lev n n' K S ρ nv nc hl C F L K1 S1 ρ1 nv1 nc1 hl C F L := by
  refine ⟨⟨st, by rw [s1 42 (by decide)]; exact h42, ⟨fun p x v r q => ?_, hs.2⟩, ⟨fun h hm => (h7' h (by have := hh h hm; omega)).trans (hd4.1 h hm), hd4.2⟩⟩, ⟨hρ, fun _ _ _ _ q => q, h7, fun j hj _ => h7' j hj, fun _ q => Or.inl q, fun _ q => q⟩, ⟨Nat.le_refl _, Nat.le_refl _, by omega, fun _ => ⟨rfl, rfl, rfl, h7', s5, s6, s2 43 (by omega)⟩⟩, ⟨fun q => by rw [h23, s1 60 (by decide)]; exact q, Or.inr (s1 61 (by decide))⟩, kx, ⟨fun k hk => s1 k (fun q => hk (by simp only [List.mem_cons, List.not_mem_nil, or_false] at q ⊢; omega)), fun p hp => s2 p (by omega), s3, s4⟩, hB, hr⟩
  obtain ⟨z1, z2, z3, z4, z5, z6, z7, z8⟩ := hs.1 p x v r q
  exact ⟨z1, hρ _ _ z2, z3, z4, by rw [s1 20 (by decide)]; exact z5, z6, z7, by rw [s2 43 (by omega)]; exact z8⟩
end CPTP
