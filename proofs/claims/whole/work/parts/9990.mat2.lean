/-! ===== running: { }, the case is found, its variables are bound ===== -/
def zf (y : Int32) (B : Nat) : Nat → Int32
  | 0 => y
  | d + 1 => nI (B + d)
section CPMB
variable {ar : Nat → Nat} {sc : Nat → Prop} {p e frame p4 i : Nat} {y : Int32}
abbrev LB (p e frame p4 u q : Nat) : cp_G → List (Nat × Value) := fun G => [(0, .ref (cp_b G + 23)), (1, va_rf (kr G p)), (2, .int (nI (e + 1))), (3, .int (nI frame)), (4, va_rf (kr G p4)), (5, .int (nI u)), (6, va_rf (kr G q))]
/-- both sides go through the cases -/
theorem cases_go {D k mc u s j : Nat} {K : cp_K} {S : cp_S} {ρ : Nat → Nat → Prop} {nv nc C : Nat} {hl : List Nat} (V : VI (rat K 7) (rsz K 7) S.2 nv nc ρ hl C) (h : ρ u s) (n4 : ¬ rat K 7 u = 4) (h41 : S.2 41 i = nI mc) (hmc : mc ≤ 5) (hi : i < 2720) (hj : j ≤ 2720) : ∀ (b t q it : Nat), t + b = mc → CSE (CR K S.2 ar k) K S.2 ar sc b q it j →
    ((JC (D + 8) m_U_match (fun _ => .inl (some (.int (-1)))) K 50 (LB p e frame p4 u q) (fun _ => []) K) ∧ JJ 2 m_M_match none (fld S) 74 (LM e i s y it t) S) ∨
    (∃ q' ip vs t' j2, nd K q' 9 ∧ nd K (K.2.2.1 q' 4) 9 ∧ PTN K S.2 ar (K.2.2.1 q' 4) ip vs ∧ ip < 2720 ∧ CR K S.2 ar k (fun c => sc c ∨ c ∈ vs) (K.2.2.1 q' 5) (ip + 1 + vs.length) j2 ∧ j2 ≤ 2720 ∧ FIT S.2 s ip ∧ (∀ o Kx, JC (D + 8) m_U_match o Kx 50 (LB p e frame p4 u q') (fun _ => []) K → JC (D + 8) m_U_match o Kx 50 (LB p e frame p4 u q) (fun _ => []) K) ∧ ∀ o S', JJ 2 m_M_match o S' 210 (LM e i s y ip t' ++ [(8, .int (nI (ip + 1 + vs.length))), (9, .int 1), (10, .int (nI 0))]) S → JJ 2 m_M_match o S' 74 (LM e i s y it t) S)
  | 0, t, q, it, ht, hc => by
    obtain ⟨rfl, rfl⟩ := hc
    have : t = mc := by omega
    subst this
    refine Or.inl ⟨b_U_match_50 ⟨fun _ => ⟨rfl, rfl⟩, fun hn => absurd rfl hn⟩, b_M_match_74 ?_⟩
    unfold wp_M_match_74
    rw [nI_clamp (show i < 2 ^ 31 by omega), h41]
    exact ⟨vp_in_nI (show i < 2720 by omega) (by decide), fun _ => ⟨rfl, rfl⟩, fun hn => absurd (nI_le (by omega) (by omega)) hn⟩
  | b + 1, t, q, it, ht, hc => by
    have hle := SHL_le (SH_lt _) _ _ _ (CSE_SHL (fun sc q i j => CR.sh k sc q i j) _ _ _ _ hc)
    obtain ⟨n1, n2, vs, i2, pt, cr, hc'⟩ := hc
    have hle2 := SHL_le (SH_lt _) _ _ _ (CSE_SHL (fun sc q i j => CR.sh k sc q i j) _ _ _ _ hc')
    have hlt := SH_lt _ _ _ (CR.sh _ _ _ _ _ cr)
    have q0 : ¬ q = 0 := by have := n1.1; omega
    have h52 : ¬ S.2 52 s = 2 := fun q => n4 ((V.h4 h).mpr q)
    have hs6 : s < 6000 := by have := (V.1.1 u s h).2.1; have := V.2.2.2.2.2.1; omega
    have hop : S.2 39 it = 11 ∨ S.2 39 it = 12 ∨ S.2 39 it = 13 := by
      rcases pt.2.2.2 with z | z | z
      · exact Or.inl z.2.1
      · exact Or.inr (Or.inl z.2.1)
      · exact Or.inr (Or.inr z.2.1)
    have hb : MC 1 m_M_behind [.int (nI it)] S (some (.int (nI (it + 1 + vs.length)))) S := MC_behind (pt.sh (k := 0)) (by omega)
    have hb2 : MC 1 m_M_behind [.int (nI (it + 1 + vs.length))] S (some (.int (nI i2))) S := MC_behind (CR.sh _ _ _ _ _ cr) (by omega)
    have go := fun (o : Option Value) (S' : cp_S) => cs_go (e := e) (y := y) (o := o) (S' := S') h41 hmc hi (show t < mc by omega) hs6 h52 (show it < 2720 by omega) hop hb
    have iff := fit_iff V rfl rfl h n4 pt
    by_cases hf : FIT S.2 s it
    · exact Or.inr ⟨q, it, vs, t, i2, n1, n2, pt, by omega, cr, by omega, hf, fun _ _ z => z, fun o S' z => (go o S').1 hf z⟩
    · have hu : ufit K (K.2.2.1 q 4) (nI u) = 0 := Classical.byContradiction (fun hn => hf (iff.mp hn))
      have cl : ∀ o Kx, JC (D + 8) m_U_match o Kx 50 (LB p e frame p4 u (K.2.2.1 q 6)) (fun _ => []) K → JC (D + 8) m_U_match o Kx 50 (LB p e frame p4 u q) (fun _ => []) K := fun o Kx z => b_U_match_50 ⟨fun hn => absurd hn q0, fun _ => ⟨n1, n2, fun _ => z, fun hn => absurd hu hn⟩⟩
      rcases cases_go V h n4 h41 hmc hi hj b (t + 1) (K.2.2.1 q 6) i2 (by omega) hc' with ⟨d1, d2⟩ | ⟨q', ip, vs', t', j2, d1, d2, d3, d4, d5, d6, d7, d8, d9⟩
      · exact Or.inl ⟨cl _ _ d1, (go _ _).2 hf i2 hb2 d2⟩
      · exact Or.inr ⟨q', ip, vs', t', j2, d1, d2, d3, d4, d5, d6, d7, fun o Kx z => cl o Kx (d8 o Kx z), fun o S' z => (go o S').2 hf i2 hb2 (d9 o S' z)⟩
/-- the class binds a pattern's variables -/
theorem bv_loop {D p1 N u : Nat} {f : Nat → Int32} {b : Nat → Nat → Int32} : ∀ (vs : List Nat) (q x ix n : Nat) (K : cp_K), VCH K b vs q ix → BS K n → n + vs.length ≤ 16000 → rat K 7 = f → rsz K 7 = N → N < 2 ^ 30 → (0 < vs.length → u + 3 + x + vs.length ≤ N) → ∃ K', KF [15, 17, 19] K K' ∧ BS K' (n + vs.length) ∧ (∀ q, q = 15 ∨ q = 17 ∨ q = 19 → ∀ z, z < n → rat K' q z = rat K q z) ∧ (∀ z (h : z < vs.length), rat K' 15 (n + z) = nI (97 + vs[z]) ∧ rat K' 17 (n + z) = f (u + 3 + x + z)) ∧ JC (D + 8) m_U_bindVariables (fun _ => .inl none) K' 8 (fun G => [(0, .ref (cp_b G + 23)), (1, va_rf (kr G p1)), (2, .int (nI u)), (3, .int (nI x)), (4, va_rf (kr G q))]) (fun _ => []) K
  | [], q, x, ix, n, K, hq, hB, hn, e1, e2, hN, hu => by
    have e : q = 0 := hq
    subst e
    exact ⟨K, KF.refl, hB, fun _ _ _ _ => rfl, fun z h => (by cases h), b_U_bindVariables_8 ⟨fun _ => ⟨rfl, rfl⟩, fun hn => absurd rfl hn⟩⟩
  | c :: l, q, x, ix, n, K, hq, hB, hn, e1, e2, hN, hu => by
    obtain ⟨h1, h2, h3, h4, h5, h6⟩ := hq
    rw [List.length_cons] at hn hu
    have kf : KF [15, 17, 19] K (bpush K (nI (97 + c)) (f (u + 3 + x)) (-1)) := KF.bpush
    have e7 := kf.2.2.1 7 (by decide)
    have nk := kf.nk
    have gt : rget K 7 (nI u + 3 + nI x) = f (u + 3 + x) := by
      rw [show (3 : Int32) = nI 3 from rfl, nI_add, nI_add, rget_of (by have := hu (by omega); omega) (by omega), e1]
    have hB1 : BS (bpush K (nI (97 + c)) (f (u + 3 + x)) (-1)) (n + 1) := hB.push
    obtain ⟨K', g1, g2, g3, g4, g5⟩ := bv_loop (D := D) (p1 := p1) (u := u) (f := f) (b := b) l (K.2.2.1 q 6) (x + 1) (ix + 1) (n + 1) _ (VCH.mv nk (fun _ _ => rfl) l _ _ h6) hB1 (by omega) (e7.2.trans e1) (e7.1.trans e2) hN (fun _ => by have := hu (by omega); omega)
    have b15 := hB.1
    have b17 := hB.2.1
    have b19 := hB.2.2
    refine ⟨K', kf.trans g1, by rw [List.length_cons, show n + (l.length + 1) = n + 1 + l.length by omega]; exact g2, fun q hq z hz => ?_, fun z hz => ?_, b_U_bindVariables_8 ⟨fun hn => absurd hn (by have := h1.1; omega), fun _ => ⟨h1, ⟨by rw [b15]; show n < 16384; omega, by rw [b17]; show n < 16384; omega, by rw [b19]; show n < 16384; omega⟩, ?_⟩⟩⟩
    · rw [g3 q hq z (by omega)]
      rcases hq with rfl | rfl | rfl
      · rw [bpush_at15, cp_up_ne (by omega)]
      · rw [bpush_at17, cp_up_ne (by omega)]
      · rw [bpush_at19, cp_up_ne (by omega)]
    · cases z with
      | zero =>
        rw [Nat.add_zero, g3 15 (by omega) n (by omega), g3 17 (by omega) n (by omega), bpush_at15, bpush_at17, b15, b17, va_up_at, va_up_at]
        exact ⟨rfl, rfl⟩
      | succ z =>
        have := g4 z (by rw [List.length_cons] at hz; omega)
        rw [show n + (z + 1) = n + 1 + z by omega, show u + 3 + x + (z + 1) = u + 3 + (x + 1) + z by omega]
        exact this
    · rw [h3, gt, nI_1, nk.2.1]
      exact g5
/-- the reference binds a pattern's variables -/
theorem VCH_at {K : cp_K} {b : Nat → Nat → Int32} : ∀ (vs : List Nat) (q x : Nat), VCH K b vs q x → ∀ z (h : z < vs.length), vs[z] < 26 ∧ b 40 (x + z) = nI vs[z]
  | [], _, _, _, z, h => by cases h
  | c :: l, q, x, hq, z, h => by
    obtain ⟨h1, h2, h3, h4, h5, h6⟩ := hq
    cases z with
    | zero => exact ⟨h2, h4⟩
    | succ z =>
      have := VCH_at l _ _ h6 z (by rw [List.length_cons] at h; omega)
      rw [show x + (z + 1) = x + 1 + z by omega]
      exact this
end CPMB
