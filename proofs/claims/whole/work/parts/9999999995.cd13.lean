/-! ===== reading: a program, both sides: the whole ===== -/
theorem PVI.pch {K K' : cp_K} {z : Nat} : ∀ (ps : List Nat) (q : Nat), PVI K ps q → (∀ x, q ≤ x → x < q + ps.length → nd K' x 9 ∧ K'.2.1 x 1 = K.2.1 x 1 ∧ K'.2.2.1 x 6 = (if x + 1 = q + ps.length then z else K.2.2.1 x 6)) → q + ps.length ≤ z → 1 ≤ ps.length → PCH K' ps q z
  | [], q, _, _, _, h => absurd h (by simp)
  | c :: ps, q, h, hk, hz, _ => by
    obtain ⟨h1, h2, h3, h4⟩ := h 0 (by simp)
    rw [Nat.add_zero] at h1 h3 h4
    rw [List.length_cons] at hk hz
    obtain ⟨k1, k2, k3⟩ := hk q (Nat.le_refl _) (by omega)
    refine ⟨k1, by omega, h2, by rw [k2]; exact h3, ?_⟩
    by_cases e : ps.length = 0
    · have : ps = [] := List.length_eq_zero_iff.mp e
      subst this
      show K'.2.2.1 q 6 = z
      rw [k3, if_pos (by simp)]
    · rw [k3, if_neg (by omega), h4, List.length_cons, if_neg (by omega)]
      refine PVI.pch (K := K) ps (q + 1) (fun t ht => ?_) (fun x x1 x2 => ?_) (by omega) (by omega)
      · obtain ⟨u1, u2, u3, u4⟩ := h (t + 1) (by rw [List.length_cons]; omega)
        rw [show q + (t + 1) = q + 1 + t by omega] at u1 u3 u4
        refine ⟨u1, u2, u3, ?_⟩
        rw [u4, List.length_cons]
        by_cases e2 : t + 1 = ps.length
        · rw [if_pos e2, if_pos (by omega)]
        · rw [if_neg e2, if_neg (by omega)]
      · have := hk x (by omega) (by omega)
        rw [show q + 1 + ps.length = q + (ps.length + 1) by omega]
        exact this
section CPPX
variable {tx : Nat → Nat} {n rf : Nat} {K : cp_K} {S : cp_S} {P : Nat}
abbrev XP : Int32 × Int32 × Int32 := (209, 0, 0)
def PGF (n rf : Nat) (K : cp_K) (S : cp_S) (P : Nat) : Prop := ∃ (K' : cp_K) (S' : cp_S) (p' : Nat), KC 90 m_Q_readProgram (fun G => [.ref (cp_b G + 21)]) K (fun G => some (va_rf (kr G 0))) K' ∧ K'.2.1 21 2 = nI p' ∧ p' ≤ n ∧ MC 5 m_M_read [.int 209, .int 0, .int 0] S (some (.int (nI p'))) S' ∧ KRX K.1.1 K.1.1 K K' ∧ RDF S S' rf P ∧ K'.1.1 ≤ K.1.1 + 90
def PGO (n rf : Nat) (K : cp_K) (S : cp_S) (P : Nat) : Prop := ∃ (K' : cp_K) (S' : cp_S) (n1' z : Nat) (ps : List Nat), KC 90 m_Q_readProgram (fun G => [.ref (cp_b G + 21)]) K (fun G => some (va_rf (kr G K.1.1))) K' ∧ MC 5 m_M_read [.int 209, .int 0, .int 0] S (some (.int (-1))) S' ∧ (1 ≤ ps.length ∧ ps.length ≤ 4 ∧ S'.1 34 = nI ps.length ∧ ∀ x (h : x < ps.length), S'.2 71 x = nI ps[x]) ∧ (nd K' K.1.1 9 ∧ K'.2.1 K.1.1 3 = nI (ps.length + 1) ∧ PCH K' ps (K'.2.2.1 K.1.1 4) z ∧ K'.2.2.1 K.1.1 5 = z) ∧ RCD K' S'.2 rf 12 z rf n1' (K.1.1 + 1 + ps.length) K'.1.1 ∧ KRX K.1.1 K.1.1 K K' ∧ RDF S S' rf P ∧ S'.1 16 = nI n1' ∧ PLI S' rf n1' n ∧ n1' - rf ≤ n ∧ K'.1.1 ≤ K.1.1 + 90
theorem RDF.ofg {S S1 S' : cp_S} {x w y : Int32} {rf P len i0 : Nat} (h16 : S.1 16 = nI rf) (h : RFG (iniS S x w y) S1) (g : RFX rf rf len i0 S1 S') (hi0 : rf ≤ i0) : RDF S S' rf P := by
  refine ⟨fun k hk => ?_, fun q hq q71 => ?_, fun q q1 q2 z hz => ?_, ⟨?_, ?_⟩, fun q q1 q2 z hz => ?_⟩
  · simp only [List.mem_cons, List.not_mem_nil, or_false, not_or] at hk
    rw [g.1 k hk.2.1 hk.2.2.2.1, h.1 k hk.2.2.2.1 hk.2.2.2.2.2]
    exact ini_1 (by simp only [List.mem_cons, List.not_mem_nil, or_false, not_or]; exact ⟨hk.1, hk.2.2.1, hk.2.2.2.1, hk.2.2.2.2.1⟩)
  · rw [g.2.1 q (by omega), h.2 q (by omega) q71, ini_2 (by omega)]
  · rw [g.2.2.1 q q1 q2 z hz (Or.inl (by omega)), h.2 q (by omega) (by omega), ini_2 (by omega)]
  · rw [g.1 1 (by decide) (by decide), h.1 1 (by decide) (by decide)]; exact ini_1'
  · rw [g.1 20 (by decide) (by decide), h.1 20 (by decide) (by decide)]; exact (ini_ps h16).2.2.2
  · rw [g.2.1 q (by omega), h.2 q (by omega) (by omega), ini_2 (by omega)]
/-- a program -/
theorem read_prog_m (h : RIN tx n rf K S) : PGF n rf K S P ∨ PGO n rf K S P := by
  have rj : RJ tx n rf K (iniS S 209 0 0) [(209, 0, 0)] 0 rf := h.rj
  obtain ⟨⟨h1, h2, h3, h4⟩, ⟨h5, h6, h7, h8⟩, h9⟩ := id h
  have ps := rj.2.1
  have k0 : KRX K.1.1 K.1.1 K (nn K 17 0 0) := KRX_nn h4 (Nat.le_refl _) (Nat.le_refl _)
  have n0 : (nn K 17 0 0).1.1 = K.1.1 + 1 := nn_n
  have nd0 : nd (nn K 17 0 0) K.1.1 9 := nn_nd h4
  have wr : ∀ g, (nn K 17 0 0).2.2.1 K.1.1 g = 0 := fun g => nn_rn
  have i3 : (nn K 17 0 0).2.1 K.1.1 3 = 0 := nn_new.2.2.2
  have i21 : (nn K 17 0 0).2.1 21 = K.2.1 21 := nn_i (by omega)
  obtain ⟨K0, hK0⟩ : ∃ K0 : cp_K, K0 = nn K 17 0 0 := ⟨_, rfl⟩
  rw [← hK0] at k0 n0 nd0 wr i3 i21
  have rj0 : RJ tx n rf K0 (iniS S 209 0 0) [(209, 0, 0)] 0 rf := rj.mvz k0 rfl ps (by rw [i21]; exact h1) (Nat.zero_le _) ⟨Nat.le_refl _, by omega⟩ (rj.2.2.2.2.eq (fun _ _ => rfl) (Nat.le_refl _)) (by omega)
  have rd0 : ∀ r Sx, RD XP n r Sx 0 (iniS S 209 0 0) → MC 5 m_M_read [.int 209, .int 0, .int 0] S r Sx := fun r Sx w => ini_read h5 h6 w
  have kc : ∀ (r4 : Int32) (T2 : cp_K) (r : Nat) (K' : cp_K), JC 8 m_Q_readVariables (fun _ => .inl (some (.int r4))) T2 3 (LV K.1.1 4 61 1) (fun _ => []) K0 → (r4 = 0 → r = 0 ∧ K' = T2) → (¬ r4 = 0 → ∃ r7, KC 83 m_Q_withPiece (fun G => [.ref (cp_b G + 21), va_rf (kr G K.1.1), .int 3, .int 1]) T2 (fun G => some (va_rf (kr G r7))) K' ∧ r = (if K'.2.1 21 2 = K'.2.1 21 1 then r7 else 0)) → KC 90 m_Q_readProgram (fun G => [.ref (cp_b G + 21)]) K (fun G => some (va_rf (kr G r))) K' := fun r4 T2 r K' u1 u2 u3 => by
    have v : KC 8 m_Q_readVariables (fun G => [.ref (cp_b G + 21), va_rf (kr G K.1.1), .int 4, .int 61]) K0 (fun _ => some (.int r4)) T2 := c_Q_readVariables (D := 0) u1
    rw [hK0] at v
    refine (c_Q_readProgram (D := 82) ⟨r4, T2, v.mono (by omega), fun q => ?_, fun q => ?_⟩).mono (by omega)
    · obtain ⟨r7, w1, w2⟩ := u3 q
      exact ⟨r7, K', w1.mono (by omega), by rw [w2], rfl⟩
    · obtain ⟨e1, e2⟩ := u2 q
      rw [e1, e2]; exact ⟨rfl, rfl⟩
  rcases pml_0 (X := XP) (tx := tx) (n := n) (rf := rf) K0 (iniS S 209 0 0) 0 K.1.1 K0.1.1 rj0 ⟨nd0, i3⟩ (Or.inl ⟨wr 5, rfl⟩) ⟨fun _ => wr 5, fun _ => rfl⟩ (fun h => absurd h (by omega)) with ⟨K', S', p', g1, g2, g3, g4, g5, g6, g7⟩ | ⟨K1, S1, p1, vs, g1, g2, g3, g4, g5, ⟨g6, g7, g8, g9⟩, ⟨g9a, -⟩, ⟨g10, -⟩, g14, g11, g12, g13⟩
  · exact Or.inl ⟨K', S', p', kc 0 K' 0 K' g1 (fun _ => ⟨rfl, rfl⟩) (fun q => absurd rfl q), g2, g3.2, rd0 _ _ g4, k0.trans g5 (Or.inl rfl) (Or.inr (by omega)), RDF.ofg h6 g6 (RFX.refl (n1 := rf) (len := 0) (i0 := rf)) (Nat.le_refl _), by omega⟩
  rw [Nat.zero_add] at g7 g8 g9
  have g10' := g10 rfl
  have g9' : ∀ x (h : x < vs.length), S1.2 71 x = nI vs[x] := fun x h => by have := g9a x h; rw [Nat.zero_add] at this; exact this
  have k1le := g11.1
  have b6 := g3.2.2.1.2.1
  have k01 : KRX K.1.1 K.1.1 K K1 := k0.trans g11 (Or.inl rfl) (Or.inr (by omega))
  obtain ⟨ql, hql⟩ : ∃ ql, ql = K1.2.2.1 K.1.1 5 := ⟨_, rfl⟩
  have nql : nd K1 ql 9 := by
    have := (g4 (vs.length - 1) (by omega)).1
    rw [show K0.1.1 + (vs.length - 1) = ql by omega] at this
    exact this
  have qlge : K.1.1 < ql := by omega
  rcases codeAt (X := XP) (q0 := K.1.1) (ql := ql) (cj_all 11) (by omega) (by omega) g3 JPK.nil (by simp) (g11.nd nd0) (Or.inr ⟨hql.symm, by omega, nql⟩) with ⟨K', S', p', a1, a2, a3, a4, a5, a6, a7⟩ | ⟨K2, S2, p2, n12, jk, z, a1, a2, a3, a4, a5, a6, ⟨a7, a8, -, a9⟩, a10, a11, a12, a13⟩
  · exact Or.inl ⟨K', S', p', kc 1 K1 0 K' g1 (fun q => absurd q (by decide)) (fun _ => ⟨0, a1.mono (by omega), by simp⟩), a2, a3.2, rd0 _ _ (g2 _ _ a4), k01.trans a5 (Or.inr (by omega)) (Or.inr (by omega)), RDF.ofg h6 g12 a6 (Nat.le_refl _), by omega⟩
  obtain ⟨⟨b1, b2, b3, b4⟩, ps2, ⟨b5, b6', b7, b8, b9⟩, b10, b11⟩ := id a3
  rw [List.append_nil] at a3 ps2
  have jl := a4.1
  have lt := RCD.lt _ _ _ _ _ _ a5
  have kle := a10.1
  have kx : KRX K.1.1 K.1.1 K K2 := k01.trans a10 (Or.inl rfl) (Or.inr (by omega))
  have kc2 : KC 90 m_Q_readProgram (fun G => [.ref (cp_b G + 21)]) K (fun G => some (va_rf (kr G (if p2 = n then K.1.1 else 0)))) K2 := kc 1 K1 _ K2 g1 (fun q => absurd q (by decide)) (fun _ => ⟨K.1.1, a1.mono (by omega), by
    rw [b1, b2]
    by_cases e : p2 = n
    · rw [if_pos e, if_pos (by rw [e])]
    · rw [if_neg e, if_neg (fun h => e ((nI_eq (by omega) (by omega)).mp h))]⟩)
  by_cases hpe : p2 = n
  · rw [if_pos hpe] at kc2
    obtain ⟨e4, e6⟩ := a9 (by rw [← hql]; omega)
    refine Or.inr ⟨K2, S2, n12, z, vs, kc2, rd0 _ _ (g2 _ _ (a2 _ _ (by rw [hpe]; exact rd_end_ok ps2 (by omega) h7 (fun i hi => (a4.2 i hi).1)))), ⟨g6, g7, ?_, fun x hx => ?_⟩, ⟨a10.nd (g11.nd nd0), by rw [a7, g8, nI_1], ?_, a8⟩, ?_, kx, RDF.ofg h6 g12 a11 (Nat.le_refl _), ps2.2.2.1, by rw [← hpe]; exact b11, by omega, by omega⟩
    · rw [a11.1 34 (by decide) (by decide)]; exact g9
    · rw [a11.2.1 71 (by omega)]; exact g9' x hx
    · rw [e4, g10']
      refine PVI.pch (K := K1) vs K0.1.1 g4 (fun x x1 x2 => ⟨?_, ?_, ?_⟩) (by omega) g6
      · have := (g4 (x - K0.1.1) (by omega)).1
        rw [show K0.1.1 + (x - K0.1.1) = x by omega] at this
        exact a10.nd this
      · exact a10.2.2.2.1 x (by omega) (by omega) 1 (Or.inl (by omega))
      · by_cases e : x + 1 = K0.1.1 + vs.length
        · rw [if_pos e, show x = ql by omega]; exact e6
        · rw [if_neg e]; exact a10.2.2.2.2.2.1 x (by omega) 6 (Or.inl (by omega)) (Or.inl (by omega))
    · rw [show K1.1.1 = K.1.1 + 1 + vs.length by omega] at a5; exact a5
  · rw [if_neg hpe] at kc2
    have hp1 : p2 < n := by omega
    obtain ⟨U, u1, u2⟩ := tk_jk0 (c := nI (tx p2)) (p := nI p2) jk S2 ps2 (by omega) (fun j hj => (a4.2 j hj).2 hp1)
    exact Or.inl ⟨K2, U, p2, kc2, b1, by omega, rd0 _ _ (g2 _ _ (a2 _ _ (rd_step hp1 b5 (b10 p2 hp1).2.2 u2 (fun q => absurd rfl q) (fun _ => ⟨rfl, rfl⟩)))), kx, RDF.ofg h6 g12 (a11.trans u1.rfx (Nat.le_refl _) (Nat.le_refl _) (Or.inl rfl)) (Nat.le_refl _), by omega⟩
end CPPX
