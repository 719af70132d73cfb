/-! ===== reading: the terms of a run ===== -/
section CPR9
variable {K : cp_K} {x y z : Int32} {q : Nat}
/-- a new node -/
abbrev nn (K : cp_K) (s y l : Int32) : cp_K := ninit (kN K 9) K.1.1 s y l
theorem nn_n : (nn K x y z).1.1 = K.1.1 + 1 := rfl
theorem nn_t (h : q < K.1.1) : (nn K x y z).1.2 q = K.1.2 q := by
  show va_up K.1.2 K.1.1 9 q = _
  rw [cp_up_ne (by omega)]
theorem nn_ts : (nn K x y z).1.2 K.1.1 = 9 := by
  show va_up K.1.2 K.1.1 9 K.1.1 = _
  rw [va_up_at]
theorem nn_i (h2 : q ≠ K.1.1) : (nn K x y z).2.1 q = K.2.1 q := by
  unfold nn ninit kN kI kP
  simp only [cp_up_ne h2]
theorem nn_new : (nn K x y z).2.1 K.1.1 0 = x ∧ (nn K x y z).2.1 K.1.1 1 = y ∧ (nn K x y z).2.1 K.1.1 2 = z ∧ (nn K x y z).2.1 K.1.1 3 = 0 := by
  unfold nn ninit kN kI kP
  simp only [va_up_at]
  refine ⟨?_, ?_, ?_, ?_⟩ <;> simp [va_up]
theorem nn_r (h2 : q ≠ K.1.1) : (nn K x y z).2.2.1 q = K.2.2.1 q := by
  unfold nn ninit kN kI kP
  simp only [cp_up_ne h2]
theorem nn_rn {f : Nat} : (nn K x y z).2.2.1 K.1.1 f = 0 := by
  unfold nn ninit kN kI kP
  simp [va_up]
theorem KRX_nn (h86 : 86 ≤ K.1.1) {q0 ql : Nat} (h0 : K.1.1 ≤ q0) (hl : K.1.1 ≤ ql) : KRX q0 ql K (nn K x y z) := ⟨by rw [nn_n]; omega, fun w hw => nn_t hw, fun w w1 w2 => by rw [nn_n] at w2; rw [show w = K.1.1 by omega]; exact nn_ts, fun w hw h21 f _ => by rw [nn_i (by omega)], fun f hf => by rw [nn_i (by omega)], fun w hw f _ _ => by rw [nn_r (by omega)], rfl⟩
theorem nn_nd (h86 : 86 ≤ K.1.1) : nd (nn K x y z) K.1.1 9 := ⟨h86, by rw [nn_n]; omega, nn_ts⟩
end CPR9
section CPRR
variable {S T : cp_S} {x2 x3 x4 x5 r : Int32}
theorem tc_row {T49 : cp_S} (h6 : ¬ x2 = 6) (w1 : MC 0 m_M_push [.int 218, .int (x2 + 1), .int 0] S none T49) (w2 : MC 1 m_M_beginTerm [.int x4, .int x5, .int 2] ((va_up T49.1 34 (x2 + 1)), T49.2) (some (.int r)) T) (hr : r = 0 ∨ r = 1) : MC 2 m_M_takeCoded [.int 218, .int x2, .int x3, .int x4, .int x5] S (some (.int r)) T := c_M_takeCoded (b_M_takeCoded_0 ⟨fun q => absurd q (by decide), fun q => absurd q (by decide), fun q => absurd q (by decide), fun q => absurd q (by decide), fun q => absurd q (by decide), fun q => absurd q (by decide), fun q => absurd q (by decide), fun q => absurd q (by decide), fun q => absurd q (by decide), fun _ => ⟨fun _ => ⟨T49, w1, r, T, w2, rfl, rfl, nb hr⟩, fun q => absurd q h6⟩⟩)
theorem tc_row6 (h6 : x2 = 6) : MC 2 m_M_takeCoded [.int 218, .int x2, .int x3, .int x4, .int x5] S (some (.int 0)) S := c_M_takeCoded (b_M_takeCoded_0 ⟨fun q => absurd q (by decide), fun q => absurd q (by decide), fun q => absurd q (by decide), fun q => absurd q (by decide), fun q => absurd q (by decide), fun q => absurd q (by decide), fun q => absurd q (by decide), fun q => absurd q (by decide), fun q => absurd q (by decide), fun _ => ⟨fun q => absurd h6 q, fun _ => ⟨rfl, rfl, rfl⟩⟩⟩)
end CPRR
section CPRT
variable {tx : Nat → Nat} {n rf : Nat} {K : cp_K} {S : cp_S}
abbrev itR (t : Nat) : cp_I := (218, nI t, 0)
def cnR (t : Nat) (S : cp_S) : Prop := 1 ≤ t → S.1 34 = nI t
theorem nsR {c : Int32} {t : Nat} : ¬ SKP c (itR t) := nsk (by show ¬ (218 : Int32) = 201; decide) (by show ¬ (218 : Int32) = 211; decide) (by show ¬ (218 : Int32) = 215; decide)
theorem row_next {X : Int32 × Int32 × Int32} {pt p n1 t : Nat} {jk : List cp_I} (h : PS S (jk ++ itR t :: []) n1 rf) (hl : (jk ++ itR t :: []).length ≤ 400) (hp : p < n) (hn : n ≤ 80) (hc : S.2 27 p = nI (tx p)) (hj : ∀ j ∈ jk, SKP (nI (tx p)) j) (ht : t < 6) : ∃ T, PS T (itR (t + 1) :: []) n1 rf ∧ RFZ rf n1 ([] : List cp_I).length pt S T ∧ cnR (t + 1) T ∧ ∀ o Sx, BTK X n o Sx T p 2 → RD X n o Sx p S := by
  obtain ⟨T, t1, t2, t3⟩ := tk_jk (p := p) jk S h hl hj
  obtain ⟨U, hU⟩ : ∃ U : cp_S, U = pshS (popS T 0) 0 218 (nI (t + 1)) 0 := ⟨_, rfl⟩
  have psU : PS U [itR (t + 1)] n1 rf := by rw [hU]; exact PS.push (l := []) (PS.pop t1)
  have fU : RFZ rf n1 0 pt S U := by rw [hU]; exact (t2.trans pop_spo).rfz.trans ((psh_rfx (m := n1) (i0 := n1) (Nat.le_refl _)).z) (Nat.le_refl _) (Nat.le_refl _)
  obtain ⟨V, hV⟩ : ∃ V : cp_S, V = (va_up U.1 34 (nI (t + 1)), U.2) := ⟨_, rfl⟩
  have v1 : ∀ k, k ≠ 34 → V.1 k = U.1 k := fun k hk => by rw [hV]; exact cp_up_ne hk
  have v2 : V.2 = U.2 := by rw [hV]
  refine ⟨V, ⟨by rw [v1 29 (by decide)]; exact psU.1, by rw [v2]; exact psU.2.1, by rw [v1 16 (by decide)]; exact psU.2.2.1, by rw [v1 20 (by decide)]; exact psU.2.2.2⟩, ⟨fun k k1 k2 k3 => (v1 k k3).trans (fU.1 k k1 k2 k3), by rw [v2]; exact fU.2⟩, fun _ => by rw [hV]; show va_up U.1 34 (nI (t + 1)) 34 = _; rw [va_up_at], fun o Sx w => ?_⟩
  obtain ⟨r, T', w1, w2, w3, w4⟩ := w
  refine rd_step hp hn hc (t3 _ _ (tk_code (r := r) t1 (by simp) nsR (by show (200 : Int32) ≤ 218; decide) (by show (209 : Int32) ≤ 218; decide) w2 (tc_row (T49 := U) ?_ ?_ ?_ w2))) w4 w3
  · show ¬ nI t = 6
    exact nI_cc (a := 6) (by omega) (by omega) (by omega)
  · show MC 0 m_M_push [.int 218, .int (nI t + 1), .int 0] _ none _
    rw [nI_1, hU]
    exact MC_push (l := []) (PS.pop t1) (by simp)
  · show MC 1 m_M_beginTerm [.int (nI (tx p)), .int (nI p), .int 2] (va_up U.1 34 (nI t + 1), U.2) _ _
    rw [nI_1, ← hV]
    rw [show V.2 27 p = nI (tx p) by rw [v2, fU.2.1 27 (by omega)]; exact hc] at w1
    exact w1
theorem read_terms_m {P : Nat} (h : RIN tx n rf K S) : (∃ (K' : cp_K) (S' : cp_S) (p' : Nat), KC 60 m_Q_readTerms (fun G => [.ref (cp_b G + 21)]) K (fun G => some (va_rf (kr G 0))) K' ∧ K'.2.1 21 2 = nI p' ∧ p' ≤ n ∧ MC 5 m_M_read [.int 218, .int 0, .int 0] S (some (.int (nI p'))) S' ∧ KRX K.1.1 K.1.1 K K' ∧ RDF S S' rf P ∧ K'.1.1 ≤ K.1.1 + 81) ∨
    ∃ (K' : cp_K) (S' : cp_S) (n1' m : Nat), KC 60 m_Q_readTerms (fun G => [.ref (cp_b G + 21)]) K (fun G => some (va_rf (kr G K.1.1))) K' ∧ MC 5 m_M_read [.int 218, .int 0, .int 0] S (some (.int (-1))) S' ∧ RCH (RTR K' S'.2 rf 8) K' m (K.1.1 + 1) rf n1' (K.1.1 + 1) K'.1.1 ∧ (nd K' K.1.1 9 ∧ K'.2.1 K.1.1 3 = nI m ∧ 1 ≤ m ∧ m ≤ 6 ∧ K'.2.2.1 K.1.1 4 = K.1.1 + 1 ∧ S'.1 34 = nI m) ∧ KRX K.1.1 K.1.1 K K' ∧ RDF S S' rf P ∧ S'.1 16 = nI n1' ∧ TW S'.2 0 0 n rf n1' ∧ PLI S' rf n1' n ∧ K'.1.1 ≤ K.1.1 + 81 := by
  have rj : RJ tx n rf K (iniS S 218 0 0) [itR 0] 0 rf := h.rj
  obtain ⟨⟨h1, h2, h3, h4⟩, ⟨h5, h6, h7, h8⟩, h9⟩ := id h
  obtain ⟨K0, hK0⟩ : ∃ K0 : cp_K, K0 = nn K 17 0 0 := ⟨_, rfl⟩
  have k0 : KRX K.1.1 K.1.1 K K0 := by rw [hK0]; exact KRX_nn h4 (Nat.le_refl _) (Nat.le_refl _)
  have n0 : K0.1.1 = K.1.1 + 1 := by rw [hK0]; exact nn_n
  have at0 : K0.2.1 21 2 = nI 0 := by rw [hK0, nn_i (by omega)]; exact h1
  have e21 : K0.2.1 21 1 = nI n := by rw [hK0, nn_i (by omega)]; exact h2
  have ndq : nd K0 K.1.1 9 := by rw [hK0]; exact nn_nd h4
  have q3 : K0.2.1 K.1.1 3 = nI 0 := by rw [hK0]; exact nn_new.2.2.2
  have q5 : K0.2.2.1 K.1.1 5 = 0 := by rw [hK0]; exact nn_rn
  have rj0 : RJ tx n rf K0 (iniS S 218 0 0) [itR 0] 0 rf := rj.mvz k0 rfl rj.2.1 at0 (Nat.zero_le _) ⟨Nat.le_refl _, by omega⟩ rj.2.2.2.2 (by omega)
  have hw : ∀ (r : Int32) (K' : cp_K) (q : Nat), JC 44 m_Q_readPieces (fun _ => .inl (some (.int r))) K' 3 (LQ K.1.1 0 1 0 1) (fun _ => []) K0 → (r = 0 → q = 0) → (¬ r = 0 → q = if K'.2.1 21 2 = K'.2.1 21 1 then K.1.1 else 0) → KC 60 m_Q_readTerms (fun G => [.ref (cp_b G + 21)]) K (fun G => some (va_rf (kr G q))) K' := fun r K' q kc w1 w2 => by
    refine (c_Q_readTerms (D := 37) ⟨r, K', ?_, fun e => ⟨?_, rfl⟩, fun e => ⟨?_, rfl⟩⟩).mono (by omega)
    · have := c_Q_readPieces (D := 36) (o := fun _ => some (.int r)) (K' := K') (K := K0) (p1 := K.1.1) (x2 := nI (2 - 0)) (x3 := nI 1) (x4 := 0) kc
      rw [hK0] at this
      exact this
    · rw [w1 e]; simp
    · rw [w2 e]
  have nmy : ¬ may (itR 0) := by
    rintro (q | q | q | ⟨-, q⟩)
    · exact absurd (show (218 : Int32) = 201 from q) (by decide)
    · exact absurd (show (218 : Int32) = 211 from q) (by decide)
    · exact absurd (show (218 : Int32) = 215 from q) (by decide)
    · exact q (by show nI 0 ≤ 0; decide)
  by_cases hn0 : n = 0
  · subst hn0
    refine Or.inl ⟨K0, iniS S 218 0 0, 0, hw 0 K0 0 (b_Q_readPieces_3 (D := 36) ⟨fun h => absurd h (by decide), fun _ => ⟨0, K0, (c_Q_withPiece (D := 1) ⟨fun _ => ⟨0, K0, piece_end (by omega) rj0, fun h => absurd rfl h, fun _ => ⟨rfl, rfl⟩⟩, fun _ => ⟨rfl, rfl⟩⟩).mono (by omega), fun h => absurd rfl h, fun _ => ⟨rfl, rfl⟩⟩⟩) (fun _ => rfl) (fun q => absurd rfl q), at0, Nat.le_refl _, ini_read h5 h6 (rd_end_no rj.2.1 (by simp) h7 List.mem_cons_self nmy), k0, RDF.of h6 (RFZ.refl (len := 0) (pt := P)) (Nat.le_refl _), by omega⟩
  · have hp : 0 < n := by omega
    have pj8 : PJ (218, 0, 0) tx n rf 8 := pj_all 7
    have step : ∀ t, t ≤ 5 → (t < 5 → GL (218, 0, 0) tx n rf P [] 0 itR cnR (t + 1)) → GL (218, 0, 0) tx n rf P [] 0 itR cnR t := fun t ht ih => gl_step pj8 (by simp) (Or.inr rfl) (fun S jk p n1 t a1 a2 a3 a4 a5 a6 a7 a8 a9 a10 => row_next a1 a2 a3 a4 a5 a8 a9) (fun S jk p n1 a1 a2 a3 a4 a5 a6 a7 a8 a9 => by
      obtain ⟨T, t1, t2, t3⟩ := tk_jk (p := p) jk S a1 a2 a8
      exact ⟨popS T 0, t2.trans pop_spo, rd_step a3 a4 a5 (t3 _ _ (tk_code (r := 0) t1 (by simp) nsR (by show (200 : Int32) ≤ 218; decide) (by show (209 : Int32) ≤ 218; decide) (Or.inl rfl) (tc_row6 rfl))) (fun q => absurd rfl q) (fun _ => ⟨rfl, rfl⟩)⟩) (fun q => absurd q (by decide)) (fun q => absurd q (by decide)) (fun t S S' n1 len hf hc h1 => by rw [hf.1 34 (by decide) (by decide)]; exact hc h1) (fun t S T hs hc h1 => by rw [hs.1 34 (by decide)]; exact hc h1) ht ih
    have G0 : GL (218, 0, 0) tx n rf P [] 0 itR cnR 0 := step 0 (by omega) (fun _ => step 1 (by omega) (fun _ => step 2 (by omega) (fun _ => step 3 (by omega) (fun _ => step 4 (by omega) (fun _ => step 5 (by omega) (fun q => absurd q (by omega)))))))
    obtain ⟨T, t1, t2, t3, t4⟩ := row_next (X := (218, 0, 0)) (n := n) (tx := tx) (pt := P) (jk := []) (t := 0) (p := 0) rj0.2.1 (by simp) hp h7 (rj0.2.2.2.1 0 hp).2.2 (fun j hj => (by cases hj)) (by omega)
    have rjT : RJ tx n rf K0 T [itR 1] 0 rf := rj0.mvz (KRX.refl (q0 := 0) (ql := 0)) (t2.2.1 27 (by omega)) t1 at0 (Nat.zero_le _) ⟨Nat.le_refl _, by omega⟩ (rj0.2.2.2.2.eq (fun x hx => t2.2.2.2.1 x hx) (Nat.le_refl _)) (by omega)
    rcases G0 K0 T 0 rf K.1.1 K0.1.1 rjT hp t3 ⟨ndq, q3⟩ (Or.inl ⟨rfl, q5, rfl⟩) with ⟨K', S', p', g1, g2, g3, g4, g5, g6, g7⟩ | ⟨K', S', p', pe, n1', m, l', qe, g1, g2, g3, g3', g4, ⟨g5, g6, g7, g8⟩, ⟨g9, -⟩, -, g11, g12, g14, g15, g16⟩
    · exact Or.inl ⟨K', S', p', hw 0 K' 0 g1 (fun _ => rfl) (fun q => absurd rfl q), g2, g3.2, ini_read h5 h6 (t4 _ _ g4), k0.trans g5 (Or.inl rfl) (Or.inr (by omega)), RDF.of h6 (t2.trans g6 (Nat.le_refl _) (Nat.le_refl _)) (Nat.le_refl _), by omega⟩
    · rcases g3' with ⟨q, -⟩ | ⟨-, rfl, rfl, jk, rfl, j1, j2⟩
      · exact absurd q (by decide)
      · obtain ⟨⟨b1, b2, b3, b4⟩, ps1, ⟨b5, b6, b7, b8, b9⟩, b10, b11⟩ := id g3
        rw [Nat.zero_add] at g7 g8
        rw [n0] at g4
        refine Or.inr ⟨K', S', n1', m, hw 1 K' K.1.1 g1 (fun q => absurd q (by decide)) (fun _ => by rw [if_pos (b1.trans b2.symm)]), ini_read h5 h6 (t4 _ _ (g2 _ _ (rd_end_ok ps1 (by rw [List.length_append]; simp; omega) b5 (fun i hi => ?_)))), g4, ⟨g11.nd ndq, g7, g5, by omega, by rw [g9 rfl, n0], g8 g5⟩, k0.trans g11 (Or.inl rfl) (Or.inr (by omega)), RDF.of h6 (t2.trans g12 (Nat.le_refl _) (Nat.le_refl _)) (Nat.le_refl _), ps1.2.2.1, g14, b11, by omega⟩
        rcases List.mem_append.mp hi with q | q
        · exact j2 i q
        · rw [List.mem_singleton] at q
          subst q
          refine Or.inr (Or.inr (Or.inr ⟨rfl, ?_⟩))
          show ¬ nI (0 + m) ≤ 0
          exact nI_nle (by omega) (by omega)
end CPRT
