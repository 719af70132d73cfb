/-! ===== reading codes: a letter and its codes, both sides ===== -/
section CPR2
variable {X : Int32 × Int32 × Int32} {n p rf n1 : Nat} {S : cp_S} {l : List cp_I}
theorem ns212 {c a b : Int32} : ¬ SKP c (212, a, b) := nsk (by show ¬ (212 : Int32) = 201; decide) (by show ¬ (212 : Int32) = 211; decide) (by show ¬ (212 : Int32) = 215; decide)
theorem nm212 {a b : Int32} : ¬ may (212, a, b) := nmy (w := 212) rfl (by decide) (by decide) (by decide) (by decide)
theorem rd_mcode {o : Option Value} {Sx : cp_S} {i0 d : Nat} (h : PS S ((211, nI i0, nI d) :: l) n1 rf) (hl : l.length + 2 < 400) (hp : p < n) (hn : n ≤ 80) (hc : S.2 27 p = nI 40) (h12 : d < 12) (hi : i0 < 2720) (w : RD X n o Sx (p + 1) (pshS (pshS (cntS (popS S l.length) i0 (nI 1)) l.length 212 (nI i0) (nI d)) (l.length + 1) 210 (nI (d + 1)) 0)) : RD X n o Sx p S := by
  have hs : ¬ SKP (nI 40) (211, nI i0, nI d) := by
    rintro (⟨a, -⟩ | ⟨-, a⟩ | ⟨a, -⟩)
    · exact absurd (show (211 : Int32) = 201 from a) (by decide)
    · rcases a with a | a
      · exact a rfl
      · have := (nI_ch (c := d) (a := 12) (by omega) (by omega)).mp a; omega
    · exact absurd (show (211 : Int32) = 215 from a) (by decide)
  refine rd_step hp hn hc (tk_code (r := 1) h (by omega) hs (by show (200 : Int32) ≤ 211; decide) (by show (209 : Int32) ≤ 211; decide) (Or.inr rfl) (tc_mcode (T8 := pshS (cntS (popS S l.length) i0 (nI 1)) l.length 212 (nI i0) (nI d)) (vp_in_nI (show i0 < 2720 by omega) (by decide)) ?_ ?_)) (fun _ => w) (fun q => absurd q (by decide))
  · show MC 0 m_M_push [.int 212, .int (nI i0), .int (nI d)] ((popS S l.length).1, va_up (popS S l.length).2 41 (upd ((popS S l.length).2 41) (Int32.toNatClampNeg (nI i0)) 1)) none _
    rw [nI_clamp (by omega)]
    exact MC_push (S := cntS (popS S l.length) i0 (nI 1)) (l := l) (PS.cnt (PS.pop h)) (by omega)
  · show MC 0 m_M_push [.int 210, .int (nI d + 1), .int 0] _ none _
    rw [nI_1]
    exact MC_push (l := (212, nI i0, nI d) :: l) (PS.push (PS.cnt (PS.pop h))) (by rw [List.length_cons]; omega)
theorem rd_closeC {i0 d : Nat} {jk : List cp_I} (h : PS S (jk ++ (212, nI i0, nI d) :: l) n1 rf) (hl : (jk ++ (212, nI i0, nI d) :: l).length ≤ 400) (hp : p < n) (hn : n ≤ 80) (hc : S.2 27 p = nI 41) (hj : ∀ j ∈ jk, SKP (nI 41) j) : ∃ T, PS T l n1 rf ∧ SPO S T ∧ ∀ o Sx, RD X n o Sx (p + 1) T → RD X n o Sx p S := by
  obtain ⟨T, t1, t2, t3⟩ := tk_jk (p := p) jk S h hl hj
  have hl2 : l.length < 400 := by rw [List.length_append, List.length_cons] at hl; omega
  exact ⟨popS T l.length, PS.pop t1, t2.trans pop_spo, fun o Sx w => rd_step hp hn hc (t3 _ _ (tk_code (r := 1) t1 hl2 ns212 (by show (200 : Int32) ≤ 212; decide) (by show (209 : Int32) ≤ 212; decide) (Or.inr rfl) (tc_212c rfl))) (fun _ => w) (fun q => absurd q (by decide))⟩
theorem rd_fullC {i0 d c : Nat} {jk : List cp_I} (h : PS S (jk ++ (212, nI i0, nI d) :: l) n1 rf) (hl : (jk ++ (212, nI i0, nI d) :: l).length ≤ 400) (hp : p < n) (hn : n ≤ 80) (hc : S.2 27 p = nI c) (hc2 : c < 200) (h41 : ¬ c = 41) (hj : ∀ j ∈ jk, SKP (nI c) j) (hi : i0 < 2720) (h6 : S.2 41 i0 = nI 6) : ∃ T, SPO S T ∧ RD X n (some (.int (nI p))) T p S := by
  obtain ⟨T, t1, t2, t3⟩ := tk_jk (p := p) jk S h hl hj
  have hl2 : l.length < 400 := by rw [List.length_append, List.length_cons] at hl; omega
  refine ⟨popS T l.length, t2.trans pop_spo, rd_step hp hn hc (t3 _ _ (tk_code (r := 0) t1 hl2 ns212 (by show (200 : Int32) ≤ 212; decide) (by show (209 : Int32) ≤ 212; decide) (Or.inl rfl) (tc_212f (nI_cc (a := 41) hc2 (by omega) h41) (vp_in_nI (show i0 < 2720 by omega) (by decide)) ?_))) (fun q => absurd rfl q) (fun _ => ⟨rfl, rfl⟩)⟩
  show T.2 41 (Int32.toNatClampNeg (nI i0)) = 6
  rw [nI_clamp (by omega), t2.2, h6]
  rfl
theorem rd_nextC {i0 d c t : Nat} {jk : List cp_I} (h : PS S (jk ++ (212, nI i0, nI d) :: l) n1 rf) (hl : (jk ++ (212, nI i0, nI d) :: l).length ≤ 400) (hp : p < n) (hn : n ≤ 80) (hc : S.2 27 p = nI c) (hc2 : c < 200) (h41 : ¬ c = 41) (hj : ∀ j ∈ jk, SKP (nI c) j) (hi : i0 < 2720) (ht : t < 6) (h6 : S.2 41 i0 = nI t) : ∃ T, PS T ((212, nI i0, nI d) :: l) n1 rf ∧ RFX rf n1 l.length i0 S T ∧ T.2 41 i0 = nI (t + 1) ∧ ∀ o Sx, BCK X n o Sx T p (d + 1) → RD X n o Sx p S := by
  obtain ⟨T, t1, t2, t3⟩ := tk_jk (p := p) jk S h hl hj
  have hl2 : l.length < 400 := by rw [List.length_append, List.length_cons] at hl; omega
  refine ⟨pshS (cntS (popS T l.length) i0 (nI (t + 1))) l.length 212 (nI i0) (nI d), PS.push (PS.cnt (PS.pop t1)), ((t2.rfx (len := l.length)).trans (pop_spo.rfx (len := l.length) (i0 := i0)) (Nat.le_refl _) (Nat.le_refl _) (Or.inl rfl)).trans ((cnt_rfx (len := l.length) (m := n1)).trans (psh_rfx (i0 := i0) (Nat.le_refl _)) (Nat.le_refl _) (Nat.le_refl _) (Or.inl rfl)) (Nat.le_refl _) (Nat.le_refl _) (Or.inl rfl), ?_, fun o Sx w => ?_⟩
  · rw [psh_2 (by omega), cnt_at, if_pos rfl]
  · obtain ⟨r, T', w1, w2, w3, w4⟩ := w
    refine rd_step hp hn hc (t3 _ _ (tk_code (r := r) t1 hl2 ns212 (by show (200 : Int32) ≤ 212; decide) (by show (209 : Int32) ≤ 212; decide) w2 (tc_212n (T15 := pshS (cntS (popS T l.length) i0 (nI (t + 1))) l.length 212 (nI i0) (nI d)) (nI_cc (a := 41) hc2 (by omega) h41) (vp_in_nI (show i0 < 2720 by omega) (by decide)) ?_ ?_ ?_ w2))) w4 w3
    · show ¬ T.2 41 (Int32.toNatClampNeg (nI i0)) = 6
      rw [nI_clamp (by omega), t2.2, h6]
      exact nI_cc (a := 6) (by omega) (by omega) (by omega)
    · show MC 0 m_M_push [.int 212, .int (nI i0), .int (nI d)] ((popS T l.length).1, va_up (popS T l.length).2 41 (upd ((popS T l.length).2 41) (Int32.toNatClampNeg (nI i0)) ((popS T l.length).2 41 (Int32.toNatClampNeg (nI i0)) + 1))) none _
      rw [nI_clamp (show i0 < 2 ^ 31 by omega), show (popS T l.length).2 41 i0 = nI t by rw [pop_2, t2.2]; exact h6, nI_1]
      exact MC_push (S := cntS (popS T l.length) i0 (nI (t + 1))) (l := l) (PS.cnt (PS.pop t1)) hl2
    · show MC 1 m_M_beginCode [.int (nI c), .int (nI p), .int (nI d + 1)] _ _ _
      rw [nI_1]
      rw [show (pshS (cntS (popS T l.length) i0 (nI (t + 1))) l.length 212 (nI i0) (nI d)).2 27 p = nI c by rw [psh_2 (by omega), cnt_2 (by decide), pop_2, t2.2]; exact hc] at w1
      exact w1
end CPR2
section CPWC2
variable {X : Int32 × Int32 × Int32} {tx : Nat → Nat} {n rf : Nat} {K : cp_K} {S : cp_S} {l : List cp_I} {p n1 : Nat}
/-- a code is read into q0 -/
theorem withC {f d q0 ql : Nat} (hC : CJ X tx n rf f) (hdf : d + f = 13) (hd : 1 ≤ d) (rj : RJ tx n rf K S l p n1) (hp : p < n) (hl : l.length ≤ 8 * d + 20) (hq0 : nd K q0 9) (hlast : LSP K q0 ql) :
    (∃ (K' : cp_K) (S' : cp_S) (p' : Nat), KC (11 + 6 * f) m_Q_withPiece (fun G => [.ref (cp_b G + 21), va_rf (kr G q0), .int 3, .int (nI d)]) K (fun G => some (va_rf (kr G 0))) K' ∧ K'.2.1 21 2 = nI p' ∧ (p ≤ p' ∧ p' ≤ n) ∧ BCK X n (some (.int (nI p'))) S' S p d ∧ KRX K.1.1 K.1.1 K K' ∧ RFX rf n1 l.length n1 S S' ∧ K'.1.1 ≤ K.1.1 + (p' - p)) ∨
    ∃ (K2 : cp_K) (S' : cp_S) (p' n1' : Nat) (jk' : List cp_I) (q : Nat), KC (11 + 6 * f) m_Q_withPiece (fun G => [.ref (cp_b G + 21), va_rf (kr G q0), .int 3, .int (nI d)]) K (fun G => some (va_rf (kr G q0))) K2 ∧ (∀ r Sx, RD X n r Sx p' S' → BCK X n r Sx S p d) ∧ RJ tx n rf K2 S' (jk' ++ l) p' n1' ∧ JPK tx n p' jk' ∧ RCD K2 S'.2 rf f q n1 n1' K.1.1 K2.1.1 ∧ K2.2.2.1 q 6 = 0 ∧ (K2.2.1 q0 3 = K.2.1 q0 3 + 1 ∧ K2.2.2.1 q0 5 = q ∧ (K.2.2.1 q0 5 = 0 → K2.2.2.1 q0 4 = q) ∧ (¬ K.2.2.1 q0 5 = 0 → K2.2.2.1 q0 4 = K.2.2.1 q0 4 ∧ K2.2.2.1 ql 6 = q)) ∧ KRX q0 ql K K2 ∧ RFX rf n1 l.length n1 S S' ∧ K2.1.1 ≤ K.1.1 + (p' - p) ∧ p < p' := by
  have q0lt := hq0.2.1
  have q086 := hq0.1
  rcases hC d K S l p n1 hdf hd rj hp hl with ⟨K', S', p', a1, a2, a3, a4, a5, a6, a7⟩ | ⟨K1, S', p', n1', jk', q, a1, a2, a3, a4, a5, a6, a7, a8, a9, a10⟩
  · exact Or.inl ⟨K', S', p', (c_Q_withPiece (D := 3 + 6 * f) ⟨fun _ => ⟨0, K', a1.mono (by omega), fun h => absurd rfl h, fun _ => ⟨rfl, rfl⟩⟩, fun h => absurd h (by omega)⟩).mono (by omega), a2, a3, a4, a5, a6, a7⟩
  · obtain ⟨⟨b1, b2, b3, b4⟩, ps1, ⟨b5, b6, b7, b8, b9⟩, b10, b11⟩ := id a3
    have lt := RCD.lt _ _ _ _ _ _ a5
    obtain ⟨⟨nq1, nql1⟩, k02, ⟨qx, hqx, kx2⟩, n2, c3, c5, c4, c46, c21⟩ := addK (c := q) a7 hq0 hlast
    obtain ⟨K2, hK2⟩ : ∃ K2 : cp_K, K2 = nadd K1 q0 q := ⟨_, rfl⟩
    rw [← hK2] at k02 kx2 n2 c3 c5 c4 c46 c21
    have kc : KC (11 + 6 * f) m_Q_withPiece (fun G => [.ref (cp_b G + 21), va_rf (kr G q0), .int 3, .int (nI d)]) K (fun G => some (va_rf (kr G q0))) K2 := (c_Q_withPiece (D := 3 + 6 * f) ⟨fun _ => ⟨q, K1, a1.mono (by omega), fun _ => ⟨nq1, nql1, rfl, hK2⟩, fun h => absurd h (by omega)⟩, fun h => absurd h (by omega)⟩).mono (by omega)
    refine Or.inr ⟨K2, S', p', n1', jk', q, kc, a2, a3.mvz kx2 rfl ps1 (by rw [c21]; exact b1) b6 ⟨b7, b8⟩ b11 (by omega), a4, ?_, ?_, ⟨c3, c5, c4, c46⟩, k02, a8, by omega, a10⟩
    · rw [n2]
      exact a5.kept kx2 (Nat.le_refl _) (by omega) (Or.inl (by omega)) (by omega) SAB.refl
    · rw [kx2.2.2.2.2.2.1 q (by omega) 6 (Or.inl (by omega)) (Or.inl (by omega))]; exact a6
end CPWC2
abbrev LQC (q0 d t : Nat) : cp_G → List (Nat × Value) := fun G => [(0, .ref (cp_b G + 21)), (1, va_rf (kr G q0)), (2, .int 3), (3, .int (nI d)), (4, .int 41), (5, .int (nI t))]
/-- the codes of a letter, t of them being read -/
def AC (X : Int32 × Int32 × Int32) (tx : Nat → Nat) (n rf f t : Nat) : Prop := ∀ (d : Nat) (K : cp_K) (S : cp_S) (l : List cp_I) (p n1 q0 ql i0 : Nat), d + 1 + f = 13 → RJ tx n rf K S ((212, nI i0, nI d) :: l) p n1 → p < n → l.length ≤ 8 * d + 20 → S.2 41 i0 = nI (t + 1) → (rf ≤ i0 ∧ i0 < n1) → (nd K q0 9 ∧ K.2.1 q0 3 = nI t) → LSP K q0 ql → (t = 0 ↔ K.2.2.1 q0 5 = 0) →
  (∃ (K' : cp_K) (S' : cp_S) (p' : Nat), JC (12 + 6 * f) m_Q_readPieces (fun _ => .inl (some (.int 0))) K' 3 (LQC q0 (d + 1) (t + 1)) (fun _ => []) K ∧ K'.2.1 21 2 = nI p' ∧ (p ≤ p' ∧ p' ≤ n) ∧ BCK X n (some (.int (nI p'))) S' S p (d + 1) ∧ KRX q0 ql K K' ∧ RFX rf n1 l.length i0 S S' ∧ K'.1.1 ≤ K.1.1 + (p' - p)) ∨
  ∃ (K' : cp_K) (S' : cp_S) (p' n1' m qf : Nat), JC (12 + 6 * f) m_Q_readPieces (fun _ => .inl (some (.int 1))) K' 3 (LQC q0 (d + 1) (t + 1)) (fun _ => []) K ∧ (∀ r Sx, RD X n r Sx p' S' → BCK X n r Sx S p (d + 1)) ∧ RJ tx n rf K' S' l p' n1' ∧ RCC (RCD K' S'.2 rf f) K' m qf n1 n1' K.1.1 K'.1.1 ∧ (1 ≤ m ∧ t + m ≤ 6 ∧ K'.2.1 q0 3 = nI (t + m) ∧ S'.2 41 i0 = nI (t + m)) ∧ ((t = 0 → K'.2.2.1 q0 4 = qf) ∧ (0 < t → K'.2.2.1 q0 4 = K.2.2.1 q0 4 ∧ K'.2.2.1 ql 6 = qf)) ∧ K.1.1 ≤ qf ∧ KRX q0 ql K K' ∧ RFX rf n1 l.length i0 S S' ∧ K'.1.1 ≤ K.1.1 + (p' - p) ∧ p < p'
section CPAC
variable {X : Int32 × Int32 × Int32} {tx : Nat → Nat} {n rf f : Nat}
theorem ac_step (hC : CJ X tx n rf f) {t : Nat} (ht : t ≤ 5) (ih : t < 5 → AC X tx n rf f (t + 1)) : AC X tx n rf f t := by
  intro d K S l p n1 q0 ql i0 hdf rj hp hl hc ⟨hi1, hi2⟩ ⟨hq0, hq3⟩ hlast ht0
  obtain ⟨⟨r1, r2, r3, r4⟩, ps, ⟨r5, r6, r7, r8, r9⟩, r10, r11⟩ := id rj
  have q0lt := hq0.2.1
  have q086 := hq0.1
  have hll : ((212, nI i0, nI d) :: l : List cp_I).length = l.length + 1 := List.length_cons
  have nlt : ¬ (6 : Int32) < nI (t + 1) := nI_nlt (a := 6) (b := t + 1) (by omega) (by omega)
  rcases withC (ql := ql) hC (by omega) (by omega) rj hp (by rw [hll]; omega) hq0 hlast with ⟨K1, S1, p1, a1, a2, a3, a4, a5, a6, a7⟩ | ⟨K2, S1, p1, n11, jk, q1, a1, a2, a3, a4, a5, a6, ⟨a7, a8, a9, a9'⟩, a10, a11, a12, a13⟩
  · refine Or.inl ⟨K1, S1, p1, (b_Q_readPieces_3 (D := 4 + 6 * f) ⟨fun h => absurd h nlt, fun _ => ⟨0, K1, a1.mono (by omega), fun h => absurd rfl h, fun _ => ⟨rfl, rfl⟩⟩⟩ |> fun z => by rw [show 4 + 6 * f + 8 = 12 + 6 * f by omega] at z; exact z), a2, a3, a4, ?_, ?_, a7⟩
    · exact KRX.trans KRX.refl a5 (Or.inr (Nat.le_refl _)) (Or.inr (Nat.le_refl _))
    · exact a6.wk (Nat.le_refl _) (by rw [hll]; omega) (Or.inr (Nat.le_refl _))
  · obtain ⟨⟨b1, b2, b3, b4⟩, ps1, ⟨b5, b6, b7, b8, b9⟩, b10, b11⟩ := id a3
    have lt := RCD.lt _ _ _ _ _ _ a5
    have k2le := a10.1
    have jl := a4.1
    have c3 : K2.2.1 q0 3 = nI (t + 1) := by rw [a7, hq3, nI_1]
    have cnt1 : S1.2 41 i0 = nI (t + 1) := by rw [a11.2.2.1 41 (by omega) (by omega) i0 hi2 (Or.inl (by omega))]; exact hc
    have loop : ∀ (r : Int32) (K' : cp_K), (¬ qpk K2 = 41 → JC (12 + 6 * f) m_Q_readPieces (fun _ => .inl (some (.int r))) K' 3 (LQC q0 (d + 1) (t + 2)) (fun _ => []) K2) → (qpk K2 = 41 → r = 1 ∧ K' = qtk K2 41) → JC (12 + 6 * f) m_Q_readPieces (fun _ => .inl (some (.int r))) K' 3 (LQC q0 (d + 1) (t + 1)) (fun _ => []) K := fun r K' w1 w2 => by
      rw [show 12 + 6 * f = 4 + 6 * f + 8 by omega] at w1 ⊢
      refine b_Q_readPieces_3 (D := 4 + 6 * f) ⟨fun h => absurd h nlt, fun _ => ⟨q0, K2, a1.mono (by omega), fun _ => ⟨b3, fun h => ?_, fun h => ⟨fun h0 => absurd h0 (by decide), fun _ => ⟨fun h1 => absurd h1 (ife1 h), fun _ => ?_⟩⟩⟩, fun h => absurd h (by omega)⟩⟩
      · rw [nI_1]; exact w1 h
      · obtain ⟨e1, e2⟩ := w2 h
        rw [e1, e2]; exact ⟨rfl, rfl⟩
    have rfx1 : RFX rf n1 l.length i0 S S1 := a11.wk (Nat.le_refl _) (by rw [hll]; omega) (Or.inr (Nat.le_refl _))
    have fail : ∀ (S' : cp_S), RD X n (some (.int (nI p1))) S' p1 S1 → SPO S1 S' → JC (12 + 6 * f) m_Q_readPieces (fun _ => .inl (some (.int 0))) K2 3 (LQC q0 (d + 1) (t + 2)) (fun _ => []) K2 → ¬ qpk K2 = 41 → (∃ (K' : cp_K) (S' : cp_S) (p' : Nat), JC (12 + 6 * f) m_Q_readPieces (fun _ => .inl (some (.int 0))) K' 3 (LQC q0 (d + 1) (t + 1)) (fun _ => []) K ∧ K'.2.1 21 2 = nI p' ∧ (p ≤ p' ∧ p' ≤ n) ∧ BCK X n (some (.int (nI p'))) S' S p (d + 1) ∧ KRX q0 ql K K' ∧ RFX rf n1 l.length i0 S S' ∧ K'.1.1 ≤ K.1.1 + (p' - p)) := fun S' w1 w2 w3 w4 => ⟨K2, S', p1, loop 0 K2 (fun _ => w3) (fun h => absurd h w4), b1, by omega, a2 _ _ w1, a10, rfx1.trans (w2.rfx (n1 := n1) (len := l.length) (i0 := i0)) (Nat.le_refl _) (Nat.le_refl _) (Or.inl rfl), by omega⟩
    have hlen : (jk ++ (212, nI i0, nI d) :: l : List cp_I).length ≤ 400 := by rw [List.length_append, List.length_cons]; omega
    have e4 : (t = 0 → K2.2.2.1 q0 4 = q1) ∧ (0 < t → K2.2.2.1 q0 4 = K.2.2.1 q0 4 ∧ K2.2.2.1 ql 6 = q1) := ⟨fun h => a9 (ht0.mp h), fun h => a9' (fun q => by have := ht0.mpr q; omega)⟩
    by_cases hpn : p1 = n
    · subst hpn
      have n41 : ¬ qpk K2 = 41 := by rw [a3.pk0]; decide
      refine Or.inl (fail S1 (rd_end_no ps1 hlen b5 (i := (212, nI i0, nI d)) (List.mem_append.mpr (Or.inr List.mem_cons_self)) nm212) ⟨fun _ _ => rfl, rfl⟩ ?_ n41)
      rw [show 12 + 6 * f = 4 + 6 * f + 8 by omega]
      exact b_Q_readPieces_3 (D := 4 + 6 * f) ⟨fun _ => ⟨rfl, rfl⟩, fun _ => ⟨0, K2, (c_Q_withPiece (D := 2) ⟨fun _ => ⟨0, K2, (pieceC_end a3).mono (by omega), fun h => absurd rfl h, fun _ => ⟨rfl, rfl⟩⟩, fun _ => ⟨rfl, rfl⟩⟩).mono (by omega), fun h => absurd rfl h, fun _ => ⟨rfl, rfl⟩⟩⟩
    · have hp1 : p1 < n := by omega
      have hc200 : tx p1 < 200 := by have := (b10 p1 hp1).1; omega
      have pk1 := a3.pk hp1
      have ctx := (b10 p1 hp1).2.2
      by_cases h41 : tx p1 = 41
      · obtain ⟨T, t1, t2, t3⟩ := rd_closeC (X := X) ps1 hlen hp1 b5 (by rw [ctx, h41]) (fun j hj => by have := (a4.2 j hj).2 hp1; rw [h41] at this; exact this)
        have q41 : qpk K2 = 41 := by rw [pk1, h41]; rfl
        obtain ⟨K3, hK3⟩ : ∃ K3 : cp_K, K3 = kI K2 21 2 (nI (p1 + 1)) := ⟨_, rfl⟩
        have hq : qtk K2 41 = K3 := by rw [qtk_eq (p := 0) q41, b1, nI_1, hK3]
        have k23 : ∀ x y, KRX x y K2 K3 := fun x y => by rw [hK3]; exact KRX_at
        have k03 := a10.trans (k23 q0 ql) (Or.inl rfl) (Or.inl rfl)
        have rfx2 : RFX rf n1 l.length i0 S T := rfx1.trans (t2.rfx (n1 := n1) (len := l.length) (i0 := i0)) (Nat.le_refl _) (Nat.le_refl _) (Or.inl rfl)
        have n3 : K3.1.1 = K2.1.1 := by rw [hK3]; rfl
        have r3e : ∀ x g, K3.2.2.1 x g = K2.2.2.1 x g := fun x g => by rw [hK3]; rfl
        have i3e : ∀ x g, x ≠ 21 → K3.2.1 x g = K2.2.1 x g := fun x g hx => by rw [hK3, kI_i, cp_up_ne hx]
        refine Or.inr ⟨K3, T, p1 + 1, n11, 1, q1, loop 1 K3 (fun h => absurd q41 h) (fun _ => ⟨rfl, hq.symm⟩), fun r Sx w => a2 _ _ (t3 _ _ w), rj.mv k03 rfx2 t1 (by rw [hK3, kI_i, va_up_at, va_up_at]) (by omega) ⟨b7, by omega⟩ (b11.eq (fun x _ => by rw [t2.2]) (by omega)) (by omega), ⟨n11, K2.1.1, ?_, ?_, rfl, by omega⟩, ⟨Nat.le_refl _, by omega, by rw [i3e _ _ (by omega)]; exact c3, by rw [t2.2]; exact cnt1⟩, ⟨fun h => by rw [r3e]; exact e4.1 h, fun h => by rw [r3e, r3e]; exact e4.2 h⟩, by omega, k03, rfx2, by rw [n3]; omega, by omega⟩
        · exact a5.kept (k23 0 0) (Nat.le_refl _) (by omega) (Or.inl (by omega)) (Or.inr (Or.inl (by omega))) (fun x _ _ => by rw [t2.2]; exact ⟨rfl, rfl, rfl, rfl⟩)
        · rw [r3e]; exact a6
      · have n41 : ¬ qpk K2 = 41 := by rw [pk1]; exact nI_cc (a := 41) hc200 (by omega) h41
        by_cases ht5 : t = 5
        · obtain ⟨T, t1, t2⟩ := rd_fullC (X := X) ps1 hlen hp1 b5 ctx hc200 h41 (fun j hj => (a4.2 j hj).2 hp1) (by omega) (by rw [cnt1, ht5])
          refine Or.inl (fail T t2 t1 ?_ n41)
          rw [show 12 + 6 * f = 4 + 6 * f + 8 by omega]
          refine b_Q_readPieces_3 (D := 4 + 6 * f) ⟨fun _ => ⟨rfl, rfl⟩, fun h => absurd ?_ h⟩
          rw [ht5]; decide
        · obtain ⟨T, t1, t2, t3, t4⟩ := rd_nextC (X := X) (t := t + 1) ps1 hlen hp1 b5 ctx hc200 h41 (fun j hj => (a4.2 j hj).2 hp1) (by omega) (by omega) cnt1
          have rfx2 : RFX rf n1 l.length i0 S T := rfx1.trans t2 (by omega) (Nat.le_refl _) (Or.inl rfl)
          have rjT : RJ tx n rf K2 T ((212, nI i0, nI d) :: l) p1 n11 := a3.mv (KRX.refl (q0 := 0) (ql := 0)) t2 t1 b1 b6 ⟨b7, b8⟩ (b11.eq (fun x hx => t2.2.2.2.1 x hx) (Nat.le_refl _)) (by omega)
          have nq1 : nd K2 q1 9 := a5.nd
          rcases ih (by omega) d K2 T l p1 n11 q0 q1 i0 hdf rjT hp1 hl t3 ⟨hi1, by omega⟩ ⟨a10.nd hq0, c3⟩ (Or.inr ⟨a8, by omega, nq1⟩) ⟨fun h => absurd h (by omega), fun h => by rw [a8] at h; omega⟩ with ⟨K', S', p', g1, g2, g3, g4, g5, g6, g7⟩ | ⟨K', S', p', n1', m, qf, g1, g2, g3, g4, ⟨g5, g6, g7, g8⟩, ⟨-, g10⟩, g11, g12, g13, g15, g16⟩
          · exact Or.inl ⟨K', S', p', loop 0 K' (fun _ => g1) (fun h => absurd h n41), g2, ⟨by omega, g3.2⟩, a2 _ _ (t4 _ _ g4), a10.trans g5 (Or.inl rfl) (Or.inr (by omega)), rfx2.trans g6 (by omega) (Nat.le_refl _) (Or.inl rfl), by omega⟩
          · obtain ⟨g10a, g10b⟩ := g10 (by omega)
            have sx' : RFX rf n11 l.length i0 S1 S' := t2.trans g13 (Nat.le_refl _) (Nat.le_refl _) (Or.inl rfl)
            refine Or.inr ⟨K', S', p', n1', m + 1, q1, loop 1 K' (fun _ => g1) (fun h => absurd h n41), fun r Sx w => a2 _ _ (t4 _ _ (g2 r Sx w)), g3, ⟨n11, K2.1.1, ?_, by rw [g10b]; exact g4⟩, ⟨by omega, by omega, by rw [g7]; congr 1; omega, by rw [g8]; congr 1; omega⟩, ⟨fun h => by rw [g10a]; exact e4.1 h, fun h => ⟨by rw [g10a]; exact (e4.2 h).1, ?_⟩⟩, by omega, a10.trans g12 (Or.inl rfl) (Or.inr (by omega)), rfx2.trans g13 (by omega) (Nat.le_refl _) (Or.inl rfl), by omega, by omega⟩
            · exact a5.kept g12 (Nat.le_refl _) (by omega) (Or.inl (by omega)) (Or.inl rfl) (sx'.sab (Nat.le_refl _) (by omega) (Or.inl (by omega)))
            · have hql : ql < K.1.1 ∧ ql ≠ q0 := by
                rcases hlast with ⟨h1, -⟩ | ⟨-, h3, h4⟩
                · have := ht0.mpr h1; omega
                · exact ⟨h4.2.1, h3⟩
              rw [g12.2.2.2.2.2.1 ql (by omega) 6 (Or.inl hql.2) (Or.inl (by omega))]
              exact (e4.2 h).2
theorem ac_0 (hC : CJ X tx n rf f) : AC X tx n rf f 0 := by
  have A5 : AC X tx n rf f 5 := ac_step hC (by omega) (fun h => absurd h (by omega))
  have A4 : AC X tx n rf f 4 := ac_step hC (by omega) (fun _ => A5)
  have A3 : AC X tx n rf f 3 := ac_step hC (by omega) (fun _ => A4)
  have A2 : AC X tx n rf f 2 := ac_step hC (by omega) (fun _ => A3)
  have A1 : AC X tx n rf f 1 := ac_step hC (by omega) (fun _ => A2)
  exact ac_step hC (by omega) (fun _ => A1)
end CPAC
