/-! ===== reading codes: what comes next, both sides ===== -/
/-- letters that wait for a bracket -/
def JPK (tx : Nat → Nat) (n p : Nat) (jk : List cp_I) : Prop := jk.length ≤ 1 ∧ ∀ j ∈ jk, may j ∧ (p < n → SKP (nI (tx p)) j)
theorem JPK.nil {tx : Nat → Nat} {n p : Nat} : JPK tx n p [] := ⟨by simp, fun _ h => by cases h⟩
/-- a piece that is a code: both sides -/
def CJ (X : Int32 × Int32 × Int32) (tx : Nat → Nat) (n rf f : Nat) : Prop := ∀ (d : Nat) (K : cp_K) (S : cp_S) (l : List cp_I) (p n1 : Nat), d + f = 13 → 1 ≤ d → RJ tx n rf K S l p n1 → p < n → l.length ≤ 8 * d + 20 →
  (∃ (K' : cp_K) (S' : cp_S) (p' : Nat), KC (10 + 6 * f) m_Q_piece (fun G => [.ref (cp_b G + 21), .int 3, .int (nI d)]) K (fun G => some (va_rf (kr G 0))) K' ∧ K'.2.1 21 2 = nI p' ∧ (p ≤ p' ∧ p' ≤ n) ∧ BCK X n (some (.int (nI p'))) S' S p d ∧ KRX K.1.1 K.1.1 K K' ∧ RFX rf n1 l.length n1 S S' ∧ K'.1.1 ≤ K.1.1 + (p' - p)) ∨
  ∃ (K' : cp_K) (S' : cp_S) (p' n1' : Nat) (jk : List cp_I) (q : Nat), KC (10 + 6 * f) m_Q_piece (fun G => [.ref (cp_b G + 21), .int 3, .int (nI d)]) K (fun G => some (va_rf (kr G q))) K' ∧ (∀ r Sx, RD X n r Sx p' S' → BCK X n r Sx S p d) ∧ RJ tx n rf K' S' (jk ++ l) p' n1' ∧ JPK tx n p' jk ∧ RCD K' S'.2 rf f q n1 n1' K.1.1 K'.1.1 ∧ K'.2.2.1 q 6 = 0 ∧ KRX K.1.1 K.1.1 K K' ∧ RFX rf n1 l.length n1 S S' ∧ K'.1.1 ≤ K.1.1 + (p' - p) ∧ p < p'
section CPNX
variable {X : Int32 × Int32 × Int32} {tx : Nat → Nat} {n rf : Nat} {K : cp_K} {S : cp_S} {l jk : List cp_I} {p n1 : Nat}
theorem ns210 {c a b : Int32} : ¬ SKP c (210, a, b) := nsk (by show ¬ (210 : Int32) = 201; decide) (by show ¬ (210 : Int32) = 211; decide) (by show ¬ (210 : Int32) = 215; decide)
theorem nm210 {a b : Int32} : ¬ may (210, a, b) := nmy (w := 210) rfl (by decide) (by decide) (by decide) (by decide)
theorem rd_code {d : Nat} (h : PS S (jk ++ (210, nI d, 0) :: l) n1 rf) (hl : (jk ++ (210, nI d, 0) :: l).length ≤ 400) (hp : p < n) (hn : n ≤ 80) (hj : ∀ j ∈ jk, SKP (S.2 27 p) j) : ∃ T, PS T l n1 rf ∧ SPO S T ∧ ∀ o Sx, BCK X n o Sx T p d → RD X n o Sx p S := by
  obtain ⟨T, t1, t2, t3⟩ := tk_jk (p := p) jk S h hl hj
  have hl2 : l.length < 400 := by rw [List.length_append, List.length_cons] at hl; omega
  refine ⟨popS T l.length, PS.pop t1, t2.trans pop_spo, fun o Sx w => ?_⟩
  obtain ⟨r, U, w1, w2, w3, w4⟩ := w
  refine rd_step hp hn rfl (t3 _ _ (tk_code (r := r) t1 hl2 ns210 (by show (200 : Int32) ≤ 210; decide) (by show (209 : Int32) ≤ 210; decide) w2 (tc_code ?_ w2))) w4 w3
  rw [show S.2 27 p = (popS T l.length).2 27 p by rw [pop_2, t2.2]]
  exact w1
/-- at the end there is no code -/
theorem pieceC_end {d : Nat} (rj : RJ tx n rf K S l n n1) : KC 9 m_Q_piece (fun G => [.ref (cp_b G + 21), .int 3, .int (nI d)]) K (fun G => some (va_rf (kr G 0))) K := by
  refine c_Q_piece (D := 1) ?_
  unfold wp_Q_piece_0
  rw [rj.pk0]
  refine ⟨rj.1.2.2.1, fun _ => ⟨fun _ => ⟨fun _ => ⟨fun q => absurd rfl q, fun _ => ⟨0, K, c_Q_readSignedCode (D := 0) ⟨fun _ => ⟨fun _ => ⟨fun q => absurd q (by decide), fun q => absurd q (by decide), fun q => absurd q (by decide), fun q => absurd q (by decide), fun _ => ⟨rfl, rfl⟩⟩, fun _ => ⟨rfl, rfl⟩⟩, fun q => absurd q (by decide)⟩, rfl, rfl⟩⟩, fun q => absurd (by decide) q⟩, fun q => absurd (by decide) q⟩, fun q => absurd (by decide) q⟩
/-- a code must stand there -/
theorem pieceAt {f d : Nat} (hC : CJ X tx n rf f) (hdf : d + f = 13) (hd : 1 ≤ d) (rj : RJ tx n rf K S (jk ++ (210, nI d, 0) :: l) p n1) (hj : JPK tx n p jk) (hl : l.length ≤ 8 * d + 20) :
    (∃ (K' : cp_K) (S' : cp_S) (p' : Nat), KC (10 + 6 * f) m_Q_piece (fun G => [.ref (cp_b G + 21), .int 3, .int (nI d)]) K (fun G => some (va_rf (kr G 0))) K' ∧ K'.2.1 21 2 = nI p' ∧ (p ≤ p' ∧ p' ≤ n) ∧ RD X n (some (.int (nI p'))) S' p S ∧ KRX K.1.1 K.1.1 K K' ∧ RFX rf n1 l.length n1 S S' ∧ K'.1.1 ≤ K.1.1 + (p' - p)) ∨
    ∃ (K' : cp_K) (S' : cp_S) (p' n1' : Nat) (jk' : List cp_I) (q : Nat), KC (10 + 6 * f) m_Q_piece (fun G => [.ref (cp_b G + 21), .int 3, .int (nI d)]) K (fun G => some (va_rf (kr G q))) K' ∧ (∀ r Sx, RD X n r Sx p' S' → RD X n r Sx p S) ∧ RJ tx n rf K' S' (jk' ++ l) p' n1' ∧ JPK tx n p' jk' ∧ RCD K' S'.2 rf f q n1 n1' K.1.1 K'.1.1 ∧ K'.2.2.1 q 6 = 0 ∧ KRX K.1.1 K.1.1 K K' ∧ RFX rf n1 l.length n1 S S' ∧ K'.1.1 ≤ K.1.1 + (p' - p) ∧ p < p' := by
  obtain ⟨⟨r1, r2, r3, r4⟩, ps, ⟨r5, r6, r7, r8, r9⟩, r10, r11⟩ := id rj
  have jl := hj.1
  have hlen : (jk ++ (210, nI d, 0) :: l : List cp_I).length ≤ 400 := by rw [List.length_append, List.length_cons]; omega
  by_cases hpn : p = n
  · subst hpn
    exact Or.inl ⟨K, S, p, (pieceC_end rj).mono (by omega), r1, ⟨Nat.le_refl _, Nat.le_refl _⟩, rd_end_no ps hlen r5 (i := (210, nI d, 0)) (List.mem_append.mpr (Or.inr List.mem_cons_self)) nm210, KRX.refl, RFX.refl, by omega⟩
  · have hp : p < n := by omega
    obtain ⟨T, t1, t2, t3⟩ := rd_code (X := X) ps hlen hp r5 (fun j h => by rw [(r10 p hp).2.2]; exact (hj.2 j h).2 hp)
    have rjT : RJ tx n rf K T l p n1 := rj.mvz (KRX.refl (q0 := 0) (ql := 0)) (by rw [t2.2]) t1 r1 r6 ⟨r7, r8⟩ (r11.eq (fun x _ => by rw [t2.2]) (Nat.le_refl _)) (by omega)
    rcases hC d K T l p n1 hdf hd rjT hp hl with ⟨K', S', p', a1, a2, a3, a4, a5, a6, a7⟩ | ⟨K', S', p', n1', jk', q, a1, a2, a3, a4, a5, a6, a7, a8, a9, a10⟩
    · exact Or.inl ⟨K', S', p', a1, a2, a3, t3 _ _ a4, a5, t2.rfx.trans a6 (Nat.le_refl _) (Nat.le_refl _) (Or.inl rfl), a7⟩
    · exact Or.inr ⟨K', S', p', n1', jk', q, a1, fun r Sx w => t3 _ _ (a2 r Sx w), a3, a4, a5, a6, a7, t2.rfx.trans a8 (Nat.le_refl _) (Nat.le_refl _) (Or.inl rfl), a9, a10⟩
/-- a code is read into q0 -/
theorem codeAt {f d q0 ql : Nat} (hC : CJ X tx n rf f) (hdf : d + f = 13) (hd : 1 ≤ d) (rj : RJ tx n rf K S (jk ++ (210, nI d, 0) :: l) p n1) (hj : JPK tx n p jk) (hl : l.length ≤ 8 * d + 20) (hq0 : nd K q0 9) (hlast : LSP K q0 ql) :
    (∃ (K' : cp_K) (S' : cp_S) (p' : Nat), KC (11 + 6 * f) m_Q_withPiece (fun G => [.ref (cp_b G + 21), va_rf (kr G q0), .int 3, .int (nI d)]) K (fun G => some (va_rf (kr G 0))) K' ∧ K'.2.1 21 2 = nI p' ∧ (p ≤ p' ∧ p' ≤ n) ∧ RD X n (some (.int (nI p'))) S' p S ∧ KRX K.1.1 K.1.1 K K' ∧ RFX rf n1 l.length n1 S S' ∧ K'.1.1 ≤ K.1.1 + (p' - p)) ∨
    ∃ (K2 : cp_K) (S' : cp_S) (p' n1' : Nat) (jk' : List cp_I) (q : Nat), KC (11 + 6 * f) m_Q_withPiece (fun G => [.ref (cp_b G + 21), va_rf (kr G q0), .int 3, .int (nI d)]) K (fun G => some (va_rf (kr G q0))) K2 ∧ (∀ r Sx, RD X n r Sx p' S' → RD X n r Sx p S) ∧ RJ tx n rf K2 S' (jk' ++ l) p' n1' ∧ JPK tx n p' jk' ∧ RCD K2 S'.2 rf f q n1 n1' K.1.1 K2.1.1 ∧ K2.2.2.1 q 6 = 0 ∧ (K2.2.1 q0 3 = K.2.1 q0 3 + 1 ∧ K2.2.2.1 q0 5 = q ∧ (K.2.2.1 q0 5 = 0 → K2.2.2.1 q0 4 = q) ∧ (¬ K.2.2.1 q0 5 = 0 → K2.2.2.1 q0 4 = K.2.2.1 q0 4 ∧ K2.2.2.1 ql 6 = q)) ∧ KRX q0 ql K K2 ∧ RFX rf n1 l.length n1 S S' ∧ K2.1.1 ≤ K.1.1 + (p' - p) ∧ p < p' := by
  have q0lt := hq0.2.1
  have q086 := hq0.1
  rcases pieceAt hC hdf hd rj hj hl with ⟨K', S', p', a1, a2, a3, a4, a5, a6, a7⟩ | ⟨K1, S', p', n1', jk', q, a1, a2, a3, a4, a5, a6, a7, a8, a9, a10⟩
  · exact Or.inl ⟨K', S', p', (c_Q_withPiece (D := 3 + 6 * f) ⟨fun _ => ⟨0, K', a1.mono (by omega), fun h => absurd rfl h, fun _ => ⟨rfl, rfl⟩⟩, fun h => absurd h (by omega)⟩).mono (by omega), a2, a3, a4, a5, a6, a7⟩
  · obtain ⟨⟨b1, b2, b3, b4⟩, ps1, ⟨b5, b6, b7, b8, b9⟩, b10, b11⟩ := id a3
    have lt := RCD.lt _ _ _ _ _ _ a5
    obtain ⟨⟨nq1, nql1⟩, k02, ⟨qx, hqx, kx2⟩, n2, c3, c5, c4, c46, c21⟩ := addK (c := q) a7 hq0 hlast
    obtain ⟨K2, hK2⟩ : ∃ K2 : cp_K, K2 = nadd K1 q0 q := ⟨_, rfl⟩
    rw [← hK2] at k02 kx2 n2 c3 c5 c4 c46 c21
    have kc : KC (11 + 6 * f) m_Q_withPiece (fun G => [.ref (cp_b G + 21), va_rf (kr G q0), .int 3, .int (nI d)]) K (fun G => some (va_rf (kr G q0))) K2 := (c_Q_withPiece (D := 3 + 6 * f) ⟨fun _ => ⟨q, K1, a1.mono (by omega), fun _ => ⟨nq1, nql1, rfl, hK2⟩, fun h => absurd h (by omega)⟩, fun h => absurd h (by omega)⟩).mono (by omega)
    refine Or.inr ⟨K2, S', p', n1', jk', q, kc, a2, a3.mvz kx2 rfl ps1 (by rw [c21]; exact b1) b6 ⟨b7, b8⟩ b11 (by omega), a4, ?_, ?_, ⟨c3, c5, c4, c46⟩, k02, a8, by omega, a10⟩
    · rw [n2]
      exact a5.kept kx2 (Nat.le_refl _) (by omega) (Or.inl (by omega)) (by omega) SAB.refl
    · rw [kx2.2.2.2.2.2.1 q (by omega) 6 (Or.inl (by omega)) (Or.inl (by omega))]; exact a6
/-- a character must stand there -/
theorem chrAt {wc : Nat} {x y : Int32} (rj : RJ tx n rf K S (jk ++ (nI wc, x, y) :: l) p n1) (hj : JPK tx n p jk) (hw : wc < 200) (hw0 : 0 < wc) (hl : l.length ≤ 390) :
    (qpk K = nI wc ∧ p < n ∧ ∃ T, qtk K (nI wc) = kI K 21 2 (nI (p + 1)) ∧ RJ tx n rf (kI K 21 2 (nI (p + 1))) T l (p + 1) n1 ∧ SPO S T ∧ ∀ o Sx, RD X n o Sx (p + 1) T → RD X n o Sx p S) ∨ (¬ qpk K = nI wc ∧ ∃ T, SPO S T ∧ RD X n (some (.int (nI p))) T p S) := by
  obtain ⟨⟨r1, r2, r3, r4⟩, ps, ⟨r5, r6, r7, r8, r9⟩, r10, r11⟩ := id rj
  have jl := hj.1
  have hlen : (jk ++ (nI wc, x, y) :: l : List cp_I).length ≤ 400 := by rw [List.length_append, List.length_cons]; omega
  by_cases hpn : p = n
  · subst hpn
    refine Or.inr ⟨?_, S, ⟨fun _ _ => rfl, rfl⟩, rd_end_no ps hlen r5 (i := (nI wc, x, y)) (List.mem_append.mpr (Or.inr List.mem_cons_self)) ?_⟩
    · rw [rj.pk0]
      exact fun h => absurd ((nI_ch (c := 0) (a := wc) (by omega) (by omega)).mp h) (by omega)
    · rintro (h | h | h | ⟨h, -⟩)
      · have := (nI_ch (c := wc) (a := 201) (by omega) (by omega)).mp h; omega
      · have := (nI_ch (c := wc) (a := 211) (by omega) (by omega)).mp h; omega
      · have := (nI_ch (c := wc) (a := 215) (by omega) (by omega)).mp h; omega
      · have := (nI_ch (c := wc) (a := 218) (by omega) (by omega)).mp h; omega
  · have hp : p < n := by omega
    have hc : tx p < 200 := by have := (r10 p hp).1; omega
    obtain ⟨T, t1, t2, t3⟩ := tk_jk (p := p) (c := nI (tx p)) jk S ps hlen (fun j h => (hj.2 j h).2 hp)
    have hl2 : l.length < 400 := by omega
    have hi : ¬ (200 : Int32) ≤ nI wc := fun h => by have := (nI_leq (a := 200) (b := wc) (by omega) (by omega)).mp h; omega
    by_cases e : tx p = wc
    · have qe : qpk K = nI wc := by rw [rj.pk hp, e]
      refine Or.inl ⟨qe, hp, popS T l.length, ?_, ?_, t2.trans pop_spo, fun o Sx w => rd_step hp r5 (r10 p hp).2.2 (t3 (some (.int 1)) _ (tk_char t1 hl2 hi ⟨fun _ => ⟨rfl, rfl⟩, fun h => absurd (by rw [e]) h⟩)) (fun _ => w) (fun q => absurd q (by decide))⟩
      · rw [qtk_eq (p := 0) qe, r1, nI_1]
      · exact rj.mvz (q0 := 0) (ql := 0) KRX_at (by rw [pop_2, t2.2]) (PS.pop t1) (by rw [kI_i, va_up_at, va_up_at]) (by omega) ⟨r7, by omega⟩ (r11.eq (fun x _ => by rw [pop_2, t2.2]) (by omega)) (by omega)
    · have qe : ¬ qpk K = nI wc := by rw [rj.pk hp]; exact nI_cc hc hw e
      exact Or.inr ⟨qe, popS T l.length, t2.trans pop_spo, rd_step hp r5 (r10 p hp).2.2 (t3 (some (.int 0)) _ (tk_char t1 hl2 hi ⟨fun h => absurd ((nI_ch (by omega) (by omega)).mp h) e, fun _ => ⟨rfl, rfl⟩⟩)) (fun q => absurd rfl q) (fun _ => ⟨rfl, rfl⟩)⟩
end CPNX
