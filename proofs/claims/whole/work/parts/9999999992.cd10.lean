/-! ===== reading codes: a case, the cases, both sides ===== -/
section CPCA
variable {X : Int32 × Int32 × Int32} {tx : Nat → Nat} {n rf : Nat} {K : cp_K} {S : cp_S} {L : List cp_I} {p n1 f d : Nat}
theorem PTI.kept {K K2 : cp_K} {b b2 : Nat → Nat → Int32} {vs : List Nat} {q i q0 qx : Nat} (h : PTI K b rf q i vs) (k : KRX q0 qx K K2) (ha : q + 1 + vs.length ≤ K.1.1) (h86 : 86 ≤ q) (hq : q0 < q ∨ q + 1 + vs.length ≤ q0) (hx : qx = q ∨ qx < q ∨ q + 1 + vs.length ≤ qx) (hb : SAB b b2 rf i (i + 1 + vs.length)) : PTI K2 b2 rf q i vs := h.loc k.1 (fun x x1 x2 => ⟨fun g => k.2.2.2.1 x (by omega) (by omega) g (Or.inl (by omega)), k.2.1 x (by omega), k.2.2.2.2.2.1 x (by omega) 4 (Or.inl (by omega)) (Or.inr (by decide)), k.2.2.2.2.2.1 x (by omega) 5 (Or.inl (by omega)) (Or.inr (by decide))⟩) (fun y y1 y2 => k.2.2.2.2.2.1 y (by omega) 6 (Or.inl (by omega)) (Or.inl (by omega))) hb
/-- a case, both sides -/
theorem caseAt (hC : CJ X tx n rf f) (hdf : d + 1 + f = 13) (rj : RJ tx n rf K S ((214, 0, 0) :: (nI 62, 0, 0) :: (210, nI (d + 1), 0) :: L) p n1) (hL : L.length ≤ 8 * (d + 1) + 20) :
    (∃ (K' : cp_K) (S' : cp_S) (p' : Nat), KCS f d 0 K K' ∧ K'.2.1 21 2 = nI p' ∧ (p ≤ p' ∧ p' ≤ n) ∧ RD X n (some (.int (nI p'))) S' p S ∧ KRX K.1.1 K.1.1 K K' ∧ RFX rf n1 L.length n1 S S' ∧ K'.1.1 ≤ K.1.1 + (p' - p) + 1) ∨
    ∃ (K' : cp_K) (S' : cp_S) (p' n1' : Nat) (jk : List cp_I) (vs : List Nat), KCS f d K.1.1 K K' ∧ (∀ r Sx, RD X n r Sx p' S' → RD X n r Sx p S) ∧ RJ tx n rf K' S' (jk ++ L) p' n1' ∧ JPK tx n p' jk ∧ (nd K' K.1.1 9 ∧ K'.2.1 K.1.1 0 = 10 ∧ K'.2.2.1 K.1.1 4 = K.1.1 + 1 ∧ PTI K' S'.2 rf (K.1.1 + 1) n1 vs ∧ RCD K' S'.2 rf f (K'.2.2.1 K.1.1 5) (n1 + 1 + vs.length) n1' (K.1.1 + 2 + vs.length) K'.1.1) ∧ K'.2.2.1 K.1.1 6 = 0 ∧ KRX K.1.1 K.1.1 K K' ∧ RFX rf n1 L.length n1 S S' ∧ K'.1.1 ≤ K.1.1 + (p' - p) + 1 ∧ p < p' := by
  have h86 := rj.1.2.2.2
  have hr := rj.2.2.1.2.2.1
  rcases patAt (X := X) (f := f) (d := d) rj (by simp only [List.length_cons]; omega) with ⟨K', S', p', a1, a2, a3, a4, a5, a6, a7⟩ | ⟨K3, S3, p3, jk, vs, a1, a2, a3, a4, a5, a6, ⟨a7, a8, a9, a10, a11, a12⟩, a13, a14, a15⟩
  · exact Or.inl ⟨K', S', p', a1, a2, a3, a4, a5, a6.wk (Nat.le_refl _) (by simp only [List.length_cons]; omega) (Or.inl rfl), a7⟩
  have ok3 := a3.1.2.2.1
  have f3 : RFX rf n1 L.length n1 S S3 := a14.wk (Nat.le_refl _) (by simp only [List.length_cons]; omega) (Or.inl rfl)
  rw [show 12 + 6 * f = 4 + 6 * f + 8 by omega] at a1
  rcases chrAt (X := X) (wc := 62) a3 a4 (by omega) (by omega) (by simp only [List.length_cons]; omega) with ⟨b1, b2, T, b3, b4, b5, b6⟩ | ⟨b1, T, b2, b3⟩
  case inr =>
    refine Or.inl ⟨K3, T, p3, a1 0 K3 (b_Q_readCase_63 (D := 4 + 6 * f) ⟨ok3, fun _ => ?_, fun q => absurd (ife0 b1) q⟩), a3.1.1, ⟨by omega, a3.2.2.1.2.1⟩, a2 _ _ b3, a13, f3.trans (b2.rfx (n1 := n1) (i0 := n1)) (Nat.le_refl _) (Nat.le_refl _) (Or.inl rfl), by omega⟩
    have b1' : ¬ qpk K3 = 62 := b1
    rw [qtk_ne b1']; exact ⟨rfl, rfl⟩
  have b1' : qpk K3 = 62 := b1
  have b3' : qtk K3 62 = kI K3 21 2 (nI (p3 + 1)) := b3
  obtain ⟨K4, hK4⟩ : ∃ K4 : cp_K, K4 = kI K3 21 2 (nI (p3 + 1)) := ⟨_, rfl⟩
  rw [← hK4] at b3' b4
  have k34 : ∀ x y, KRX x y K3 K4 := fun x y => by rw [hK4]; exact KRX_at
  have n4 : K4.1.1 = K3.1.1 := by rw [hK4]; rfl
  have rr4 : ∀ x g, K4.2.2.1 x g = K3.2.2.1 x g := fun x g => by rw [hK4]; rfl
  have i4 : ∀ x g, x ≠ 21 → K4.2.1 x g = K3.2.1 x g := fun x g hx => by rw [hK4, kI_i, cp_up_ne hx]
  have kc : ∀ (r : Nat) (K' : cp_K), KC (11 + 6 * f) m_Q_withPiece (fun G => [.ref (cp_b G + 21), va_rf (kr G K.1.1), .int 3, .int (nI (d + 1))]) K4 (fun G => some (va_rf (kr G r))) K' → KCS f d r K K' := fun r K' w => a1 r K' (b_Q_readCase_63 (D := 4 + 6 * f) ⟨ok3, fun q => absurd q (ife1 b1'), fun _ => ⟨r, K', by rw [b3']; exact w.mono (by omega), rfl, rfl⟩⟩)
  have f4 : RFX rf n1 L.length n1 S T := f3.trans (b5.rfx (n1 := n1) (i0 := n1)) (Nat.le_refl _) (Nat.le_refl _) (Or.inl rfl)
  have k4 : KRX K.1.1 K.1.1 K K4 := a13.trans (k34 K.1.1 K.1.1) (Or.inl rfl) (Or.inl rfl)
  rcases codeAt (jk := []) (q0 := K.1.1) (ql := K.1.1 + 1) hC (by omega) (by omega) b4 JPK.nil hL ((k34 0 0).nd a7) (Or.inr ⟨by rw [rr4]; exact a10, by omega, (k34 0 0).nd a12⟩) with ⟨K', S', p', c1, c2, c3, c4, c5, c6, c7⟩ | ⟨K', S', p', n1', jk', q2, c1, c2, c3, c4, c5, c6, ⟨c7, c8, -, c9⟩, c10, c11, c12, c13⟩
  · exact Or.inl ⟨K', S', p', kc 0 K' c1, c2, ⟨by omega, c3.2⟩, a2 _ _ (b6 _ _ c4), k4.trans c5 (Or.inr (by omega)) (Or.inr (by omega)), f4.trans c6 (by omega) (Nat.le_refl _) (Or.inr (by omega)), by omega⟩
  obtain ⟨e4, e6⟩ := c9 (by rw [rr4, a10]; omega)
  have lt := RCD.lt _ _ _ _ _ _ c5
  have le := c10.1
  refine Or.inr ⟨K', S', p', n1', jk', vs, kc _ K' c1, fun r Sx w => a2 _ _ (b6 _ _ (c2 r Sx w)), c3, c4, ⟨c10.nd ((k34 0 0).nd a7), ?_, ?_, ?_, ?_⟩, ?_, k4.trans c10 (Or.inl rfl) (Or.inr (by omega)), f4.trans c11 (by omega) (Nat.le_refl _) (Or.inr (by omega)), by omega, by omega⟩
  · rw [c10.2.2.2.1 _ (by omega) (by omega) 0 (Or.inr (by decide)), i4 _ _ (by omega)]; exact a8
  · rw [e4, rr4]; exact a9
  · have z : PTI K4 T.2 rf (K.1.1 + 1) n1 vs := a5.kept (k34 K.1.1 0) (by omega) (by omega) (Or.inl (by omega)) (Or.inr (Or.inl (by omega))) (fun x _ _ => by rw [b5.2]; exact ⟨rfl, rfl, rfl, rfl⟩)
    exact z.kept c10 (by omega) (by omega) (Or.inl (by omega)) (Or.inl rfl) (c11.sab (by omega) (by omega) (Or.inr (by omega)))
  · rw [c8]
    rw [n4, a6] at c5
    exact c5
  · rw [c10.2.2.2.2.2.1 _ (by omega) 6 (Or.inr ⟨by decide, by decide⟩) (Or.inl (by omega)), rr4]; exact a11
end CPCA
section CPR5B
variable {X : Int32 × Int32 × Int32} {n p rf n1 : Nat} {S : cp_S} {l : List cp_I}
theorem ns213 {c a b : Int32} : ¬ SKP c (213, a, b) := nsk (by show ¬ (213 : Int32) = 201; decide) (by show ¬ (213 : Int32) = 211; decide) (by show ¬ (213 : Int32) = 215; decide)
theorem nm213 {a b : Int32} : ¬ may (213, a, b) := nmy (w := 213) rfl (by decide) (by decide) (by decide) (by decide)
/-- CASES -/
theorem rd_cases {i0 d c t : Nat} {jk : List cp_I} (h : PS S (jk ++ (213, nI i0, nI d) :: l) n1 rf) (hl : (jk ++ (213, nI i0, nI d) :: l).length ≤ 390) (hp : p < n) (hn : n ≤ 80) (hc : S.2 27 p = nI c) (hc2 : c < 200) (hj : ∀ j ∈ jk, SKP (nI c) j) (hi : i0 < 2720) (ht : t ≤ 5) (h6 : S.2 41 i0 = nI t) :
    (c = 125 ∧ 0 < t → ∃ T, PS T l n1 rf ∧ SPO S T ∧ ∀ o Sx, RD X n o Sx (p + 1) T → RD X n o Sx p S) ∧
    (c = 124 ∧ t < 5 → ∃ T, PS T ((214, 0, 0) :: (nI 62, 0, 0) :: (210, nI (d + 1), 0) :: (213, nI i0, nI d) :: l) n1 rf ∧ RFX rf n1 l.length i0 S T ∧ T.2 41 i0 = nI (t + 1) ∧ ∀ o Sx, RD X n o Sx (p + 1) T → RD X n o Sx p S) ∧
    (¬ (c = 125 ∧ 0 < t) → ¬ (c = 124 ∧ t < 5) → ∃ T, SPO S T ∧ RD X n (some (.int (nI p))) T p S) := by
  obtain ⟨T, t1, t2, t3⟩ := tk_jk (p := p) jk S h (by omega) hj
  have hl2 : l.length < 390 := by rw [List.length_append, List.length_cons] at hl; omega
  have v := vp_in_nI (show i0 < 2720 by omega) (show 2720 < 2 ^ 31 by decide)
  have e : (popS T l.length).2 41 (Int32.toNatClampNeg (nI i0)) = nI t := by rw [nI_clamp (by omega), pop_2, t2.2, h6]
  have cc : ∀ a, a < 200 → (nI c = nI a ↔ c = a) := fun a ha => nI_ch (by omega) (by omega)
  have tk := fun (r : Int32) (hr : r = 0 ∨ r = 1) (U : cp_S) => tk_code (S' := U) (r := r) (c := nI c) (p := nI p) t1 (by omega) ns213 (by show (200 : Int32) ≤ 213; decide) (by show (209 : Int32) ≤ 213; decide) hr
  refine ⟨fun k => ⟨popS T l.length, PS.pop t1, t2.trans pop_spo, fun o Sx w => rd_step hp hn hc (t3 _ _ (tk 1 (Or.inr rfl) _ (tc_213c ((cc 125 (by omega)).mpr k.1) v (by rw [e]; exact fun q => by have := (nI_leq (a := t) (b := 0) (by omega) (by omega)).mp q; omega)))) (fun _ => w) (fun q => absurd q (by decide))⟩, fun k => ?_, fun k1 k2 => ⟨popS T l.length, t2.trans pop_spo, rd_step hp hn hc (t3 _ _ (tk 0 (Or.inl rfl) _ ?_)) (fun q => absurd rfl q) (fun _ => ⟨rfl, rfl⟩)⟩⟩
  · have p0 : PS (cntS (popS T l.length) i0 (nI (t + 1))) l n1 rf := PS.cnt (PS.pop t1)
    have p1 := p0.push (w := 213) (x := nI i0) (y := nI d)
    have p2 := p1.push (w := 210) (x := nI (d + 1)) (y := 0)
    have p3 := p2.push (w := 62) (x := 0) (y := 0)
    have p4 := p3.push (w := 214) (x := 0) (y := 0)
    have m1 := MC_push (w := 213) (x := nI i0) (y := nI d) p0 (by omega)
    have m2 := MC_push (w := 210) (x := nI (d + 1)) (y := 0) p1 (by simp only [List.length_cons]; omega)
    have m3 := MC_push (w := 62) (x := 0) (y := 0) p2 (by simp only [List.length_cons]; omega)
    have m4 := MC_push (w := 214) (x := 0) (y := 0) p3 (by simp only [List.length_cons]; omega)
    simp only [List.length_cons] at p2 p3 p4 m2 m3 m4
    obtain ⟨U, hU⟩ : ∃ U : cp_S, U = pshS (pshS (pshS (pshS (cntS (popS T l.length) i0 (nI (t + 1))) l.length 213 (nI i0) (nI d)) (l.length + 1) 210 (nI (d + 1)) 0) (l.length + 1 + 1) 62 0 0) (l.length + 1 + 1 + 1) 214 0 0 := ⟨_, rfl⟩
    rw [← hU] at p4 m4
    refine ⟨U, p4, ?_, ?_, fun o Sx w => rd_step hp hn hc (t3 _ _ (tk 1 (Or.inr rfl) _ (tc_213n (T23 := pshS (cntS (popS T l.length) i0 (nI (t + 1))) l.length 213 (nI i0) (nI d)) (fun q => by have := (cc 125 (by omega)).mp q; omega) ((cc 124 (by omega)).mpr k.1) v (by rw [e]; exact nI_cc (a := 5) (by omega) (by omega) (by omega)) ?_ ?_ m3 m4))) (fun _ => w) (fun q => absurd q (by decide))⟩
    · rw [hU]
      exact ((t2.rfx (n1 := n1) (len := l.length) (i0 := i0)).trans ((pop_spo.rfx (n1 := n1) (len := l.length) (i0 := i0)).trans (cnt_rfx (m := n1) (len := l.length)) (Nat.le_refl _) (Nat.le_refl _) (Or.inl rfl)) (Nat.le_refl _) (Nat.le_refl _) (Or.inl rfl)).trans ((((psh_sto (len := l.length) (Nat.le_refl _)).trans (psh_sto (len := l.length) (by omega)) (Nat.le_refl _)).trans (psh_sto (len := l.length) (by omega)) (Nat.le_refl _)).trans (psh_sto (len := l.length) (by omega)) (Nat.le_refl _)).rfx (Nat.le_refl _) (Nat.le_refl _) (Or.inl rfl)
    · rw [hU, psh_2 (by omega), psh_2 (by omega), psh_2 (by omega), psh_2 (by omega), cnt_at, if_pos rfl]
    · show MC 0 m_M_push [.int 213, .int (nI i0), .int (nI d)] ((popS T l.length).1, va_up (popS T l.length).2 41 (upd ((popS T l.length).2 41) (Int32.toNatClampNeg (nI i0)) ((popS T l.length).2 41 (Int32.toNatClampNeg (nI i0)) + 1))) none _
      rw [e, nI_clamp (show i0 < 2 ^ 31 by omega), nI_1]
      exact m1
    · show MC 0 m_M_push [.int 210, .int (nI d + 1), .int 0] _ none _
      rw [nI_1]; exact m2
  · by_cases e125 : c = 125
    · exact tc_213z ((cc 125 (by omega)).mpr e125) v (by rw [e]; exact (nI_leq (a := t) (b := 0) (by omega) (by omega)).mpr (by omega))
    · have n125 : ¬ nI c = 125 := fun q => e125 ((cc 125 (by omega)).mp q)
      by_cases e124 : c = 124
      · have : t = 5 := by omega
        exact tc_213f n125 ((cc 124 (by omega)).mpr e124) v (by rw [e, this]; rfl)
      · exact tc_213o n125 (fun q => e124 ((cc 124 (by omega)).mp q))
end CPR5B
