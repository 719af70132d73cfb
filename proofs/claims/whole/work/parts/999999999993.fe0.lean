/-! ===== the face: the start of the typer; weights of a term; rows of a value; a star ===== -/
section CPFE
variable {K K1 K2 K' : cp_K} {S S1 S2 S' : cp_S} {Ls : List Nat} {rf P c c1 c2 : Nat} {ar : Nat → Nat} {b : Nat → Nat → Int32} {pl : Nat → Nat → Prop}
theorem g_s {x : Nat} : gI b (x + 1) = gI b x + (if b 39 x = 5 ∧ ¬ b 41 x = 0 then 1 else 0) ∧ gS b (x + 1) = gS b x + (if b 39 x = 5 then (if b 41 x = 0 then 1 else 6 - (b 41 x).toNatClampNeg) else 0) ∧ gH b (x + 1) = gH b x + (if b 39 x = 4 then 1 else 0) := ⟨rfl, rfl, rfl⟩
def GWT (b : Nat → Nat → Int32) (m i j : Nat) : Prop := gS b j + gH b j + 5 * gI b i ≤ 5 * gI b j + m + gS b i + gH b i ∧ gH b j + gI b j + i ≤ j + gH b i + gI b i ∧ gS b i ≤ gS b j ∧ gH b i ≤ gH b j ∧ gI b i ≤ gI b j
theorem GWT_ch {k : Nat} (ih : ∀ q i j, TR K b pl k q i j → GWT b 1 i j) : ∀ (m q i j : Nat), CHN (TR K b pl k) K m q i j → GWT b m i j
  | 0, q, i, j, h => by
    have := h.2
    subst this
    exact ⟨by omega, by omega, Nat.le_refl _, Nat.le_refl _, Nat.le_refl _⟩
  | m + 1, q, i, j, h => by
    obtain ⟨-, i', h1, h2⟩ := h
    obtain ⟨a1, a2, a3, a4, a5⟩ := ih _ _ _ h1
    obtain ⟨b1, b2, b3, b4, b5⟩ := GWT_ch ih m _ _ _ h2
    exact ⟨by omega, by omega, by omega, by omega, by omega⟩
theorem GWT_tr : ∀ (k q i j : Nat), TR K b pl k q i j → GWT b 1 i j
  | 0, _, _, _, h => h.elim
  | k + 1, q, i, j, h => by
    obtain ⟨g1, g2, g3⟩ := g_s (b := b) (x := i)
    obtain ⟨-, -, h⟩ := h
    have leaf : ∀ s : Int32, b 39 i = s → ¬ s = 5 → j = i + 1 → GWT b 1 i j := fun s h1 h2 h3 => by
      subst h3
      rw [if_neg (fun q => h2 (h1.symm.trans q.1))] at g1
      rw [if_neg (fun q => h2 (h1.symm.trans q))] at g2
      unfold GWT
      rw [g1, g2, g3]
      split
      · exact ⟨by omega, by omega, by omega, by omega, by omega⟩
      · exact ⟨by omega, by omega, by omega, by omega, by omega⟩
    rcases h with h | h | h | h | ⟨-, h1, cc, m, -, hm, -, -, -, h2, h3⟩
    · exact leaf 1 h.2.1 (by decide) h.2.2.2
    · exact leaf 2 h.2.1 (by decide) h.2.2.2
    · exact leaf 3 h.2.1 (by decide) h.2.2.2
    · exact leaf 4 h.2.1 (by decide) h.2.2
    · obtain ⟨b1, b2, b3, b4, b5⟩ := GWT_ch (GWT_tr k) m _ _ _ h3
      rw [if_neg (by rw [h1]; decide)] at g3
      rw [if_pos h1] at g2
      by_cases m0 : m = 0
      · have z : b 41 i = 0 := by rw [h2, m0]; rfl
        rw [if_neg (fun q => q.2 z)] at g1
        rw [if_pos z] at g2
        exact ⟨by omega, by omega, by omega, by omega, by omega⟩
      · have z : ¬ b 41 i = 0 := by rw [h2]; exact nI_ne0 (by omega) (by omega)
        rw [if_pos ⟨h1, z⟩] at g1
        rw [if_neg z, h2, nI_clamp (by omega)] at g2
        exact ⟨by omega, by omega, by omega, by omega, by omega⟩
/-- where the nodes of a text lie -/
def plx (K : cp_K) (S : cp_S) (rf n1 : Nat) : Nat → Nat → Prop := fun q i => rf ≤ i ∧ i < n1 ∧ 86 ≤ q ∧ K.2.1 q 2 = S.2 42 (i - rf)
theorem tst_0 {n1 np : Nat} (hd : DIC K S.2 ar ∧ DCN K S.2 ar) (h7 : rsz K 7 = 0) (hB : BS K 0) (h9 : rsz K 9 < 16000) (h11 : rsz K 11 < 16000) (h35 : S.1 35 = 0) (h40 : S.1 40 = 0) (h42 : S.1 42 = 0) (h64 : ∀ c, c < 26 → S.2 64 c = -1) (h20 : S.1 20 = nI rf) (h245 : K.2.1 24 5 = 0) (h24 : K.2.1 24 4 = 0 ↔ S.1 58 = 0) (hp : PLI S rf n1 np) (hn1 : n1 - rf ≤ 82) (hn2 : n1 ≤ 2720) (hnp : np ≤ 100) : TST ar rf (plx K S rf n1) 0 0 K S (fun _ _ => False) 0 0 [] 0 0 L0 := by
  refine ⟨⟨⟨⟨⟨⟨fun _ _ h => h.elim, fun _ _ _ _ h => h.elim, fun _ _ _ _ h => h.elim⟩, fun _ _ h => h.elim, ⟨fun _ _ h => h.elim, fun _ _ h => h.elim⟩, Nat.le_refl _, Nat.zero_le _, by omega, by omega, by omega⟩, fun h hh => (by cases hh), ⟨fun _ _ _ _ h => h.elim, fun _ _ h => h.elim⟩⟩, ⟨h35, h40⟩, h9, h11⟩, h42, ⟨fun _ _ _ _ h => h.elim, fun _ _ _ _ _ _ _ h => h.elim⟩, fun h hh => (by cases hh), fun h hh => (by cases hh)⟩, rfl, fun c hc => Or.inl ⟨h64 c hc, fun ix hx => absurd hx (by omega)⟩, hd, ⟨h20, fun p i q => ?_, fun p i i' q q' => ?_⟩, hB, Nat.le_refl _, h245, h24⟩
  · obtain ⟨q1, q2, q3, q4⟩ := q
    obtain ⟨w, w1, w2⟩ := hp.1 i q1 q2
    exact ⟨q1, by omega, ⟨by omega, w, by omega, w2⟩, q3, q4⟩
  · obtain ⟨q1, q2, q3, q4⟩ := q
    obtain ⟨r1, r2, r3, r4⟩ := q'
    have lt : ∀ x y, rf ≤ x → x < y → y < n1 → S.2 42 (x - rf) = S.2 42 (y - rf) → False := fun x y h1 h2 h3 h4 => by
      obtain ⟨w, w', w1, w2, w3, w4⟩ := hp.2 x y h1 h2 h3
      rw [w3, w4] at h4
      exact absurd ((nI_eq (by omega) (by omega)).mp h4) (by omega)
    rcases Nat.lt_trichotomy i i' with g | g | g
    · exact (lt i i' q1 g r2 (q4.symm.trans r4)).elim
    · exact g
    · exact (lt i' i r1 g q2 (r4.symm.trans q4)).elim
/-- the rows of a drawn value -/
theorem VT.rows {f : Nat → Int32} {N : Nat} {a : Nat → Nat → Int32} {nv nc C : Nat} {ρ : Nat → Nat → Prop} {hl : List Nat} (V : VI f N a nv nc ρ hl C) (h5 : ∀ v r, ρ v r → ¬ f v = 5) (hA : AR ar f ρ) : ∀ (k v r i j : Nat), VT f N a ρ b k v r i j → ∀ x, i ≤ x → x < j → (b 79 x = 2 ∨ b 79 x = 3 ∨ b 79 x = 5) ∧ (b 79 x = 5 → ¬ b 80 x = -1 → ∃ c n, c < 26 ∧ b 80 x = nI c ∧ n ≤ 6 ∧ b 81 x = nI n ∧ n = ar c)
  | 0, _, _, _, _, h => h.elim
  | k + 1, v, r, i, j, h => by
    obtain ⟨h0, A, h1, h2, h3, h4, h5', h6, h7, h8⟩ := h
    obtain ⟨g1, g2, -, -⟩ := lk_spec V h0
    have hd : (b 79 i = 2 ∨ b 79 i = 3 ∨ b 79 i = 5) ∧ (b 79 i = 5 → ¬ b 80 i = -1 → ∃ c n, c < 26 ∧ b 80 i = nI c ∧ n ≤ 6 ∧ b 81 i = nI n ∧ n = ar c) := by
      rw [h5', h6, h7]
      refine ⟨?_, fun e1 e2 => ?_⟩
      · split
        · exact Or.inl rfl
        · split
          · exact Or.inr (Or.inl rfl)
          · exact Or.inr (Or.inr rfl)
      · obtain ⟨-, -, vc⟩ := V.1.1 _ _ g1
        rcases vc with q | q | q | q | q
        · rw [if_pos q.2.1] at e1; exact absurd e1 (by decide)
        · rw [if_neg (by rw [q.2.1]; decide), if_pos q.2.1] at e1; exact absurd e1 (by decide)
        · exact absurd q.1 (h5 _ _ g1)
        · obtain ⟨q1, q2, q3, q4, q5⟩ := q
          rcases q5 with q5 | ⟨v', r', q5, q6, q7⟩
          · exact absurd q5.2 e2
          · exact absurd ⟨q1, by rw [q5]; exact nI_m1 (by have := (V.1.1 _ _ q7).1; have := V.2.2.2.2.2.2.2; omega)⟩ g2
        · obtain ⟨q1, q2, l, m, t, w1, w2, w3, w4, w5, w6, -⟩ := q
          have e : m = A.length := (nI_eq (by omega) (by omega)).mp (w5.symm.trans h2)
          exact ⟨l, m, w1, w4, w2, by rw [e], hA.1 _ _ l m g1 q1 w1 w2 w3 w5⟩
    have ch : ∀ (A : List (Nat × Nat)) (i j : Nat), VTL (VT f N a ρ b k) A i j → ∀ x, i ≤ x → x < j → (b 79 x = 2 ∨ b 79 x = 3 ∨ b 79 x = 5) ∧ (b 79 x = 5 → ¬ b 80 x = -1 → ∃ c n, c < 26 ∧ b 80 x = nI c ∧ n ≤ 6 ∧ b 81 x = nI n ∧ n = ar c) := by
      intro A
      induction A with
      | nil => intro i j e x x1 x2; have : i = j := e; omega
      | cons q A ih =>
        intro i j e x x1 x2
        obtain ⟨i', e1, e2⟩ := e
        by_cases hx : x < i'
        · exact VT.rows V h5 hA k _ _ _ _ e1 x x1 hx
        · exact ih _ _ e2 x (by omega) x2
    intro x x1 x2
    by_cases hx : x = i
    · rw [hx]; exact hd
    · exact ch A (i + 1) j h8 x (by omega) x2
/-- a star is written -/
theorem star_w {x : Nat} (h3 : rat K 7 x = 3) (hx : x < rsz K 7) (hN : rsz K 7 ≤ 1048576) (hz : rsz K 9 < 16000) : ∃ K', KC 11 m_V_write (fun G => [.ref (cp_b G + 6), .int (nI x)]) K (fun _ => some (.int (nI 1))) K' ∧ WF K K' ∧ DN K' 1 ∧ K'.2.1 13 0 = nI 42 ∧ rsz K' 9 = 0 := by
  obtain ⟨K0, hK0⟩ : ∃ K0, K0 = kpush (kcut (kI K 6 4 0) 9 0) 9 (nI x) := ⟨_, rfl⟩
  have kc : KF [9] (kI K 6 4 0) K0 := by rw [hK0]; exact KF.cut.trans (KF.push (by decide))
  have wf0 : WF K K0 := WF.trans (K1 := kI K 6 4 0) ⟨fun p k h1 h2 => by
    rw [kI_i]
    by_cases hp : p = 6
    · subst hp
      rw [va_up_at, cp_up_ne (fun e => h2 ⟨rfl, e⟩)]
    · rw [cp_up_ne hp], rfl, fun _ _ => ⟨rfl, rfl⟩, Nat.le_refl _, fun _ _ => rfl, fun h => ⟨h, Nat.le_refl _⟩⟩ (WF.of kc)
  have q7 := wf0.2.2.1 7 (by decide)
  have dn0 : DN K0 0 := ⟨by rw [kc.1, kI_i, va_up_at, va_up_at]; rfl, by decide⟩
  have rs0 : RS (kcut (kI K 6 4 0) 9 0) 9 [] := RS.nil (by show rsz K 9 < 2 ^ 31; omega)
  have hR0 : RS K0 9 [nI x] := by rw [hK0]; exact rs0.push
  have kp : KF [9] K0 (kpop K0 9) := KF.pop
  have p7 := kp.2.2.1 7 (by decide)
  have dnp : DN (kpop K0 9) 0 := ⟨by rw [kp.1]; exact dn0.1, by decide⟩
  have g3 : rget (kpop K0 9) 7 (nI x) = 3 := by rw [rget_of (by rw [p7.1, q7.1]; exact hx) (by omega), p7.2, q7.2]; exact h3
  obtain ⟨hR1, top⟩ := RS.pop hR0
  obtain ⟨K', hK'⟩ : ∃ K', K' = wput (kpop K0 9) (nI 42) := ⟨_, rfl⟩
  have dn1 : DN K' 1 := by rw [hK']; exact dnp.put (by decide)
  have wf1 : WF (kpop K0 9) K' := by rw [hK']; exact WF.put dnp (by decide)
  have s9 : rsz K' 9 = 0 := by
    have : rsz (wput (kpop K0 9) (nI 42)) 9 = rsz (kpop K0 9) 9 := by unfold wput; split <;> rfl
    rw [hK', this]; exact hR1.1
  have lo : KC 6 m_V_lookThrough (fun G => [.ref (cp_b G + 6), .int (nI x)]) (kpop K0 9) (fun _ => some (.int (nI x))) (kpop K0 9) := by
    refine c_V_lookThrough (D := 0) (b_V_lookThrough_4 (D := 0) ⟨fun _ => ⟨rfl, rfl⟩, fun _ => ⟨fun _ => ⟨rfl, rfl⟩, fun q => absurd (g3.symm.trans q) (by decide)⟩⟩)
  have hd : KC 8 m_V_writeHead (fun G => [.ref (cp_b G + 6), .int (nI x)]) (kpop K0 9) (fun _ => none) K' := by
    refine c_V_writeHead (D := 0) ?_
    unfold wp_V_writeHead_0
    rw [g3]
    exact ⟨fun q => absurd q (by decide), fun q => absurd q (by decide), fun _ => ⟨by rw [dnp.1]; decide, rfl, hK'⟩, fun q => absurd q (by decide), fun q => absurd q (by decide), fun q => absurd q (by decide), fun q => absurd rfl (q 3 (by decide))⟩
  refine ⟨K', c_V_write (D := 3) ⟨by rw [rs0.1]; show 0 < 16384; omega, ?_⟩, (wf0.trans (WF.of kp)).trans wf1, dn1, ?_, s9⟩
  · rw [← hK0]
    refine b_V_write_23 (D := 3) ⟨fun q => absurd q (by decide), fun _ => ⟨fun q => ?_, fun _ => ⟨fun _ => ?_, fun q => ?_⟩⟩⟩
    · rw [hR0.1] at q
      have q' : nI 1 ≤ 0 := q
      exact absurd q' (by decide)
    · rw [top]
      refine ⟨nI x, kpop K0 9, lo.mono (by omega), K', hd.mono (by omega), b_V_write_70 (D := 3) (b_V_write_23 (D := 3) ⟨fun q => absurd q (by decide), fun _ => ⟨fun _ => ⟨by rw [dn1.1], rfl⟩, fun q => absurd ?_ q⟩⟩)⟩
      rw [s9]; decide
    · rw [top] at q
      exact absurd q (nI_m1 (by omega))
  · have := (put_ch (K := kpop K0 9) (n := 0) (c := 42) dnp (by decide)).2 (by decide)
    rw [hK']; exact this
/-- a star is kept -/
theorem star_k {x : Nat} (h3 : rat K 7 x = 3) (h2 : rat K 7 (x + 2) = 0) (hx : x + 3 ≤ rsz K 7) (hN : rsz K 7 ≤ 1048576) (h86 : 86 ≤ K.1.1) : ∃ K', KC 8 m_V_keep (fun G => [.ref (cp_b G + 6), .int (nI x), .int 1]) K (fun G => some (va_rf (kr G K.1.1))) K' ∧ FK 1 K K' ∧ FJ K K' ∧ K'.2.2.2 = K.2.2.2 ∧ K'.2.1 23 = K.2.1 23 ∧ K'.2.1 0 = K.2.1 0 ∧ nd K' K.1.1 9 ∧ K'.2.1 K.1.1 0 = 3 := by
  obtain ⟨K', hK'⟩ : ∃ K', K' = ninit (kN K 9) K.1.1 (rget (kN K 9) 7 (nI x)) (rget (kN K 9) 7 (nI x + 1)) 0 := ⟨_, rfl⟩
  have g3 : rget K 7 (nI x) = 3 := by rw [rget_of (by omega) (by omega)]; exact h3
  have i' : ∀ p, p < K.1.1 → K'.2.1 p = K.2.1 p := fun p hp => by
    rw [hK']
    unfold ninit
    simp only [kP_i, kI_i]
    rw [cp_up_ne (by omega), cp_up_ne (by omega), cp_up_ne (by omega), cp_up_ne (by omega)]
    exact kN_i hp
  have r' : ∀ p, p < K.1.1 → K'.2.2.1 p = K.2.2.1 p := fun p hp => by
    rw [hK']
    unfold ninit
    simp only [kP_r, kI_r]
    rw [cp_up_ne (by omega), cp_up_ne (by omega), cp_up_ne (by omega)]
    exact kN_r hp
  have n' : K'.1 = (K.1.1 + 1, va_up K.1.2 K.1.1 9) := by rw [hK']; rfl
  have w' : K'.2.2.2 = K.2.2.2 := by rw [hK']; rfl
  have lo : KC 6 m_V_lookThrough (fun G => [.ref (cp_b G + 6), .int (nI x)]) K (fun _ => some (.int (nI x))) K := by
    refine c_V_lookThrough (D := 0) (b_V_lookThrough_4 (D := 0) ⟨fun _ => ⟨rfl, rfl⟩, fun _ => ⟨fun _ => ⟨rfl, rfl⟩, fun q => absurd (g3.symm.trans q) (by decide)⟩⟩)
  refine ⟨K', c_V_keep (D := 0) ⟨nI x, K, lo.mono (by omega), fun _ => ?_, fun q => absurd (by decide) q⟩, ⟨fun p p1 _ _ _ _ _ _ _ => i' p p1, fun p p1 _ _ => r' p p1, fun p p1 => by rw [n']; exact cp_up_ne (by omega), by rw [n']; exact Nat.le_succ _, fun k => ⟨fun r hr => ?_, ?_⟩⟩, ⟨⟨by rw [i' 0 (by omega)], by rw [i' 0 (by omega)]⟩, i' 2 (by omega), by rw [r' 0 (by omega)]⟩, w', i' 23 (by omega), i' 0 (by omega), ⟨h86, by rw [n']; exact Nat.lt_succ_self _, by rw [n']; exact va_up_at⟩, ?_⟩
  · rw [← hK']
    refine b_V_keep_46 (D := 0) ⟨fun _ => ⟨rfl, rfl⟩, fun q => absurd ?_ q⟩
    have : rget K' 7 (nI x + 2) = 0 := by
      have z7 : rsz K' 7 = rsz K 7 := by unfold rsz; rw [w']
      rw [show (2 : Int32) = nI 2 from rfl, nI_add, rget_of (by omega) (by omega)]
      unfold rat; rw [w']; exact h2
    rw [this]; decide
  · have := k r hr
    unfold rcap at this ⊢
    rw [w']; exact this
  · unfold k_caps
    rw [w', n']
    show 64 * (K.1.1 + 1) + _ ≤ _
    omega
  · rw [hK']
    unfold ninit
    simp only [kP_i, kI_i, va_up_at]
    rw [cp_up_ne (by decide), cp_up_ne (by decide), cp_up_ne (by decide), va_up_at]
    exact g3
end CPFE
