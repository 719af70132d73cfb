/-! ===== keeping a value as nodes ===== -/
/-- the drawn rows as nodes, holes being told -/
def kbd (a : Nat → Nat → Int32) : Nat → Nat → Int32 := fun p => if p = 39 then (fun x => if a 79 x = 5 ∧ a 80 x = -1 then 4 else a 79 x) else if p = 40 then a 80 else if p = 41 then a 81 else if p = 42 then (fun _ => 0) else a p
theorem kbd_at {a : Nat → Nat → Int32} : kbd a 39 = (fun x => if a 79 x = 5 ∧ a 80 x = -1 then 4 else a 79 x) ∧ kbd a 40 = a 80 ∧ kbd a 41 = a 81 ∧ kbd a 42 = fun _ => 0 := ⟨rfl, rfl, rfl, rfl⟩
section CPKP
variable {f : Nat → Int32} {N : Nat} {a b : Nat → Nat → Int32} {nv nc C : Nat} {ρ : Nat → Nat → Prop} {hl : List Nat}
def KEP (f : Nat → Int32) (N : Nat) (a : Nat → Nat → Int32) (ρ : Nat → Nat → Prop) (b : Nat → Nat → Int32) (k : Nat) : Prop := ∀ (v r i j dp : Nat) (K : cp_K), VT f N a ρ b k v r i j → rat K 7 = f → rsz K 7 = N → dp + k ≤ 41 → 86 ≤ K.1.1 → ∃ K', KC (k + 7) m_V_keep (fun G => [.ref (cp_b G + 6), .int (nI v), .int (nI dp)]) K (fun G => some (va_rf (kr G K.1.1))) K' ∧ RTR K' (kbd b) 0 k K.1.1 i j K'.1.1 ∧ K'.2.2.1 K.1.1 6 = 0 ∧ KRX K.1.1 K.1.1 K K' ∧ K'.1.1 = K.1.1 + (j - i)
def KPA (f : Nat → Int32) (N : Nat) (a : Nat → Nat → Int32) (ρ : Nat → Nat → Prop) (b : Nat → Nat → Int32) (k : Nat) (x1 : Int32) (dp u q0 : Nat) (A : List (Nat × Nat)) (rem : Nat) : Prop := ∀ (t ql i j : Nat) (K : cp_K), t + rem = A.length → VTL (VT f N a ρ b k) (A.drop t) i j → rat K 7 = f → rsz K 7 = N → (nd K q0 9 ∧ K.2.1 q0 3 = nI t) → ((t = 0 ∧ K.2.2.1 q0 5 = 0 ∧ ql = K.1.1) ∨ (0 < t ∧ K.2.2.1 q0 5 = ql ∧ q0 < ql ∧ nd K ql 9)) →
  ∃ K', JC (k + 8) m_V_keep (fun G => .inl (some (va_rf (kr G q0)))) K' 46 (fun G => [(0, .ref (cp_b G + 6)), (1, .int x1), (2, .int (nI dp)), (3, .int (nI u)), (4, va_rf (kr G q0)), (5, .int (nI t))]) (fun _ => []) K ∧ RCH (RTR K' (kbd b) 0 k) K' rem (if rem = 0 then 0 else K.1.1) i j K.1.1 K'.1.1 ∧ K'.2.1 q0 3 = nI (t + rem) ∧ (0 < rem → (t = 0 → K'.2.2.1 q0 4 = K.1.1) ∧ (0 < t → K'.2.2.1 q0 4 = K.2.2.1 q0 4 ∧ K'.2.2.1 ql 6 = K.1.1)) ∧ (rem = 0 → K' = K) ∧ KRX q0 ql K K' ∧ K'.1.1 = K.1.1 + (j - i)
theorem kpa_0 {k : Nat} {x1 : Int32} {dp u q0 : Nat} {A : List (Nat × Nat)} (hA : A.length ≤ 6) (hu : u + 3 + A.length ≤ N) (hN : N ≤ 1048576) (f2 : f (u + 2) = nI A.length) : KPA f N a ρ b k x1 dp u q0 A 0 := by
  intro t ql i j K ht hv e1 e2 hq hl
  have tA : t = A.length := by omega
  rw [List.drop_of_length_le (by omega)] at hv
  have hij : i = j := hv
  subst hij
  refine ⟨K, b_V_keep_46 (D := k) ⟨fun _ => ⟨rfl, rfl⟩, fun q => absurd ?_ q⟩, ⟨rfl, rfl, rfl⟩, hq.2, fun q => absurd q (by omega), fun _ => rfl, KRX.refl, by omega⟩
  have : rget K 7 (nI u + nI 2) = nI A.length := by rw [nI_add, rget_of (by omega) (by omega), e1]; exact f2
  rw [show (2 : Int32) = nI 2 from rfl, this, tA]
  exact Int32.le_refl _
theorem kpa_s {k : Nat} {x1 : Int32} {dp u q0 : Nat} {A : List (Nat × Nat)} (hd : dp + 1 + k ≤ 41) (hA : A.length ≤ 6) (hu : u + 3 + A.length ≤ N) (hN : N ≤ 1048576) (f2 : f (u + 2) = nI A.length) (fA : ∀ x (hx : x < A.length), f (u + 3 + x) = nI A[x].1) (kp : KEP f N a ρ b k) {rem : Nat} (ih : KPA f N a ρ b k x1 dp u q0 A rem) : KPA f N a ρ b k x1 dp u q0 A (rem + 1) := by
  intro t ql i j K ht hv e1 e2 hq hl
  have htA : t < A.length := by omega
  rw [List.drop_eq_getElem_cons htA] at hv
  obtain ⟨i', v1, v2⟩ := hv
  have lti := VT.lt _ _ _ _ _ v1
  have le2 := VTL.le (VT.lt k) _ _ _ v2
  have h86 : 86 ≤ K.1.1 := by have := hq.1.1; have := hq.1.2.1; omega
  have q086 := hq.1.1
  have q0lt := hq.1.2.1
  obtain ⟨K1, a1, a2, a3, a4, a5⟩ := kp _ _ i i' (dp + 1) K v1 e1 e2 (by omega) h86
  have rt1 := RTR.lt _ _ _ _ _ a2
  have nq1 : nd K1 q0 9 := a4.nd hq.1
  have e5 : K1.2.2.1 q0 5 = K.2.2.1 q0 5 := a4.2.2.2.2.2.1 q0 q0lt 5 (Or.inl (by omega)) (Or.inl (by omega))
  have e4 : K1.2.2.1 q0 4 = K.2.2.1 q0 4 := a4.2.2.2.2.2.1 q0 q0lt 4 (Or.inl (by omega)) (Or.inl (by omega))
  have e3 : K1.2.1 q0 3 = K.2.1 q0 3 := a4.2.2.2.1 q0 q0lt (by omega) 3 (Or.inl (by omega))
  obtain ⟨K2, hK2⟩ : ∃ K2, K2 = nadd K1 q0 K.1.1 := ⟨_, rfl⟩
  have ql5 : K1.2.2.1 q0 5 = 0 ∨ (K1.2.2.1 q0 5 = ql ∧ ql ≠ q0) := by
    rw [e5]
    rcases hl with ⟨-, h, -⟩ | ⟨-, h, h', -⟩
    · exact Or.inl h
    · exact Or.inr ⟨h, by omega⟩
  have kx2 : KRX q0 ql K1 K2 := by rw [hK2]; exact KRX_nadd nq1 ql5
  have n2 : K2.1.1 = K1.1.1 := by rw [hK2, na_n]
  have k01 : KRX q0 ql K K1 := a4.trans (KRX.refl (q0 := K.1.1) (ql := K.1.1)) (Or.inl rfl) (Or.inl rfl) |> fun _ => ⟨a4.1, a4.2.1, a4.2.2.1, fun x hx h21 g _ => a4.2.2.2.1 x hx h21 g (Or.inl (by omega)), a4.2.2.2.2.1, fun x hx g _ _ => a4.2.2.2.2.2.1 x hx g (Or.inl (by omega)) (Or.inl (by omega)), a4.2.2.2.2.2.2⟩
  have k02 : KRX q0 ql K K2 := k01.trans kx2 (Or.inl rfl) (Or.inl rfl)
  have r7 : rat K2 7 = f ∧ rsz K2 7 = N := by
    have w := k02.2.2.2.2.2.2
    refine ⟨?_, ?_⟩
    · unfold rat; rw [w]; exact e1
    · unfold rsz; rw [w]; exact e2
  have p5 : K1.2.2.1 q0 5 ≠ q0 ∨ K1.2.2.1 q0 5 = 0 := by
    rcases ql5 with h | ⟨h, h'⟩
    · exact Or.inr h
    · exact Or.inl (by omega)
  have q5 : K2.2.2.1 q0 5 = K.1.1 := by rw [hK2, na_rp p5, if_pos rfl]
  have q3 : K2.2.1 q0 3 = nI (t + 1) := by rw [hK2, na_ip, if_pos rfl, e3, hq.2, nI_1]
  have nqn : nd K2 K.1.1 9 := by
    have := RTR.nd a2
    exact kx2.nd this
  obtain ⟨K', b1, b2, b3, b4, b5, b6, b7⟩ := ih (t + 1) K.1.1 i' j K2 (by omega) v2 r7.1 r7.2 ⟨kx2.nd nq1, q3⟩ (Or.inr ⟨by omega, q5, q0lt, nqn⟩)
  have k2' : K2.1.1 ≤ K'.1.1 := b6.1
  have rl : ¬ K1.2.2.1 q0 5 = 0 → nd K1 (K1.2.2.1 q0 5) 9 := fun h => by
    rw [e5] at h ⊢
    rcases hl with ⟨-, h', -⟩ | ⟨-, h1, -, h3⟩
    · exact absurd h' h
    · rw [h1]; exact a4.nd h3
  refine ⟨K', b_V_keep_46 (D := k) ?_, ⟨if_neg (by omega), i', K1.1.1, ?_, ?_⟩, by rw [b3]; congr 1; omega, fun _ => ⟨fun h0 => ?_, fun h0 => ?_⟩, fun h => absurd h (by omega), ?_, by omega⟩
  · unfold wp_V_keep_46
    have g2 : rget K 7 (nI u + nI 2) = nI A.length := by rw [nI_add, rget_of (by omega) (by omega), e1]; exact f2
    have g3 : rget K 7 (nI u + 3 + nI t) = nI A[t].1 := by
      rw [show (3 : Int32) = nI 3 from rfl, nI_add, nI_add, rget_of (by omega) (by omega), e1]; exact fA t htA
    rw [show (2 : Int32) = nI 2 from rfl, g2, g3]
    refine ⟨fun q => absurd ((nI_leq (by omega) (by omega)).mp q) (by omega), fun _ => ⟨K.1.1, K1, ?_, nq1, rl, ?_⟩⟩
    · rw [nI_1]
      exact a1.mono (by omega)
    · rw [← hK2, nI_1]
      exact b1
  · rw [if_neg (by omega)]
    refine RTR.loc (K := K1) (b := kbd b) (by omega) _ _ _ _ _ a2 (fun x x1 x2 => ?_) (fun x _ _ => ⟨rfl, rfl, rfl, rfl⟩)
    have xlt : x < K2.1.1 := by omega
    refine ⟨fun g => ?_, ?_, ?_, fun hx => ?_⟩
    · rw [b6.2.2.2.1 x xlt (by omega) g (Or.inl (by omega)), hK2, na_i (by omega)]
    · rw [b6.2.1 x xlt, hK2, na_n]
    · rw [b6.2.2.2.2.2.1 x xlt 4 (Or.inl (by omega)) (Or.inr (by decide)), kx2.2.2.2.2.2.1 x (by omega) 4 (Or.inl (by omega)) (Or.inr (by decide))]
    · rw [b6.2.2.2.2.2.1 x xlt 6 (Or.inl (by omega)) (Or.inl (by omega))]
      refine kx2.2.2.2.2.2.1 x (by omega) 6 (Or.inl (by omega)) (Or.inl ?_)
      rcases hl with ⟨-, -, h⟩ | ⟨-, -, -, h⟩
      · omega
      · have := h.2.1; omega
  · rw [if_neg (by omega)]
    have : K'.2.2.1 K.1.1 6 = if rem = 0 then 0 else K2.1.1 := by
      by_cases hr : rem = 0
      · rw [if_pos hr, b5 hr, hK2]
        rcases hl with ⟨h0, h1, h2⟩ | ⟨h0, h1, h2, h3⟩
        · rw [na_r (by omega) (Or.inr (by rw [e5]; exact h1))]; exact a3
        · rw [na_r (by omega) (Or.inl (by rw [e5, h1]; have := h3.2.1; omega))]; exact a3
      · rw [if_neg hr]
        exact ((b4 (by omega)).2 (by omega)).2
    rw [this, ← n2]
    exact b2
  · have r0 : K2.2.2.1 q0 4 = K.1.1 := by
      rcases hl with ⟨-, h1, -⟩ | ⟨h, -⟩
      · rw [hK2, na_rp p5, if_neg (by decide), if_pos rfl, if_pos (by rw [e5]; exact h1)]
      · omega
    by_cases hr : rem = 0
    · rw [b5 hr]; exact r0
    · rw [((b4 (by omega)).2 (by omega)).1]; exact r0
  · obtain ⟨h1, h2, h3⟩ : K.2.2.1 q0 5 = ql ∧ q0 < ql ∧ nd K ql 9 := by
      rcases hl with ⟨h, -⟩ | ⟨-, h⟩
      · omega
      · exact h
    have n0 : ¬ K1.2.2.1 q0 5 = 0 := by rw [e5, h1]; have := h3.1; omega
    have r0 : K2.2.2.1 q0 4 = K.2.2.1 q0 4 := by rw [hK2, na_rp p5, if_neg (by decide), if_pos rfl, if_neg n0]; exact e4
    have r6 : K2.2.2.1 ql 6 = K.1.1 := by
      have := na_rl (K := K1) (p := q0) (r := K.1.1) (f := 6) n0 (by rw [e5, h1]; omega)
      rw [e5, h1, if_pos rfl] at this
      rw [hK2]; exact this
    have qlt := h3.2.1
    refine ⟨?_, ?_⟩
    · by_cases hr : rem = 0
      · rw [b5 hr]; exact r0
      · rw [((b4 (by omega)).2 (by omega)).1]; exact r0
    · rw [b6.2.2.2.2.2.1 ql (by omega) 6 (Or.inl (by omega)) (Or.inl (by omega))]; exact r6
  · exact k02.trans b6 (Or.inl rfl) (Or.inr (Nat.le_refl _))
theorem keep_all (V : VI f N a nv nc ρ hl C) (h5 : ∀ v r, ρ v r → ¬ f v = 5) : ∀ k, KEP f N a ρ b k := by
  intro k
  induction k with
  | zero => intro v r i j dp K h; exact h.elim
  | succ k ih =>
    intro v r i j dp K hv e1 e2 hd h86
    have lt := VT.lt _ _ _ _ _ hv
    obtain ⟨hρ, A, A1, A2, A3, A4, A5, A6, A7, A8⟩ := hv
    obtain ⟨g1, g2, g3, -⟩ := lk_spec V hρ
    have hN := V.2.2.2.2.2.2.2
    obtain ⟨u, hu⟩ : ∃ u, u = (lk f N a ρ v r).1 := ⟨_, rfl⟩
    obtain ⟨s, hs⟩ : ∃ s, s = (lk f N a ρ v r).2 := ⟨_, rfl⟩
    rw [← hu] at A2 A3 A4 g1 g2 g3
    rw [← hs] at A5 A6 g1
    obtain ⟨-, -, vc⟩ := V.1.1 u s g1
    obtain ⟨K0, hK0⟩ : ∃ K0, K0 = nn K (f u) (f (u + 1)) 0 := ⟨_, rfl⟩
    have kx0 : KRX K.1.1 K.1.1 K K0 := by rw [hK0]; exact KRX_nn h86 (Nat.le_refl _) (Nat.le_refl _)
    have n0 : K0.1.1 = K.1.1 + 1 := by rw [hK0]; exact nn_n
    have nd0 : nd K0 K.1.1 9 := by rw [hK0]; exact nn_nd h86
    have w0 : K0.2.2.2 = K.2.2.2 := kx0.2.2.2.2.2.2
    have new : K0.2.1 K.1.1 0 = f u ∧ K0.2.1 K.1.1 1 = f (u + 1) ∧ K0.2.1 K.1.1 2 = 0 ∧ K0.2.1 K.1.1 3 = 0 := by rw [hK0]; exact nn_new
    have rn : ∀ g, K0.2.2.1 K.1.1 g = 0 := fun g => by rw [hK0]; exact nn_rn
    have pa : ∀ rem, KPA f N a ρ b k (nI v) dp u K.1.1 A rem := fun rem => by
      induction rem with
      | zero => exact kpa_0 A1 A3 hN A2
      | succ rem ihr => exact kpa_s (by omega) A1 A3 hN A2 A4 ih ihr
    obtain ⟨K', b1, b2, b3, b4, b5, b6, b7⟩ := pa A.length 0 K0.1.1 (i + 1) j K0 (by omega) (by rw [List.drop_zero]; exact A8) (by unfold rat; rw [w0]; exact e1) (by unfold rsz; rw [w0]; exact e2) ⟨nd0, new.2.2.2⟩ (Or.inl ⟨rfl, rn 5, rfl⟩)
    have le8 := VTL.le (VT.lt k) _ _ _ A8
    have kx : KRX K.1.1 K.1.1 K K' := kx0.trans b6 (Or.inl rfl) (Or.inr (by omega))
    have i' : ∀ g, g ≠ 3 → K'.2.1 K.1.1 g = K0.2.1 K.1.1 g := fun g hg => b6.2.2.2.1 K.1.1 (by omega) (by omega) g (Or.inr hg)
    refine ⟨K', c_V_keep (D := k) ⟨nI u, K, (g3 K e1 e2).mono (by omega), fun _ => ?_, fun q => absurd (nI_le (b := 40) (show dp ≤ 40 by omega) (by decide)) q⟩, ?_, ?_, kx, by omega⟩
    · have t1 : rget (kN K 9) 7 (nI u) = f u := by
        have : rget (kN K 9) 7 (nI u) = rget K 7 (nI u) := rfl
        rw [this, rget_of (by omega) (by omega), e1]
      have t2 : rget (kN K 9) 7 (nI u + 1) = f (u + 1) := by
        have : rget (kN K 9) 7 (nI u + 1) = rget K 7 (nI u + nI 1) := rfl
        rw [this, nI_add, rget_of (by omega) (by omega), e1]
      rw [t1, t2]
      rw [hK0] at b1
      exact b1
    · refine ⟨b6.nd nd0, by rw [i' 2 (by decide)]; exact new.2.2.1, ?_⟩
      rw [i' 0 (by decide), i' 1 (by decide), new.1, new.2.1, b3, Nat.zero_add]
      have k39 : kbd b 39 i = if b 79 i = 5 ∧ b 80 i = -1 then 4 else b 79 i := rfl
      have k40 : kbd b 40 i = b 80 i := rfl
      have k41 : kbd b 41 i = b 81 i := rfl
      rw [k39, k40, k41, A5, A6, A7]
      have leaf : f (u + 2) = 0 → A = [] := fun e => by
        rw [A2] at e
        exact List.length_eq_zero_iff.mp ((nI_eq (b := 0) (by omega) (by omega)).mp e)
      have lf : A = [] → j = i + 1 ∧ K'.1.1 = K.1.1 + 1 := fun e => by
        subst e
        have : i + 1 = j := A8
        exact ⟨this.symm, by omega⟩
      rcases vc with q | q | q | q | q
      · obtain ⟨q1, q2, q3, q4, -⟩ := q
        obtain ⟨j1, j2⟩ := lf (leaf q4)
        rw [if_pos q2, if_neg (by rintro ⟨h, -⟩; exact absurd h (by decide))]
        exact Or.inr (Or.inl ⟨q1, rfl, q3, j1, j2⟩)
      · obtain ⟨q1, q2, q3, q3', q4, -⟩ := q
        obtain ⟨j1, j2⟩ := lf (leaf q4)
        have z0 : ¬ a 52 s = 0 := by rw [q2]; decide
        rw [if_neg z0, if_pos q2, if_neg (by rintro ⟨h, -⟩; exact absurd h (by decide))]
        exact Or.inr (Or.inr (Or.inl ⟨q1, rfl, q3, j1, j2⟩))
      · exact absurd q.1 (h5 u s g1)
      · obtain ⟨q1, q2, q4, -, q5⟩ := q
        obtain ⟨j1, j2⟩ := lf (leaf q4)
        have o1 : a 53 s = -1 := by
          rcases q5 with q5 | ⟨v', r', q6, -, q8⟩
          · exact q5.2
          · refine absurd ⟨q1, ?_⟩ g2
            rw [q6]
            exact nI_m1 (by have := (V.1.1 _ _ q8).1; omega)
        have z0 : ¬ a 52 s = 0 := by rw [q2]; decide
        have z1 : ¬ a 52 s = 1 := by rw [q2]; decide
        rw [if_neg z0, if_neg z1, if_pos ⟨rfl, o1⟩]
        exact Or.inr (Or.inr (Or.inr (Or.inl ⟨q1, rfl, j1, j2⟩)))
      · obtain ⟨q1, q2, l, m, t', l1, m1, f1, w1, f2, w2, -⟩ := q
        have z0 : ¬ a 52 s = 0 := by rw [q2]; decide
        have z1 : ¬ a 52 s = 1 := by rw [q2]; decide
        have o1 : ¬ a 53 s = -1 := by rw [w1]; exact nI_m1 (by omega)
        rw [if_neg z0, if_neg z1, if_neg (fun h => o1 h.2)]
        refine Or.inr (Or.inr (Or.inr (Or.inr ⟨q1, rfl, l, A.length, l1, A1, f1, w1, rfl, rfl, ?_⟩)))
        rw [n0] at b2
        by_cases hA0 : A.length = 0
        · have : K'.2.2.1 K.1.1 4 = 0 := by rw [b5 hA0]; exact rn 4
          rw [this]
          rw [if_pos hA0] at b2
          exact b2
        · rw [((b4 (by omega)).1 rfl), n0]
          rw [if_neg hA0] at b2
          exact b2
    · rw [b6.2.2.2.2.2.1 K.1.1 (by omega) 6 (Or.inr ⟨by decide, by decide⟩) (Or.inl (by omega))]
      exact rn 6
end CPKP
