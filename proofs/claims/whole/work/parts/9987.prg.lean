/-! ===== running: a program is called, both sides ===== -/
theorem last_of {c : Nat} : ∀ ps : List Nat, c ∈ ps → ∃ (x : Nat) (h : x < ps.length), ps[x] = c ∧ ∀ z (hz : z < ps.length), x < z → ¬ ps[z] = c
  | [], h => by cases h
  | a :: l, h => by
    by_cases hl : c ∈ l
    · obtain ⟨x, h1, h2, h3⟩ := last_of l hl
      refine ⟨x + 1, by rw [List.length_cons]; omega, by simpa using h2, fun z hz hx => ?_⟩
      obtain ⟨z', rfl⟩ : ∃ z', z = z' + 1 := ⟨z - 1, by omega⟩
      rw [List.length_cons] at hz
      simpa using h3 z' (by omega) (by omega)
    · have : c = a := by
        rcases List.mem_cons.mp h with h | h
        · exact h
        · exact absurd h hl
      refine ⟨0, by rw [List.length_cons]; omega, by simp [this], fun z hz hx => ?_⟩
      obtain ⟨z', rfl⟩ : ∃ z', z = z' + 1 := ⟨z - 1, by omega⟩
      rw [List.length_cons] at hz
      intro e
      apply hl
      have e2 : l[z']'(by omega) = c := by simpa using e
      rw [← e2]
      exact List.getElem_mem _
theorem PCH_26 {K : cp_K} : ∀ (ps : List Nat) (q z : Nat), PCH K ps q z → ∀ c ∈ ps, c < 26
  | [], _, _, _, c, hc => by cases hc
  | a :: l, q, z, h, c, hc => by
    obtain ⟨-, -, h3, -, h5⟩ := h
    rcases List.mem_cons.mp hc with rfl | hc
    · exact h3
    · exact PCH_26 l _ z h5 c hc
/-- the names of a program's parameters, on both sides -/
theorem ENV_call {K : cp_K} {b : Nat → Nat → Int32} {B n : Nat} {ps : List Nat} {ρ : Nat → Nat → Prop} (h26 : ∀ c ∈ ps, c < 26) (h15 : rsz K 15 = n + ps.length) (hk : ∀ x (h : x < ps.length), rat K 15 (n + x) = nI (97 + ps[x]) ∧ b 76 (B + x) = nI ps[x] ∧ (∀ x', x = x' + 1 → b 78 (B + x) = nI (B + x')) ∧ ∃ v r, rat K 17 (n + x) = nI v ∧ v < 2 ^ 31 ∧ b 77 (B + x) = nI r ∧ ρ v r) {t : Nat} (ht : ps.length = t + 1) : ENV K b (B + ps.length) n (nI (B + t)) (fun c => c ∈ ps) ρ := by
  intro c hc hm
  obtain ⟨x, h1, h2, h3⟩ := last_of ps hm
  obtain ⟨k1, k2, k3, v, r, k4, k5, k6, k7⟩ := hk x h1
  refine ⟨v, r, k5, ⟨n + x, ⟨by omega, by omega, by rw [k1, h2], fun j j1 j2 e => ?_⟩, k4⟩, ⟨t - x + 1, B + t, rfl, ?_⟩, k7⟩
  · obtain ⟨z, rfl⟩ : ∃ z, j = n + z := ⟨j - n, by omega⟩
    have hz : z < ps.length := by omega
    rw [(hk z hz).1] at e
    have := h26 _ (List.getElem_mem hz)
    have := (nI_eq (by omega) (by omega)).mp e
    exact h3 z hz (by omega) (by omega)
  · have go : ∀ d, x + d < ps.length → ∀ nf, d < nf → MN b (B + ps.length) nf (B + x + d) c r := by
      intro d
      induction d with
      | zero =>
        intro hd nf hn
        obtain ⟨nf', rfl⟩ : ∃ nf', nf = nf' + 1 := ⟨nf - 1, by omega⟩
        exact ⟨by omega, Or.inl ⟨by rw [Nat.add_zero, k2, h2], k6⟩⟩
      | succ d ih =>
        intro hd nf hn
        obtain ⟨nf', rfl⟩ : ∃ nf', nf = nf' + 1 := ⟨nf - 1, by omega⟩
        obtain ⟨-, g2, g3, -⟩ := hk (x + (d + 1)) hd
        refine ⟨by omega, Or.inr ⟨?_, B + x + d, ?_, ih (by omega) nf' (by omega)⟩⟩
        · rw [show B + x + (d + 1) = B + (x + (d + 1)) by omega, g2]
          intro e
          have := h26 _ (List.getElem_mem hd)
          exact h3 _ hd (by omega) ((nI_eq (by omega) (by omega)).mp e)
        · rw [show B + x + (d + 1) = B + (x + (d + 1)) by omega, g3 (x + d) (by omega)]
          congr 1
          omega
    have := go (t - x) (by omega) (t - x + 1) (by omega)
    rw [show B + x + (t - x) = B + t by omega] at this
    exact this
/-- the class names a program's arguments -/
theorem nam_loop {D p1 z N : Nat} {x2 : Int32} : ∀ (ps : List Nat) (q t : Nat) (K : cp_K), PCH K ps q z → nd K p1 10 → nd K (K.2.2.1 p1 4) 9 → K.2.2.1 (K.2.2.1 p1 4) 5 = z → rsz K 15 = N → N < 2 ^ 30 → t + ps.length ≤ N → ∃ K', KF [15] K K' ∧ rsz K' 15 = N ∧ (∀ x, x < t → rat K' 15 x = rat K 15 x) ∧ (∀ x (h : x < ps.length), rat K' 15 (t + x) = nI (97 + ps[x])) ∧ JC (D + 8) m_U_nameArguments (fun _ => .inl none) K' 11 (fun G => [(0, .ref (cp_b G + 23)), (1, va_rf (kr G p1)), (2, .int x2), (3, .int (nI t)), (4, va_rf (kr G q))]) (fun _ => []) K
  | [], q, t, K, hq, n1, n2, hz, hN, hN2, ht => by
    have e : q = z := hq
    subst e
    refine ⟨K, KF.refl, hN, fun _ _ => rfl, fun x h => (by cases h), b_U_nameArguments_11 ⟨fun _ => ⟨rfl, rfl⟩, fun _ => ⟨n1, n2, fun _ => ⟨rfl, rfl⟩, fun hn => absurd hz.symm hn⟩⟩⟩
  | c :: l, q, t, K, hq, n1, n2, hz, hN, hN2, ht => by
    obtain ⟨h1, h2, h3, h4, h5⟩ := hq
    rw [List.length_cons] at ht
    have kf : KF [15] K (kset K 15 (nI t) (nI (97 + c))) := KF.set
    have hat : ∀ x, rat (kset K 15 (nI t) (nI (97 + c))) 15 x = if x = t then nI (97 + c) else rat K 15 x := fun x => by
      rw [kset_at (by omega) (by omega), if_pos rfl]
      by_cases hx : x = t
      · rw [if_pos hx, hx, va_up_at]
      · rw [if_neg hx, cp_up_ne hx]
    have nk := kf.nk
    obtain ⟨K', g1, g2, g3, g4, g5⟩ := nam_loop (D := D) (x2 := x2) l (K.2.2.1 q 6) (t + 1) _ (PCH.mv nk l _ _ h5) (nk.2.2 _ _ n1) (by rw [nk.2.1]; exact nk.2.2 _ _ n2) (by rw [nk.2.1]; exact hz) (by rw [kset_sz]; exact hN) hN2 (by omega)
    refine ⟨K', kf.trans g1, g2, fun x hx => ?_, fun x hx => ?_, b_U_nameArguments_11 ⟨fun hn => absurd hn (by have := h1.1; omega), fun _ => ⟨n1, n2, fun hn => absurd (hn.trans hz) h2, fun _ => ⟨h1, ?_⟩⟩⟩⟩
    · rw [g3 x (by omega), hat, if_neg (by omega)]
    · cases x with
      | zero => rw [Nat.add_zero, g3 t (by omega), hat, if_pos rfl]; rfl
      | succ x =>
        have := g4 x (by rw [List.length_cons] at hx; omega)
        rw [show t + (x + 1) = t + 1 + x by omega, this]
        rfl
    · rw [nI_1, h4, nk.2.1]
      exact g5
/-- the reference binds and enters the program's code -/
theorem MC_call_p {S : cp_S} {e i c B i' t : Nat} {y : Int32} {ps : List Nat} (h : TOPF S e i ps.length y) (h41 : S.2 41 i = nI ps.length) (hm : ps.length ≤ 4) (ht : ps.length = t + 1) (h40 : S.2 40 i = nI c) (hc : c < 26) (h30 : ¬ S.2 30 c = 1) (hps : ∀ x (h : x < ps.length), S.2 37 (4 * c + x) = nI ps[x]) (h36 : S.2 36 c = nI i') (h70 : S.1 70 = nI B) (hB : B + ps.length ≤ 620) :
    ∃ T : cp_S, (∀ k, k ≠ 70 → T.1 k = S.1 k) ∧ T.1 70 = nI (B + ps.length) ∧ (∀ p, p < 76 ∨ 78 < p → T.2 p = S.2 p) ∧ (∀ p, 76 ≤ p → p ≤ 78 → ∀ x, x < B → T.2 p x = S.2 p x) ∧ (∀ x (h : x < ps.length), T.2 76 (B + x) = nI ps[x] ∧ T.2 77 (B + x) = S.2 75 (8 * e + x) ∧ (∀ x', x = x' + 1 → T.2 78 (B + x) = nI (B + x'))) ∧ ∀ T', MC 0 m_M_enter [.int (nI i'), .int (nI (B + t))] T none T' → MC 3 m_M_call [.int (nI e), .int (nI i), .int (nI ps.length)] S none T' := by
  obtain ⟨h1, h2, h3, h4, h5, h6, h7⟩ := h
  have v39 : vp_in (nI i) (cp_ml 41) := vp_in_nI (show i < 2720 by omega) (by decide)
  obtain ⟨T, z', t1, t2, t3, t4, t5, t6, t7⟩ := call_binds (x2 := nI i) (x3 := nI ps.length) (e := e) (m := ps.length) (B := B) (c := c) h6 hm hc hB S.2 hps rfl ps.length 0 S (-1) (by omega) h70 rfl (fun _ => rfl) (fun t' h => by omega)
  refine ⟨T, t1, t2, t3, fun p p1 p2 x hx => t4 p p1 p2 x (by omega), fun x hx => t5 x (by omega) hx, fun T' mm => c_M_call (b_M_call_0 ?_)⟩
  unfold wp_M_call_0
  rw [nI_clamp (show i < 2 ^ 31 by omega), h41, h40, nI_clamp (show c < 2 ^ 31 by omega)]
  refine ⟨v39, v39, fun _ => ⟨fun _ => ⟨vp_in_nI (show c < 26 by omega) (by decide), fun _ => ?_, fun hn => absurd hn h30⟩, fun hn => absurd (nI_le (by omega) (by omega)) hn⟩, fun hn => absurd (nI_le (by omega) (by omega)) hn⟩
  refine t7 _ _ (b_M_call_174 ⟨fun _ => ⟨vp_in_nI (show c < 26 by omega) (by decide), T', ?_, rfl, rfl⟩, fun hn => absurd (nI_le (by omega) (by omega)) hn⟩)
  rw [nI_clamp (show c < 2 ^ 31 by omega), t3 36 (by omega), h36, t6 t ht]
  exact mm
