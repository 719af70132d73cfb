/-! ===== valueOf as a method; values of one term on both sides are related ===== -/
theorem nI_sub1_lt {i : Nat} (h : i < 2 ^ 31) : nI i - 1 < nI i := by
  cases i with
  | zero => decide
  | succ i => rw [nI_pred]; exact nI_lt (by omega) (by omega)
theorem valOf_m {lev : Nat} {en eh : Nat → Nat → Prop} (hlev : lev ≤ 9) {k i j : Nat} {S : cp_S} {nv nc : Nat} (h : TS S.2 k i j) (hj : j ≤ 2720) (h35 : S.1 35 = nI nv) (h40 : S.1 40 = nI nc) (hnv : nv + (j - i) < 6000) (hnc : nc + (j - i) < 6000) (ht : j - i ≤ 110) (hR : RH S lev en eh i j) :
    ∃ (r : Nat) (S1 : cp_S) (nv1 nc1 : Nat), VRP S S1 nv nc nv1 nc1 (j - i) (j - i - 1) 0 ∧ r < 2 ^ 31 ∧ RT S1.2 S1.2 nv1 nc1 en eh k i j r ∧ MC 2 m_M_valueOf [.int (nI i), .int (nI lev)] S (some (.int (nI r))) S1 := by
  have hlt := SH_lt _ _ _ (TS.sh _ _ _ h)
  obtain ⟨r, S1, nv1, nc1, a1, a2, a3, a4, a5⟩ := valSub (start := i) hlev k i j S nv nc 0 h (Nat.le_refl _) hj h35 h40 hnv hnc (by omega) hR
  refine ⟨r, S1, nv1, nc1, a1, a2, a4, c_M_valueOf (b_M_valueOf_0 ⟨nI j, S, MC_behind (TS.sh _ _ _ h) hj, a5 _ _ ?_⟩)⟩
  refine b_M_valueOf_11 ⟨fun _ => ⟨vp_in_nI (n := 0) (show 0 < 110 by omega) (by decide), ?_, rfl⟩, fun hn => absurd (nI_sub1_lt (by omega)) hn⟩
  show _ = some (Value.int (S1.2 57 0))
  rw [a3]
theorem blw_fun {b : Nat → Nat → Int32} {i m m' : Nat} (h : blw b i m) (h' : blw b i m') (hm : m ≤ 20) (hm' : m' ≤ 20) : m = m' := by
  rcases h with ⟨h1 | h1, h2⟩ | ⟨h1 | h1, rfl⟩ | ⟨h1, rfl⟩ | ⟨h1, c, h2, rfl⟩ | ⟨h1, rfl⟩ <;> rcases h' with ⟨g1 | g1, g2⟩ | ⟨g1 | g1, rfl⟩ | ⟨g1, rfl⟩ | ⟨g1, d, g2, rfl⟩ | ⟨g1, rfl⟩ <;> first | rfl | (rw [h1] at g1; exact absurd g1 (by decide)) | (rw [h2] at g2; exact (nI_eq (by omega) (by omega)).mp g2) | (rw [h2] at g2; have := (nI_eq (by omega) (by omega)).mp g2; omega) | (exact absurd h1 (g1 _ (by decide))) | (exact absurd g1 (h1 _ (by decide)))
theorem SHL_fun {R R' : Nat → Nat → Prop} (hR : ∀ i j j', R i j → R' i j' → j = j') : ∀ (m i j j' : Nat), SHL R m i j → SHL R' m i j' → j = j'
  | 0, i, j, j', h, h' => by
    have e1 : i = j := h
    have e2 : i = j' := h'
    omega
  | m + 1, i, j, j', h, h' => by
    obtain ⟨x, h1, h2⟩ := h
    obtain ⟨y, g1, g2⟩ := h'
    have := hR i x y h1 g1
    subst this
    exact SHL_fun hR m x j j' h2 g2
theorem SH_fun {b : Nat → Nat → Int32} : ∀ (k k' i j j' : Nat), SH b k i j → SH b k' i j' → j = j'
  | 0, _, _, _, _, h, _ => h.elim
  | _ + 1, 0, _, _, _, _, h => h.elim
  | k + 1, k' + 1, i, j, j', h, h' => by
    obtain ⟨m, h1, h2, h3⟩ := h
    obtain ⟨m', g1, g2, g3⟩ := h'
    have := blw_fun h1 g1 h2 g2
    subst this
    exact SHL_fun (fun i j j' => SH_fun k k' i j j') m (i + 1) j j' h3 g3
theorem RTL_SHL {R : Nat → Nat → Nat → Prop} {R' : Nat → Nat → Prop} {g : Nat → Int32} (h : ∀ i j r, R i j r → R' i j) : ∀ (m i j t : Nat), RTL R g m i j t → SHL R' m i j
  | 0, _, _, _, c => c
  | m + 1, i, j, t, c => by
    obtain ⟨i', r, -, -, c1, c2⟩ := c
    exact ⟨i', h i i' r c1, RTL_SHL h m i' j (t + 1) c2⟩
theorem RT.sh {b a : Nat → Nat → Int32} {nv nc : Nat} {en eh : Nat → Nat → Prop} : ∀ (k i j r : Nat), RT b a nv nc en eh k i j r → SH b k i j
  | 0, _, _, _, h => h.elim
  | k + 1, i, j, r, h => by
    have leaf : ∀ c : Int32, b 39 i = c → (∀ d ∈ ([5, 6, 7, 8, 9, 13] : List Int32), ¬ c = d) → j = i + 1 → SH b (k + 1) i j := fun c h1 h2 h3 => ⟨0, Or.inr (Or.inr (Or.inr (Or.inr ⟨by rw [h1]; exact h2, rfl⟩))), by omega, h3.symm⟩
    rcases h with ⟨h1, h2, -⟩ | ⟨h1, h2, -⟩ | ⟨-, ⟨h1, h2, -⟩ | ⟨h1, h2, -⟩ | ⟨h1, m, t, h2, -, -, h3, -, -, -, h4⟩⟩
    · exact leaf 1 h1 (by decide) h2
    · exact leaf 4 h1 (by decide) h2
    · exact leaf 2 h1 (by decide) h2
    · exact leaf 3 h1 (by decide) h2
    · exact ⟨m, Or.inl ⟨Or.inl h1, h3⟩, by omega, RTL_SHL (RT.sh k) m _ _ _ h4⟩
theorem VCase.mono {f : Nat → Int32} {N : Nat} {a : Nat → Nat → Int32} {nc v r : Nat} {ρ ρ' : Nat → Nat → Prop} (h : VCase f N a nc ρ v r) (hρ : ∀ x y, ρ x y → ρ' x y) : VCase f N a nc ρ' v r := by
  rcases h with h | h | h | ⟨h1, h2, h3, h4, h5⟩ | ⟨h1, h2, l, m, t, w1, w2, w3, w4, w5, w6, w7, w8, w9, w10⟩
  · exact Or.inl h
  · exact Or.inr (Or.inl h)
  · exact Or.inr (Or.inr (Or.inl h))
  · refine Or.inr (Or.inr (Or.inr (Or.inl ⟨h1, h2, h3, h4, ?_⟩)))
    rcases h5 with h5 | ⟨v', r', q1, q2, q3⟩
    · exact Or.inl h5
    · exact Or.inr ⟨v', r', q1, q2, hρ _ _ q3⟩
  · refine Or.inr (Or.inr (Or.inr (Or.inr ⟨h1, h2, l, m, t, w1, w2, w3, w4, w5, w6, w7, w8, w9, fun i hi => ?_⟩)))
    obtain ⟨v', r', q1, q2, q3⟩ := w10 i hi
    exact ⟨v', r', q1, q2, hρ _ _ q3⟩
section CPRL
variable {f : Nat → Int32} {N : Nat} {a : Nat → Nat → Int32} {nv nc C : Nat} {ρ : Nat → Nat → Prop} {hl : List Nat}
/-- a pair is added: no hole, no name -/
theorem VI.add (V : VI f N a nv nc ρ hl C) {v r : Nat} (hv : v + 3 ≤ N) (hr : r < nv) (hc : VCase f N a nc ρ v r) (n4 : ¬ f v = 4) (n5 : ¬ f v = 5) (hs : ∀ h ∈ hl, v = h ∨ h + 1 < v ∨ ext f v ≤ h + 1) : VI f N a nv nc (fun x y => ρ x y ∨ (x = v ∧ y = r)) hl C := by
  obtain ⟨⟨B1, B2, B3⟩, c2, ⟨c3, c4⟩, c5⟩ := V
  refine ⟨⟨fun x y h => ?_, fun x y x' y' h h' e1 e2 => ?_, fun x y x' y' h h' e1 e2 => ?_⟩, fun x y h => ?_, ⟨fun x y h e1 e2 => ?_, fun x y h k hk => ?_⟩, c5⟩
  · rcases h with h | ⟨rfl, rfl⟩
    · obtain ⟨q1, q2, q3⟩ := B1 x y h
      exact ⟨q1, q2, q3.mono (fun _ _ => Or.inl)⟩
    · exact ⟨hv, hr, hc.mono (fun _ _ => Or.inl)⟩
  · rcases h with h | ⟨rfl, rfl⟩
    · rcases h' with h' | ⟨rfl, rfl⟩
      · exact B2 x y x' y' h h' e1 e2
      · exact absurd e2 n4
    · exact absurd e1 n4
  · rcases h with h | ⟨rfl, rfl⟩
    · rcases h' with h' | ⟨rfl, rfl⟩
      · exact B3 x y x' y' h h' e1 e2
      · exact absurd e2 n5
    · exact absurd e1 n5
  · rcases h with h | ⟨rfl, rfl⟩
    · exact c2 x y h
    · cases C with
      | zero => exact fun q => n4 q.1
      | succ C => exact fun q => absurd q n4
  · rcases h with h | ⟨rfl, rfl⟩
    · exact c3 x y h e1 e2
    · exact absurd e1 n4
  · rcases h with h | ⟨rfl, rfl⟩
    · exact c4 x y h k hk
    · exact hs k hk
/-- a constant out of the subtree between i and j -/
def NEWP (b : Nat → Nat → Int32) (i j : Nat) (f : Nat → Int32) (x : Nat) : Prop := ¬ f x = 5 ∧ (f x = 6 → ∃ c m x0, i ≤ x0 ∧ x0 < j ∧ c < 26 ∧ m ≤ 6 ∧ f (x + 1) = nI (65 + c) ∧ f (x + 2) = nI m ∧ b 39 x0 = 5 ∧ b 40 x0 = nI c ∧ b 41 x0 = nI m)
theorem NEWP.sub {b : Nat → Nat → Int32} {i j i' j' : Nat} {f : Nat → Int32} {x : Nat} (h : NEWP b i j f x) (h1 : i' ≤ i) (h2 : j ≤ j') : NEWP b i' j' f x := ⟨h.1, fun e => by
  obtain ⟨c, m, x0, q1, q2, q3⟩ := h.2 e
  exact ⟨c, m, x0, by omega, by omega, q3⟩⟩
theorem relL {K : cp_K} {b : Nat → Nat → Int32} {pl : Nat → Nat → Prop} {ec eh en eh' : Nat → Nat → Prop} {k : Nat} (ih : ∀ (ρ : Nat → Nat → Prop) (p i j v r : Nat), TR K b pl k p i j → CT K f N hl ec eh k p v → RT b a nv nc en eh' k i j r → (∀ c v r, ec c v → en c r → ρ v r) → (∀ k p i v r, K.2.1 p 0 = 4 → b 39 i = 4 → TR K b pl k p i (i + 1) → eh p v → eh' i r → ρ v r) → VI f N a nv nc ρ hl C → ∃ ρ' : Nat → Nat → Prop, (∀ x y, ρ x y → ρ' x y) ∧ ρ' v r ∧ (∀ x y, ρ' x y → ρ x y ∨ NEWP b i j f x) ∧ VI f N a nv nc ρ' hl C) :
    ∀ (m q i j w t : Nat) (ρ : Nat → Nat → Prop), CHN (TR K b pl k) K m q i j → CTL (CT K f N hl ec eh k) K f m q w → RTL (RT b a nv nc en eh' k) (a 56) m i j t → (∀ c v r, ec c v → en c r → ρ v r) → (∀ k p i v r, K.2.1 p 0 = 4 → b 39 i = 4 → TR K b pl k p i (i + 1) → eh p v → eh' i r → ρ v r) → VI f N a nv nc ρ hl C → ∃ ρ' : Nat → Nat → Prop, (∀ x y, ρ x y → ρ' x y) ∧ (∀ x, x < m → ∃ v' r', f (w + x) = nI v' ∧ a 56 (t + x) = nI r' ∧ ρ' v' r') ∧ (∀ x y, ρ' x y → ρ x y ∨ NEWP b i j f x) ∧ VI f N a nv nc ρ' hl C
  | 0, q, i, j, w, t, ρ, _, _, _, _, _, V => ⟨ρ, fun _ _ h => h, fun x hx => by omega, fun _ _ h => Or.inl h, V⟩
  | m + 1, q, i, j, w, t, ρ, hC, hT, hR, hE, hH, V => by
    obtain ⟨h0, i1, h1, h2⟩ := hC
    obtain ⟨v', g0, g1, g2, g3⟩ := hT
    obtain ⟨i2, r', q0, q1, q2, q3⟩ := hR
    have e : i1 = i2 := SH_fun k k i i1 i2 (TR.sh k q i i1 h1) (RT.sh k i i2 r' q2)
    subst e
    have lt1 := SH_lt _ _ _ (TR.sh k q i i1 h1)
    have lt2 := SHL_le (fun _ _ => SH_lt _ _ _) m i1 j (CHN_SHL (TR.sh k) m _ _ _ h2)
    obtain ⟨ρ1, s1, s2, s4, s3⟩ := ih ρ q i i1 v' r' h1 g2 q2 hE hH V
    obtain ⟨ρ2, u1, u2, u4, u3⟩ := relL ih m (K.2.2.1 q 6) i1 j (w + 1) (t + 1) ρ1 h2 g3 q3 (fun c v r x y => s1 _ _ (hE c v r x y)) (fun k p i v r x1 x2 x3 x4 x5 => s1 _ _ (hH k p i v r x1 x2 x3 x4 x5)) s3
    refine ⟨ρ2, fun x y h => u1 x y (s1 x y h), fun x hx => ?_, fun x y h => ?_, u3⟩
    rotate_left
    · rcases u4 x y h with h | h
      · rcases s4 x y h with h | h
        · exact Or.inl h
        · exact Or.inr (h.sub (Nat.le_refl _) (by omega))
      · exact Or.inr (h.sub (by omega) (Nat.le_refl _))
    cases x with
    | zero => exact ⟨v', r', g1, q1, u1 _ _ s2⟩
    | succ x =>
      obtain ⟨v2, r2, y1, y2, y3⟩ := u2 x (by omega)
      exact ⟨v2, r2, by rw [show w + (x + 1) = w + 1 + x by omega]; exact y1, by rw [show t + (x + 1) = t + 1 + x by omega]; exact y2, y3⟩
/-- the values that both sides make of one term are related -/
theorem rel {K : cp_K} {b : Nat → Nat → Int32} {pl : Nat → Nat → Prop} {ec eh en eh' : Nat → Nat → Prop} (hN : N ≤ 1048576) : ∀ (k : Nat) (ρ : Nat → Nat → Prop) (p i j v r : Nat), TR K b pl k p i j → CT K f N hl ec eh k p v → RT b a nv nc en eh' k i j r → (∀ c v r, ec c v → en c r → ρ v r) → (∀ k p i v r, K.2.1 p 0 = 4 → b 39 i = 4 → TR K b pl k p i (i + 1) → eh p v → eh' i r → ρ v r) → VI f N a nv nc ρ hl C → ∃ ρ' : Nat → Nat → Prop, (∀ x y, ρ x y → ρ' x y) ∧ ρ' v r ∧ (∀ x y, ρ' x y → ρ x y ∨ NEWP b i j f x) ∧ VI f N a nv nc ρ' hl C
  | 0, _, _, _, _, _, _, h, _, _, _, _, _ => h.elim
  | k + 1, ρ, p, i, j, v, r, h, hT, hR, hE, hH, V => by
    have h00 := h
    obtain ⟨h0, -, h⟩ := h
    have hne : ∀ {x c c' : Int32} {P : Prop}, x = c → c ≠ c' → x = c' → P := fun {_ _ _ _} h1 h2 h3 => absurd (Eq.trans (Eq.symm h1) h3) h2
    have addL : ∀ (ρ1 : Nat → Nat → Prop), (∀ x y, ρ x y → ρ1 x y) → (∀ x y, ρ1 x y → ρ x y ∨ NEWP b i j f x) → NEWP b i j f v → VI f N a nv nc ρ1 hl C → SEPv f N hl v → v + 3 ≤ N → r < nv → VCase f N a nc ρ1 v r → ¬ f v = 4 → ¬ f v = 5 → ∃ ρ' : Nat → Nat → Prop, (∀ x y, ρ x y → ρ' x y) ∧ ρ' v r ∧ (∀ x y, ρ' x y → ρ x y ∨ NEWP b i j f x) ∧ VI f N a nv nc ρ' hl C := fun ρ1 s1 s4 s5 V1 sv hv hr hc n4 n5 => ⟨_, fun x y h => Or.inl (s1 x y h), Or.inr ⟨rfl, rfl⟩, fun x y h => h.elim (s4 x y) (fun e => by rw [e.1]; exact Or.inr s5), V1.add hv hr hc n4 n5 (fun h hm => Or.inr (sv.2 h hm))⟩
    rcases h with ⟨h1, h2, ⟨c, h3, h4, h5⟩, h6⟩ | ⟨h1, h2, h3, h6⟩ | ⟨h1, h2, h3, h6⟩ | ⟨h1, h2, h3⟩ | ⟨h1, h2, c, m, h3, h4, h5, h6, h7, h8, h9⟩
    · -- a variable
      rcases hT with ⟨-, c1, t1, t2, t3⟩ | ⟨t1, -⟩ | ⟨-, ⟨t1, -⟩ | ⟨t1, -⟩ | ⟨t1, -⟩⟩
      · rcases hR with ⟨-, -, c2, r1, r2, r3⟩ | ⟨r1, -⟩ | ⟨-, ⟨r1, -⟩ | ⟨r1, -⟩ | ⟨r1, -⟩⟩
        · rw [h4] at t2
          rw [h5] at r2
          have e1 := (nI_eq (by omega) (by omega)).mp t2
          have e2 := (nI_eq (by omega) (by omega)).mp r2
          have e3 : c1 = c := by omega
          subst e3
          subst e2
          exact ⟨ρ, fun _ _ h => h, hE _ v r t3 r3, fun _ _ h => Or.inl h, V⟩
        · exact hne h2 (by decide) r1
        · exact hne h2 (by decide) r1
        · exact hne h2 (by decide) r1
        · exact hne h2 (by decide) r1
      · exact hne h1 (by decide) t1
      · exact hne h1 (by decide) t1
      · exact hne h1 (by decide) t1
      · exact hne h1 (by decide) t1
    · rcases hT with ⟨t1, -⟩ | ⟨t1, -⟩ | ⟨sv, ⟨-, t1, t2, t3⟩ | ⟨t1, -⟩ | ⟨t1, -⟩⟩
      · exact hne h1 (by decide) t1
      · exact hne h1 (by decide) t1
      · rcases hR with ⟨r1, -⟩ | ⟨r1, -⟩ | ⟨r0, ⟨-, -, r1, r2, r3⟩ | ⟨r1, -⟩ | ⟨r1, -⟩⟩
        · exact hne h2 (by decide) r1
        · exact hne h2 (by decide) r1
        · exact addL ρ (fun _ _ h => h) (fun _ _ h => Or.inl h) ⟨by rw [t1]; decide, fun e => absurd (t1.symm.trans e) (by decide)⟩ V sv (by have := sv.1; unfold ext at this; omega) r0 (Or.inl ⟨t1, r1, by rw [t2, r2]; exact h3, t3, r3⟩) (by rw [t1]; decide) (by rw [t1]; decide)
        · exact hne h2 (by decide) r1
        · exact hne h2 (by decide) r1
      · exact hne h1 (by decide) t1
      · exact hne h1 (by decide) t1
    · rcases hT with ⟨t1, -⟩ | ⟨t1, -⟩ | ⟨sv, ⟨t1, -⟩ | ⟨-, t1, t2, t3⟩ | ⟨t1, -⟩⟩
      · exact hne h1 (by decide) t1
      · exact hne h1 (by decide) t1
      · exact hne h1 (by decide) t1
      · rcases hR with ⟨r1, -⟩ | ⟨r1, -⟩ | ⟨r0, ⟨r1, -⟩ | ⟨-, -, r1, r2, r3⟩ | ⟨r1, -⟩⟩
        · exact hne h2 (by decide) r1
        · exact hne h2 (by decide) r1
        · exact hne h2 (by decide) r1
        · exact addL ρ (fun _ _ h => h) (fun _ _ h => Or.inl h) ⟨by rw [t1]; decide, fun e => absurd (t1.symm.trans e) (by decide)⟩ V sv (by have := sv.1; unfold ext at this; omega) r0 (Or.inr (Or.inl ⟨t1, r1, t2, r2, t3, r3⟩)) (by rw [t1]; decide) (by rw [t1]; decide)
        · exact hne h2 (by decide) r1
      · exact hne h1 (by decide) t1
    · -- a hole
      rcases hT with ⟨t1, -⟩ | ⟨-, t1⟩ | ⟨-, ⟨t1, -⟩ | ⟨t1, -⟩ | ⟨t1, -⟩⟩
      · exact hne h1 (by decide) t1
      · rcases hR with ⟨r1, -⟩ | ⟨-, -, r1⟩ | ⟨-, ⟨r1, -⟩ | ⟨r1, -⟩ | ⟨r1, -⟩⟩
        · exact hne h2 (by decide) r1
        · exact ⟨ρ, fun _ _ h => h, hH (k + 1) p i v r h1 h2 (by rw [← h3]; exact h00) t1 r1, fun _ _ h => Or.inl h, V⟩
        · exact hne h2 (by decide) r1
        · exact hne h2 (by decide) r1
        · exact hne h2 (by decide) r1
      · exact hne h1 (by decide) t1
      · exact hne h1 (by decide) t1
      · exact hne h1 (by decide) t1
    · -- a letter
      rcases hT with ⟨t1, -⟩ | ⟨t1, -⟩ | ⟨sv, ⟨t1, -⟩ | ⟨t1, -⟩ | ⟨-, m1, t1, t2, t3, t4, t5, t6⟩⟩
      · exact hne h1 (by decide) t1
      · exact hne h1 (by decide) t1
      · exact hne h1 (by decide) t1
      · exact hne h1 (by decide) t1
      · rcases hR with ⟨r1, -⟩ | ⟨r1, -⟩ | ⟨r0, ⟨r1, -⟩ | ⟨r1, -⟩ | ⟨-, m2, t, r1, r2, r3, r4, r5, r6, r7, r8⟩⟩
        · exact hne h2 (by decide) r1
        · exact hne h2 (by decide) r1
        · exact hne h2 (by decide) r1
        · exact hne h2 (by decide) r1
        · have e1 : m1 = m := by rw [h7] at t5; exact ((nI_eq (by omega) (by omega)).mp t5).symm
          have e2 : m2 = m := by rw [h8] at r4; exact ((nI_eq (by omega) (by omega)).mp r4).symm
          subst e1
          subst e2
          obtain ⟨ρ1, s1, s2, s4, s3⟩ := relL (fun ρ p i j v r x1 x2 x3 x4 x5 x6 => rel hN k ρ p i j v r x1 x2 x3 x4 x5 x6) m2 (K.2.2.1 p 4) (i + 1) j (v + 3) t ρ h9 t6 r8 hE hH V
          have ex : ext f v = v + 3 + m2 := by unfold ext; rw [t4, nI_clamp (by omega)]
          have hsv := sv.1
          have hlt := SH_lt _ _ _ (TR.sh (k + 1) p i j h00)
          exact addL ρ1 s1 (fun x y h => (s4 x y h).imp_right (fun q => q.sub (by omega) (Nat.le_refl _))) ⟨by rw [t2]; decide, fun _ => ⟨c, m2, i, Nat.le_refl _, hlt, h3, h4, by rw [t3]; exact h5, t4, h2, h6, h8⟩⟩ s3 sv (by omega) r0 (Or.inr (Or.inr (Or.inr (Or.inr ⟨t2, r2, c, m2, t, h3, h4, by rw [t3]; exact h5, by rw [r3]; exact h6, t4, r5, r6, r7, by omega, s2⟩)))) (by rw [t2]; decide) (by rw [t2]; decide)
end CPRL
