/-! ===== values are made on both sides; holes, names; the reference sets back ===== -/
section CPGR
variable {f f' : Nat → Int32} {N N' : Nat} {a a' : Nat → Nat → Int32} {nv nc nv' nc' C : Nat} {ρ : Nat → Nat → Prop} {hl : List Nat}
theorem chn_congr (hρ : ∀ v r, ρ v r → f' v = f v ∧ f' (v + 1) = f (v + 1)) (hB : BIS f N a nv nc ρ) (hN : N ≤ 1048576) : ∀ (c v r : Nat), ρ v r → chn f c v → chn f' c v
  | 0, v, r, h, hc => by
    have := hρ v r h
    show ¬ (f' v = 4 ∧ ¬ f' (v + 1) = -1)
    rw [this.1, this.2]
    exact hc
  | c + 1, v, r, h, hc => by
    intro q1 q2
    have e := hρ v r h
    rw [e.1] at q1
    rw [e.2] at q2 ⊢
    obtain ⟨v', w1, w2, w3⟩ := hc q1 q2
    obtain ⟨-, -, b3⟩ := hB.1 v r h
    have : ∃ r', ρ v' r' := by
      rcases b3 with b3 | b3 | b3 | b3 | b3
      · rw [q1] at b3; exact absurd b3.1 (by decide)
      · rw [q1] at b3; exact absurd b3.1 (by decide)
      · rw [q1] at b3; exact absurd b3.1 (by decide)
      · rcases b3.2.2.2.2 with b4 | ⟨v2, r2, b4, b5, b6⟩
        · exact absurd b4.1 q2
        · rw [w1] at b4
          have := (nI_eq w2 (by have := (hB.1 v2 r2 b6).1; omega)).mp b4
          subst this
          exact ⟨r2, b6⟩
      · rw [q1] at b3; exact absurd b3.1 (by decide)
    obtain ⟨r', hr'⟩ := this
    exact ⟨v', w1, w2, chn_congr hρ hB hN c v' r' hr' w3⟩
/-- both rows may grow -/
theorem VI.grow (V : VI f N a nv nc ρ hl C) (hh : ∀ h ∈ hl, h + 3 ≤ N) (hf : ∀ j, j < N → f' j = f j) (hN : N ≤ N') (hN' : N' ≤ 1048576) (hv : ∀ p, 52 ≤ p → p ≤ 55 → ∀ r, r < nv → a' p r = a p r) (hc : ∀ t, t < nc → a' 56 t = a 56 t) (h1 : nv ≤ nv') (h1' : nv' ≤ 6000) (h2 : nc ≤ nc') (h2' : nc' ≤ 6000) : VI f' N' a' nv' nc' ρ hl C := by
  have V0 := V
  obtain ⟨⟨B1, B2, B3⟩, c2, ⟨c3, c4⟩, c5, c6, c7, c8, c9⟩ := V0
  have e0 : ∀ v r, ρ v r → f' v = f v ∧ f' (v + 1) = f (v + 1) ∧ f' (v + 2) = f (v + 2) := fun v r h => by
    have := (B1 v r h).1
    exact ⟨hf v (by omega), hf _ (by omega), hf _ (by omega)⟩
  have ar : ∀ p, 52 ≤ p → p ≤ 55 → ∀ v r, ρ v r → a' p r = a p r := fun p p1 p2 v r h => hv p p1 p2 r (B1 v r h).2.1
  refine ⟨⟨fun v r h => ?_, fun v r v' r' h h' e1 e2 => ?_, fun v r v' r' h h' e1 e2 => ?_⟩, fun v r h => chn_congr (fun v r h => ⟨(e0 v r h).1, (e0 v r h).2.1⟩) ⟨B1, B2, B3⟩ c9 C v r h (c2 v r h), ⟨fun v r h q1 q2 => ?_, fun v r h k hk => ?_⟩, ?_, by omega, h1', h2', hN'⟩
  · obtain ⟨q1, q2, q3⟩ := B1 v r h
    refine ⟨by omega, by omega, ?_⟩
    unfold VCase
    rw [(e0 v r h).1, (e0 v r h).2.1, (e0 v r h).2.2, ar 52 (by omega) (by omega) v r h, ar 53 (by omega) (by omega) v r h, ar 54 (by omega) (by omega) v r h, ar 55 (by omega) (by omega) v r h]
    rcases q3 with q | q | q | q | ⟨g1, g2, l, m, t, w1, w2, w3, w4, w5, w6, w7, w8, w9, w10⟩
    · exact Or.inl q
    · exact Or.inr (Or.inl q)
    · exact Or.inr (Or.inr (Or.inl q))
    · exact Or.inr (Or.inr (Or.inr (Or.inl q)))
    · refine Or.inr (Or.inr (Or.inr (Or.inr ⟨g1, g2, l, m, t, w1, w2, w3, w4, w5, w6, w7, by omega, by omega, fun i hi => ?_⟩)))
      rw [hf _ (by omega), hc _ (by omega)]
      exact w10 i hi
  · rw [(e0 v r h).1] at e1
    rw [(e0 v' r' h').1] at e2
    exact B2 v r v' r' h h' e1 e2
  · rw [(e0 v r h).1] at e1
    rw [(e0 v' r' h').1] at e2
    rw [ar 53 (by omega) (by omega) v r h, ar 53 (by omega) (by omega) v' r' h']
    exact B3 v r v' r' h h' e1 e2
  · rw [(e0 v r h).1] at q1
    rw [(e0 v r h).2.1] at q2
    exact c3 v r h q1 q2
  · have : ext f' v = ext f v := by unfold ext; rw [(e0 v r h).2.2]
    rw [this]
    exact c4 v r h k hk
  · have : hl.countP (fun v => decide (f' (v + 1) = -1)) = hl.countP (fun v => decide (f (v + 1) = -1)) := List.countP_congr (fun x hx => by
      rw [hf _ (by have := hh x hx; omega)])
    omega
theorem VI.sepE (V : VI f N a nv nc ρ hl C) {v r : Nat} (h : ρ v r) : ext f v ≤ N := by
  obtain ⟨t, A, h1, h2, h3, h4, h5, -⟩ := args_of V h
  unfold ext
  rw [h2, nI_clamp (by omega)]
  exact h5
/-- a new hole on both sides -/
theorem VI.hole (V : VI f N a nv nc ρ hl C) (hh : ∀ h ∈ hl, h + 3 ≤ N) (hN : N + 3 ≤ 1048576) (g0 : f N = 4) (g1 : f (N + 1) = -1) (g2 : f (N + 2) = 0) (hnv : nv + 1 ≤ 6000) (w0 : a 52 nv = 2) (w1 : a 53 nv = -1) (w2 : a 55 nv = 0) : VI f (N + 3) a (nv + 1) nc (fun x y => ρ x y ∨ (x = N ∧ y = nv)) (N :: hl) C := by
  have V0 := V
  obtain ⟨⟨B1, B2, B3⟩, c2, ⟨c3, c4⟩, c5, c6, c7, c8, c9⟩ := V0
  have V1 := V.grow (f' := f) (a' := a) (N' := N + 3) (nv' := nv + 1) (nc' := nc) hh (fun _ _ => rfl) (by omega) hN (fun _ _ _ _ _ => rfl) (fun _ _ => rfl) (by omega) hnv (Nat.le_refl _) c8
  obtain ⟨⟨D1, -, -⟩, -⟩ := V1
  have ne5 : ¬ f N = 5 := by rw [g0]; decide
  refine ⟨⟨fun x y h => ?_, fun x y x' y' h h' e1 e2 => ?_, fun x y x' y' h h' e1 e2 => ?_⟩, fun x y h => ?_, ⟨fun x y h e1 e2 => ?_, fun x y h k hk => ?_⟩, ?_, ?_, hnv, c8, hN⟩
  · rcases h with h | ⟨rfl, rfl⟩
    · obtain ⟨q1, q2, q3⟩ := D1 x y h
      exact ⟨q1, q2, q3.mono (fun _ _ => Or.inl)⟩
    · exact ⟨Nat.le_refl _, by omega, Or.inr (Or.inr (Or.inr (Or.inl ⟨g0, w0, g2, w2, Or.inl ⟨g1, w1⟩⟩)))⟩
  · rcases h with h | ⟨rfl, rfl⟩
    · have b1 := B1 x y h
      rcases h' with h' | ⟨rfl, rfl⟩
      · exact B2 x y x' y' h h' e1 e2
      · exact ⟨fun e => by omega, fun e => by omega⟩
    · rcases h' with h' | ⟨rfl, rfl⟩
      · have b1 := B1 x' y' h'
        exact ⟨fun e => by omega, fun e => by omega⟩
      · exact ⟨fun _ => rfl, fun _ => rfl⟩
  · rcases h with h | ⟨rfl, rfl⟩
    · rcases h' with h' | ⟨rfl, rfl⟩
      · exact B3 x y x' y' h h' e1 e2
      · exact absurd e2 ne5
    · exact absurd e1 ne5
  · rcases h with h | ⟨rfl, rfl⟩
    · exact c2 x y h
    · cases C with
      | zero => exact fun q => q.2 g1
      | succ C => exact fun _ q => absurd g1 q
  · rcases h with h | ⟨rfl, rfl⟩
    · exact List.mem_cons_of_mem _ (c3 x y h e1 e2)
    · exact List.mem_cons_self
  · rcases h with h | ⟨rfl, rfl⟩
    · rcases List.mem_cons.mp hk with rfl | hk
      · have := V.sepE h
        omega
      · exact c4 x y h k hk
    · rcases List.mem_cons.mp hk with rfl | hk
      · exact Or.inl rfl
      · have := hh k hk
        omega
  · rw [List.countP_cons, if_pos (by simp [g1]), List.length_cons]
    omega
  · rw [List.length_cons]
    omega
/-- a new name on both sides -/
theorem VI.name (V : VI f N a nv nc ρ hl C) (hh : ∀ h ∈ hl, h + 3 ≤ N) (hN : N + 3 ≤ 1048576) (g0 : f N = 5) (g1 : f (N + 1) = nI N) (g2 : f (N + 2) = 0) (hnv : nv + 1 ≤ 6000) (w0 : a 52 nv = 4) (w2 : a 55 nv = 0) (hx : ∀ v r, ρ v r → f v = 5 → ¬ a 53 r = a 53 nv) : VI f (N + 3) a (nv + 1) nc (fun x y => ρ x y ∨ (x = N ∧ y = nv)) hl C := by
  have V0 := V
  obtain ⟨⟨B1, B2, B3⟩, c2, ⟨c3, c4⟩, c5, c6, c7, c8, c9⟩ := V0
  have V1 := V.grow (f' := f) (a' := a) (N' := N + 3) (nv' := nv + 1) (nc' := nc) hh (fun _ _ => rfl) (by omega) hN (fun _ _ _ _ _ => rfl) (fun _ _ => rfl) (by omega) hnv (Nat.le_refl _) c8
  obtain ⟨⟨D1, -, -⟩, -⟩ := V1
  have ne4 : ¬ f N = 4 := by rw [g0]; decide
  refine ⟨⟨fun x y h => ?_, fun x y x' y' h h' e1 e2 => ?_, fun x y x' y' h h' e1 e2 => ?_⟩, fun x y h => ?_, ⟨fun x y h e1 e2 => ?_, fun x y h k hk => ?_⟩, c5, by omega, hnv, c8, hN⟩
  · rcases h with h | ⟨rfl, rfl⟩
    · obtain ⟨q1, q2, q3⟩ := D1 x y h
      exact ⟨q1, q2, q3.mono (fun _ _ => Or.inl)⟩
    · exact ⟨Nat.le_refl _, by omega, Or.inr (Or.inr (Or.inl ⟨g0, w0, g1, g2, w2⟩))⟩
  · rcases h with h | ⟨rfl, rfl⟩
    · rcases h' with h' | ⟨rfl, rfl⟩
      · exact B2 x y x' y' h h' e1 e2
      · exact absurd e2 ne4
    · exact absurd e1 ne4
  · rcases h with h | ⟨rfl, rfl⟩
    · have b1 := B1 x y h
      rcases h' with h' | ⟨rfl, rfl⟩
      · exact B3 x y x' y' h h' e1 e2
      · exact ⟨fun e => by omega, fun e => absurd e (hx x y h e1)⟩
    · rcases h' with h' | ⟨rfl, rfl⟩
      · have b1 := B1 x' y' h'
        exact ⟨fun e => by omega, fun e => absurd e.symm (hx x' y' h' e2)⟩
      · exact ⟨fun _ => rfl, fun _ => rfl⟩
  · rcases h with h | ⟨rfl, rfl⟩
    · exact c2 x y h
    · cases C with
      | zero => exact fun q => ne4 q.1
      | succ C => exact fun q => absurd q ne4
  · rcases h with h | ⟨rfl, rfl⟩
    · exact c3 x y h e1 e2
    · exact absurd e1 ne4
  · rcases h with h | ⟨rfl, rfl⟩
    · exact c4 x y h k hk
    · have := hh k hk
      omega
/-- constants have as many arguments as their letters have parameters -/
def AR (ar : Nat → Nat) (f : Nat → Int32) (ρ : Nat → Nat → Prop) : Prop := (∀ v r l m, ρ v r → f v = 6 → l < 26 → m ≤ 6 → f (v + 1) = nI (65 + l) → f (v + 2) = nI m → m = ar l) ∧ ∀ v r, ρ v r → f v = 5 → ar 26 = 1
theorem AR.of {ar : Nat → Nat} {ρ' : Nat → Nat → Prop} {b : Nat → Nat → Int32} {i j : Nat} (h : AR ar f ρ) (hn : ∀ x y, ρ' x y → ρ x y ∨ NEWP b i j f x) (ht : ∀ x c m, i ≤ x → x < j → b 39 x = 5 → b 40 x = nI c → c < 26 → b 41 x = nI m → m ≤ 6 → m = ar c) : AR ar f ρ' := by
  refine ⟨?_, fun v r hv e => (hn v r hv).elim (fun q => h.2 v r q e) (fun q => absurd e q.1)⟩
  intro v r l m hv e1 hl hm e2 e3
  rcases hn v r hv with q | q
  · exact h.1 v r l m q e1 hl hm e2 e3
  · obtain ⟨c, m', x0, q1, q2, q3, q4, q5, q6, q7, q8, q9⟩ := q.2 e1
    rw [q5] at e2
    rw [q6] at e3
    have e4 := (nI_eq (by omega) (by omega)).mp e2
    have e5 := (nI_eq (by omega) (by omega)).mp e3
    have e6 : c = l := by omega
    subst e6
    subst e5
    exact ht x0 c m' q1 q2 q7 q8 q3 q9 q4
theorem AR.mv {ar : Nat → Nat} (V : VI f N a nv nc ρ hl C) (h4l : ∀ h ∈ hl, f h = 4) (h : AR ar f ρ) (hf : ∀ j, j < N → (∀ h ∈ hl, j ≠ h + 1) → f' j = f j) : AR ar f' ρ := by
  refine ⟨?_, fun v r hv e => h.2 v r hv (by
    have hE := V.sepE hv
    have ex : v + 3 ≤ ext f v := by unfold ext; omega
    rw [← hf v (by omega) (fun k hk e => by
        rcases V.2.2.1.2 v r hv k hk with q | q | q <;> omega)]
    exact e)⟩
  intro v r l m hv e1 hl' hm e2 e3
  have hE := V.sepE hv
  have ex : v + 3 ≤ ext f v := by unfold ext; omega
  by_cases h4 : f v = 4
  · by_cases hvl : v ∈ hl
    · -- a hole stays one
      have : f' v = f v := hf v (by omega) (fun k hk e => by
        rcases V.2.2.1.2 v r hv k hk with q | q | q <;> omega)
      rw [this, h4] at e1
      exact absurd e1 (by decide)
    · have : f' v = f v := hf v (by omega) (fun k hk e => by
        rcases V.2.2.1.2 v r hv k hk with q | q | q <;> omega)
      rw [this, h4] at e1
      exact absurd e1 (by decide)
  · have keep : ∀ j, v ≤ j → j < v + 3 → (j = v + 1 → ¬ v ∈ hl) → f' j = f j := fun j j1 j2 j3 => hf j (by omega) (fun k hk e => by
      rcases V.2.2.1.2 v r hv k hk with q | q | q
      · exact j3 (by omega) (q ▸ hk)
      · omega
      · omega)
    have k0 : f' v = f v := keep v (Nat.le_refl _) (by omega) (fun e => by omega)
    have k2 : f' (v + 2) = f (v + 2) := keep _ (by omega) (by omega) (fun e => by omega)
    rw [k0] at e1
    rw [k2] at e3
    by_cases hvl : v ∈ hl
    · exact absurd (e1.symm.trans (h4l v hvl)) (by decide)
    · rw [keep (v + 1) (by omega) (by omega) (fun _ => hvl)] at e2
      exact h.1 v r l m hv e1 hl' hm e2 e3
end CPGR
