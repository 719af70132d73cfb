/-! ===== values of both sides: a relation between places of the class's row (f: its items, N: its size) and numbers of the reference's rows ===== -/
def VCase (f : Nat → Int32) (N : Nat) (a : Nat → Nat → Int32) (nc : Nat) (ρ : Nat → Nat → Prop) (v r : Nat) : Prop :=
  (f v = 1 ∧ a 52 r = 0 ∧ f (v + 1) = a 53 r ∧ f (v + 2) = 0 ∧ a 55 r = 0) ∨
  (f v = 2 ∧ a 52 r = 1 ∧ f (v + 1) = 0 ∧ a 53 r = 0 ∧ f (v + 2) = 0 ∧ a 55 r = 0) ∨
  (f v = 5 ∧ a 52 r = 4 ∧ f (v + 1) = nI v ∧ f (v + 2) = 0 ∧ a 55 r = 0) ∨
  (f v = 4 ∧ a 52 r = 2 ∧ f (v + 2) = 0 ∧ a 55 r = 0 ∧ ((f (v + 1) = -1 ∧ a 53 r = -1) ∨ ∃ v' r', f (v + 1) = nI v' ∧ a 53 r = nI r' ∧ ρ v' r')) ∨
  (f v = 6 ∧ a 52 r = 3 ∧ ∃ l m t, l < 26 ∧ m ≤ 6 ∧ f (v + 1) = nI (65 + l) ∧ a 53 r = nI l ∧ f (v + 2) = nI m ∧ a 55 r = nI m ∧ a 54 r = nI t ∧ t + m ≤ nc ∧ v + 3 + m ≤ N ∧ ∀ i, i < m → ∃ v' r', f (v + 3 + i) = nI v' ∧ a 56 (t + i) = nI r' ∧ ρ v' r')
def BIS (f : Nat → Int32) (N : Nat) (a : Nat → Nat → Int32) (nv nc : Nat) (ρ : Nat → Nat → Prop) : Prop :=
  (∀ v r, ρ v r → v + 3 ≤ N ∧ r < nv ∧ VCase f N a nc ρ v r) ∧
  (∀ v r v' r', ρ v r → ρ v' r' → f v = 4 → f v' = 4 → (v = v' ↔ r = r')) ∧
  (∀ v r v' r', ρ v r → ρ v' r' → f v = 5 → f v' = 5 → (v = v' ↔ a 53 r = a 53 r'))
/-- at most c filled holes lie behind one another -/
def chn (f : Nat → Int32) : Nat → Nat → Prop
  | 0, v => ¬ (f v = 4 ∧ ¬ f (v + 1) = -1)
  | c + 1, v => f v = 4 → ¬ f (v + 1) = -1 → ∃ v', f (v + 1) = nI v' ∧ v' < 2 ^ 31 ∧ chn f c v'
def ext (f : Nat → Int32) (v : Nat) : Nat := v + 3 + (f (v + 2)).toNatClampNeg
def VI (f : Nat → Int32) (N : Nat) (a : Nat → Nat → Int32) (nv nc : Nat) (ρ : Nat → Nat → Prop) (hl : List Nat) (C : Nat) : Prop :=
  BIS f N a nv nc ρ ∧ (∀ v r, ρ v r → chn f C v) ∧ ((∀ v r, ρ v r → f v = 4 → f (v + 1) = -1 → v ∈ hl) ∧ ∀ v r, ρ v r → ∀ h ∈ hl, v = h ∨ h + 1 < v ∨ ext f v ≤ h + 1) ∧ C + hl.countP (fun v => f (v + 1) = -1) ≤ hl.length ∧ 3 * hl.length ≤ N ∧ nv ≤ 6000 ∧ nc ≤ 6000 ∧ N ≤ 1048576
/-- no filled hole -/
def stl (f : Nat → Int32) (u : Nat) : Prop := ¬ (f u = 4 ∧ ¬ f (u + 1) = -1)
theorem nI_m1 {n : Nat} (h : n < 2 ^ 31) : ¬ nI n = -1 := by
  intro e
  have h1 := nI_pos h
  rw [e] at h1
  exact h1 (by decide)
section CPVL
variable {f : Nat → Int32} {N : Nat} {a : Nat → Nat → Int32} {nv nc C : Nat} {ρ : Nat → Nat → Prop} {hl : List Nat}
theorem look_c (V : VI f N a nv nc ρ hl C) : ∀ (c v r i : Nat), chn f c v → ρ v r → i + c < N → ∃ u s, ρ u s ∧ stl f u ∧
    (∀ (K : cp_K) (x : Int32), rat K 7 = f → rsz K 7 = N → JC 6 m_V_lookThrough (fun _ => .inl (some (.int (nI u)))) K 4 (fun G => [(0, .ref (cp_b G + 6)), (1, .int x), (2, .int (nI v)), (3, .int (nI i))]) (fun _ => []) K) ∧ ∃ j, ∀ b : Nat → Nat → Int32, (∀ v r, ρ v r → b 52 r = a 52 r ∧ b 53 r = a 53 r) → rs_seen b j (nI r) (nI s)
  | c, v, r, i, hc, h, hi => by
    have V0 := V
    obtain ⟨hB, -, -, -, -, hnv, hnc, hN⟩ := V0
    obtain ⟨h1, h2, h3⟩ := hB.1 v r h
    have hr31 : (nI r).toNatClampNeg = r := nI_clamp (by omega)
    have hvp : vp_in (nI r) 6000 := vp_in_nI (by omega) (by omega)
    by_cases hf : f v = 4 ∧ ¬ f (v + 1) = -1
    · -- a filled hole
      cases c with
      | zero => exact absurd hf hc
      | succ c =>
        obtain ⟨v2, e1, h31, hc2⟩ := hc hf.1 hf.2
        have h4 : a 52 r = 2 ∧ ∃ r', a 53 r = nI r' ∧ ρ v2 r' := by
          rcases h3 with h3 | h3 | h3 | h3 | h3
          · rw [hf.1] at h3; exact absurd h3.1 (by decide)
          · rw [hf.1] at h3; exact absurd h3.1 (by decide)
          · rw [hf.1] at h3; exact absurd h3.1 (by decide)
          · obtain ⟨-, q2, -, -, q5⟩ := h3
            rcases q5 with q5 | ⟨v', r', q6, q7, q8⟩
            · exact absurd q5.1 hf.2
            · rw [e1] at q6
              have hv' := (hB.1 v' r' q8).1
              have : v2 = v' := (nI_eq h31 (by omega)).mp q6
              subst this
              exact ⟨q2, r', q7, q8⟩
          · rw [hf.1] at h3; exact absurd h3.1 (by decide)
        obtain ⟨hf2, r', e2, hρ⟩ := h4
        have hr' := (hB.1 v2 r' hρ).2.1
        obtain ⟨u, s, g1, g2, g3, j, g4⟩ := look_c V c v2 r' (i + 1) hc2 hρ (by omega)
        refine ⟨u, s, g1, g2, fun K x eK eN => ?_, j + 1, fun b hb => ?_⟩
        · have hs : rsz K 7 < 2 ^ 31 := by omega
          refine b_V_lookThrough_4 (D := 0) ?_
          unfold wp_V_lookThrough_4
          rw [nI_1, rget_of (by omega) hs, rget_of (by omega) hs, eK]
          refine ⟨fun hn => absurd hn (by rw [eN]; exact nI_ge (by omega) (by omega)), fun _ => ⟨fun hn => absurd hf.1 hn, fun _ => ⟨fun hn => absurd hn hf.2, fun _ => ?_⟩⟩⟩
          rw [e1, nI_1]
          exact g3 K x eK eN
        · refine ⟨hvp, by rw [hr31, (hb v r h).1]; exact hf2, by rw [hr31, (hb v r h).2, e2]; exact nI_pos (by omega), ?_⟩
          rw [hr31, (hb v r h).2, e2]
          exact g4 b hb
    · refine ⟨v, r, h, hf, fun K x eK eN => ?_, 0, fun b hb => ?_⟩
      · have hs : rsz K 7 < 2 ^ 31 := by omega
        refine b_V_lookThrough_4 (D := 0) ?_
        unfold wp_V_lookThrough_4
        rw [nI_1, rget_of (by omega) hs, rget_of (by omega) hs, eK]
        exact ⟨fun _ => ⟨rfl, rfl⟩, fun _ => ⟨fun _ => ⟨rfl, rfl⟩, fun h4 => ⟨fun _ => ⟨rfl, rfl⟩, fun h5 => absurd ⟨h4, h5⟩ hf⟩⟩⟩
      · refine ⟨rfl, hvp, ?_⟩
        rw [hr31, (hb v r h).1, (hb v r h).2]
        rcases h3 with h3 | h3 | h3 | h3 | h3
        · left; rw [h3.2.1]; decide
        · left; rw [h3.2.1]; decide
        · left; rw [h3.2.1]; decide
        · right
          obtain ⟨q1, q2, -, -, q5⟩ := h3
          rcases q5 with q5 | ⟨v', r', q6, q7, q8⟩
          · rw [q5.2]; decide
          · exact absurd ⟨q1, by rw [q6]; exact nI_m1 (by have := (hB.1 v' r' q8).1; omega)⟩ hf
        · left; rw [h3.2.1]; decide
theorem VI.cl (V : VI f N a nv nc ρ hl C) {v r : Nat} (h : ρ v r) : C < N := by
  obtain ⟨hB, -, -, h4, h5, -⟩ := V
  have := (hB.1 v r h).1
  omega
/-- both look through -/
theorem look (V : VI f N a nv nc ρ hl C) {v r : Nat} (h : ρ v r) : ∃ u s, ρ u s ∧ stl f u ∧ (∀ K : cp_K, rat K 7 = f → rsz K 7 = N → KC 6 m_V_lookThrough (fun G => [.ref (cp_b G + 6), .int (nI v)]) K (fun _ => some (.int (nI u))) K) ∧
    (∀ S : cp_S, (∀ v r, ρ v r → S.2 52 r = a 52 r ∧ S.2 53 r = a 53 r) → MC 0 m_M_seen [.int (nI r)] S (some (.int (nI s))) S) := by
  obtain ⟨u, s, g1, g2, g3, j, g4⟩ := look_c V C v r 0 (V.2.1 v r h) h (by have := V.cl h; omega)
  exact ⟨u, s, g1, g2, fun K eK eN => c_V_lookThrough (D := 0) (g3 K _ eK eN), fun S hb => MC_seen (g4 S.2 hb)⟩
end CPVL
