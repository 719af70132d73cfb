/-! ===== isSmallWithout, isLarge and lies on related values ===== -/
theorem mk_list {α : Type} : ∀ (m : Nat) (P : Nat → α → Prop), (∀ i, i < m → ∃ q, P i q) → ∃ A : List α, A.length = m ∧ ∀ i (h : i < A.length), P i A[i]
  | 0, _, _ => ⟨[], rfl, fun i h => absurd h (by simp)⟩
  | m + 1, P, h => by
    obtain ⟨A, hA, hP⟩ := mk_list m P (fun i hi => h i (by omega))
    obtain ⟨q, hq⟩ := h m (by omega)
    refine ⟨A ++ [q], by simp [hA], fun i hi => ?_⟩
    by_cases hi2 : i < A.length
    · rw [List.getElem_append_left hi2]; exact hP i hi2
    · rw [List.length_append, List.length_singleton] at hi
      have : i = A.length := by omega
      subst this
      rw [List.getElem_append_right (Nat.le_refl _)]
      simp only [Nat.sub_self, List.getElem_cons_zero]
      rw [hA]; exact hq
theorem ws_eq {α : Type} {b : Nat → Int32} {g : α → Int32} : ∀ (A : List α) (t : Nat), (∀ i (h : i < A.length), b (t + i) = g A[i]) → ws b t A.length = A.map g
  | [], _, _ => rfl
  | q :: A, t, h => by
    have h0 := h 0 (by simp)
    simp only [Nat.add_zero, List.getElem_cons_zero] at h0
    show b t :: ws b (t + 1) A.length = g q :: A.map g
    rw [h0, ws_eq (g := g) A (t + 1) (fun i hi => by
      have := h (i + 1) (by simpa using hi)
      simp only [List.getElem_cons_succ] at this
      rw [← this]; congr 1; omega)]
def LKP (f : Nat → Int32) (N : Nat) (a : Nat → Nat → Int32) (ρ : Nat → Nat → Prop) (v r : Nat) (q : Nat × Nat) : Prop := ρ q.1 q.2 ∧ stl f q.1 ∧ (∀ K : cp_K, rat K 7 = f → rsz K 7 = N → KC 6 m_V_lookThrough (fun G => [.ref (cp_b G + 6), .int (nI v)]) K (fun _ => some (.int (nI q.1))) K) ∧
    (∀ S : cp_S, S.2 52 = a 52 → S.2 53 = a 53 → MC 0 m_M_seen [.int (nI r)] S (some (.int (nI q.2))) S)
def WKP (a : Nat → Nat → Int32) (ρ : Nat → Nat → Prop) (r : Nat) (q : Nat × Nat) : Prop := ∀ S : cp_S, (∀ v r, ρ v r → S.2 52 r = a 52 r ∧ S.2 53 r = a 53 r) → MC 0 m_M_seen [.int (nI r)] S (some (.int (nI q.2))) S
/-- what both come to when they look through -/
noncomputable def lk (f : Nat → Int32) (N : Nat) (a : Nat → Nat → Int32) (ρ : Nat → Nat → Prop) (v r : Nat) : Nat × Nat := Classical.epsilon (fun q => LKP f N a ρ v r q ∧ WKP a ρ r q)
def GE (S : cp_S) (a : Nat → Nat → Int32) : Prop := ∀ p, 52 ≤ p → p ≤ 56 → S.2 p = a p
theorem GE.fw {S S' : cp_S} {a : Nat → Nat → Int32} (h : GE S a) (w : FW S S') : GE S' a := fun p h1 h2 => (w.2 p (by omega) (by omega)).trans (h p h1 h2)
section CPSM2
variable {f : Nat → Int32} {N : Nat} {a : Nat → Nat → Int32} {nv nc C : Nat} {ρ : Nat → Nat → Prop} {hl : List Nat}
theorem lk_both (V : VI f N a nv nc ρ hl C) {v r : Nat} (h : ρ v r) : LKP f N a ρ v r (lk f N a ρ v r) ∧ WKP a ρ r (lk f N a ρ v r) := by
  obtain ⟨u, s, g1, g2, g3, g4⟩ := look V h
  exact Classical.epsilon_spec (p := fun q => LKP f N a ρ v r q ∧ WKP a ρ r q) ⟨(u, s), ⟨g1, g2, g3, fun S b1 b2 => g4 S (fun _ _ _ => ⟨by rw [b1], by rw [b2]⟩)⟩, g4⟩
theorem lk_spec (V : VI f N a nv nc ρ hl C) {v r : Nat} (h : ρ v r) : LKP f N a ρ v r (lk f N a ρ v r) := (lk_both V h).1
theorem args_of (V : VI f N a nv nc ρ hl C) {u s : Nat} (h : ρ u s) : ∃ (t : Nat) (A : List (Nat × Nat)), A.length ≤ 6 ∧ f (u + 2) = nI A.length ∧ a 55 s = nI A.length ∧ (0 < A.length → a 54 s = nI t ∧ t + A.length ≤ 6000) ∧ u + 3 + A.length ≤ N ∧ (∀ q ∈ A, ρ q.1 q.2) ∧ (∀ i (hi : i < A.length), f (u + 3 + i) = nI A[i].1) ∧ ws (a 56) t A.length = A.map (fun q => nI q.2) := by
  obtain ⟨hB, -, -, -, -, hnv, hnc, hN⟩ := V
  obtain ⟨h1, h2, h3⟩ := hB.1 u s h
  have leaf : f (u + 2) = 0 → a 55 s = 0 → ∃ (t : Nat) (A : List (Nat × Nat)), A.length ≤ 6 ∧ f (u + 2) = nI A.length ∧ a 55 s = nI A.length ∧ (0 < A.length → a 54 s = nI t ∧ t + A.length ≤ 6000) ∧ u + 3 + A.length ≤ N ∧ (∀ q ∈ A, ρ q.1 q.2) ∧ (∀ i (hi : i < A.length), f (u + 3 + i) = nI A[i].1) ∧ ws (a 56) t A.length = A.map (fun q => nI q.2) := fun e1 e2 => ⟨0, [], by simp, by rw [e1]; rfl, by rw [e2]; rfl, fun h => absurd h (by simp), by simpa using h1, fun q hq => absurd hq (by simp), fun i hi => absurd hi (by simp), rfl⟩
  rcases h3 with h3 | h3 | h3 | h3 | h3
  · exact leaf h3.2.2.2.1 h3.2.2.2.2
  · exact leaf h3.2.2.2.2.1 h3.2.2.2.2.2
  · exact leaf h3.2.2.2.1 h3.2.2.2.2
  · exact leaf h3.2.2.1 h3.2.2.2.1
  · obtain ⟨-, -, l, m, t, -, q2, -, -, q5, q6, q7, q8, q9, q10⟩ := h3
    obtain ⟨A, hA, hP⟩ := mk_list m (fun i (q : Nat × Nat) => f (u + 3 + i) = nI q.1 ∧ a 56 (t + i) = nI q.2 ∧ ρ q.1 q.2) (fun i hi => by
      obtain ⟨v', r', w1, w2, w3⟩ := q10 i hi
      exact ⟨(v', r'), w1, w2, w3⟩)
    subst hA
    refine ⟨t, A, q2, q5, q6, fun _ => ⟨q7, by omega⟩, q9, fun q hq => ?_, fun i hi => (hP i hi).1, ws_eq A t (fun i hi => (hP i hi).2.1)⟩
    obtain ⟨i, hi, e⟩ := List.getElem_of_mem hq
    rw [← e]
    exact (hP i hi).2.2
/-- the reference stands on the first of the list, what is behind it is still to be walked -/
def HDp (f : Nat → Int32) (N : Nat) (a0 : Nat → Nat → Int32) (ρ : Nat → Nat → Prop) (a : Nat → Nat → Int32) : Nat → List (Nat × Nat) → Prop
  | 0, L => L = []
  | d + 1, L => ∃ q L', L = q :: L' ∧ a 61 d = nI (lk f N a0 ρ q.1 q.2).2 ∧ a 62 d = 0 ∧ WP a d (L'.map (fun q => nI q.2))
/-- further, from one list to the next -/
theorem fur_HD (V : VI f N a nv nc ρ hl C) {S : cp_S} (hS : GE S a) {d : Nat} {q : Nat × Nat} {L' A : List (Nat × Nat)} {t : Nat} (hd : d ≤ 207) (hH : HDp f N a ρ S.2 (d + 1) (q :: L')) (hA1 : A.length ≤ 6) (hA2 : a 55 (lk f N a ρ q.1 q.2).2 = nI A.length) (hA3 : 0 < A.length → a 54 (lk f N a ρ q.1 q.2).2 = nI t ∧ t + A.length ≤ 6000) (hA4 : ws (a 56) t A.length = A.map (fun q => nI q.2)) (hA5 : ∀ q ∈ A, ρ q.1 q.2) (hL : ∀ q ∈ L', ρ q.1 q.2) (hs : (lk f N a ρ q.1 q.2).2 < 6000) :
    ∃ d' S', MC 1 m_M_further [.int (nI (d + 1))] S (some (.int (nI d'))) S' ∧ FW S S' ∧ HDp f N a ρ S'.2 d' (A ++ L') ∧ d' ≤ d + 2 := by
  obtain ⟨q0, L0, e, h1, h2, h3⟩ := hH
  obtain ⟨rfl, rfl⟩ := List.cons.inj e
  have hW : WP S.2 (d + 1) ((A ++ L').map (fun q => nI q.2)) := by
    refine ⟨(lk f N a ρ q.1 q.2).2, A.length, t, 0, L'.map (fun q => nI q.2), hs, h1, h2, by rw [hS 55 (by omega) (by omega)]; exact hA2, fun h => by rw [hS 54 (by omega) (by omega)]; exact hA3 h, Nat.zero_le _, hA1, ?_, h3⟩
    rw [List.map_append, ← hA4, hS 56 (by omega) (by omega)]
    rfl
  obtain ⟨f1, f2⟩ := fur (x := nI (d + 1)) (d + 1) _ hW (by omega)
  cases hc : A ++ L' with
  | nil =>
    refine ⟨0, S, c_M_further (b_M_further_0 (f1 (by rw [hc]; rfl))), FW.refl, rfl, by omega⟩
  | cons q1 L1 =>
    have hq1 : ρ q1.1 q1.2 := by
      have : q1 ∈ A ++ L' := by rw [hc]; exact List.mem_cons_self
      rcases List.mem_append.mp this with h | h
      · exact hA5 q1 h
      · exact hL q1 h
    have hl := lk_spec V hq1
    obtain ⟨e0, S', g1, g2, g3, g4, g5, g6⟩ := f2 (nI q1.2) (L1.map (fun q => nI q.2)) (nI (lk f N a ρ q1.1 q1.2).2) (by rw [hc]; rfl) (hl.2.2.2 S (hS 52 (by omega) (by omega)) (hS 53 (by omega) (by omega)))
    exact ⟨e0 + 1, S', c_M_further (b_M_further_0 g2), g3, ⟨q1, L1, rfl, g4, g5, g6⟩, by omega⟩
/-- the class lays the arguments on its stack -/
theorem small_push {x1 x2 x3 : Int32} {u : Nat} {A : List (Nat × Nat)} {L : List Int32} (hu : u + 3 + A.length ≤ N) (hN : N ≤ 1048576) (hA : ∀ i (hi : i < A.length), f (u + 3 + i) = nI A[i].1) (hA1 : A.length ≤ 6) : ∀ (j : Nat) (K : cp_K), j ≤ A.length → rat K 7 = f → rsz K 7 = N → RS K 9 ((A.drop j).map (fun q => nI q.1) ++ L) → L.length ≤ 1300 →
    ∃ K1, KF [9] K K1 ∧ RS K1 9 (A.map (fun q => nI q.1) ++ L) ∧ ∀ (o : cp_G → cp_O) (K' : cp_K), JC 8 m_V_isSmallWithout o K' 18 (fun G => [(0, .ref (cp_b G + 6)), (1, .int x1), (2, .int x2), (3, .int (x3 + 1))]) (fun _ => []) K1 → JC 8 m_V_isSmallWithout o K' 68 (fun G => [(0, .ref (cp_b G + 6)), (1, .int x1), (2, .int x2), (3, .int x3), (4, .int (nI u)), (5, .int (nI j - 1))]) (fun _ => []) K
  | 0, K, _, _, _, hR, _ => ⟨K, KF.refl, hR, fun o K' w => b_V_isSmallWithout_68 (D := 0) ⟨fun _ => w, fun hn => absurd (show nI 0 - 1 < 0 by decide) hn⟩⟩
  | j + 1, K, hj, e1, e2, hR, hL => by
    have hs : rsz K 7 < 2 ^ 31 := by omega
    have hsz : rsz K 9 < 2000 := by
      rw [hR.1, List.length_append, List.length_map, List.length_drop]
      omega
    have eA : nI u + 3 + nI j = nI (u + 3 + j) := by rw [show (3 : Int32) = nI 3 from rfl, nI_add, nI_add]
    have hget : rget K 7 (nI u + 3 + nI j) = nI A[j].1 := by rw [eA, rget_of (by omega) hs, e1]; exact hA j (by omega)
    have hd : A.drop j = A[j] :: A.drop (j + 1) := List.drop_eq_getElem_cons (by omega)
    have kf : KF [9] K (kpush K 9 (nI A[j].1)) := KF.push (by decide)
    obtain ⟨K1, g1, g2, g3⟩ := small_push (x1 := x1) (x2 := x2) (x3 := x3) hu hN hA hA1 j (kpush K 9 (nI A[j].1)) (by omega) (by rw [(kf.2.2.1 7 (by decide)).2]; exact e1) (by rw [(kf.2.2.1 7 (by decide)).1]; exact e2) (by rw [hd]; exact hR.push) hL
    refine ⟨K1, kf.trans g1, g2, fun o K' w => b_V_isSmallWithout_68 (D := 0) ?_⟩
    unfold wp_V_isSmallWithout_68
    rw [nI_pred, hget]
    refine ⟨fun hn => absurd hn (nI_pos (by omega)), fun _ => ⟨by show rsz K 9 < 16384; omega, ?_⟩⟩
    rw [show nI j + (-1) = nI j - 1 from (Int32.sub_eq_add_neg _ _).symm]
    exact g3 o K' w
end CPSM2
