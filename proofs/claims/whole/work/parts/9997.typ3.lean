/-! ===== types: making the same, running ===== -/
section CPTS
variable {ar : Nat → Nat} {rf : Nat} {pl : Nat → Nat → Prop} {lev n n' : Nat} {K : cp_K} {S : cp_S} {ρ : Nat → Nat → Prop} {nv nc : Nat} {hl : List Nat} {C F : Nat} {L : Nat → Nat → Nat → Nat → Prop}
theorem TPO.same (st : TVS ar hl C K S ρ nv nc) (hs : HLS S rf pl L ρ) (hd4 : HD4 (rat K 7) hl) (h42 : S.1 42 = nI F) (hB : BS K n) {v1 r1 v2 r2 : Nat} (p1 : ρ v1 r1) (p2 : ρ v2 r2) :
    ∃ (ok : Bool) (K' : cp_K) (S' : cp_S) (C' : Nat), KC 10 m_V_makeSame (fun G => [.ref (cp_b G + 6), .int (nI v1), .int (nI v2)]) K (fun _ => some (.int (if ok then 1 else 0))) K' ∧ MC 3 m_M_makeSame [.int (nI r1), .int (nI r2)] S (some (.int (if ok then 1 else 0))) S' ∧ TPO ar rf pl lev n n K S ρ nv nc hl C F L K' S' ρ nv nc hl C' (F + (C' - C)) L ∧ rsz K' 7 = rsz K 7 ∧ (S'.2 63 = S.2 63 ∧ (∀ p, 65 ≤ p → p ≤ 71 → S'.2 p = S.2 p)) := by
  obtain ⟨⟨V, hh, hA⟩, ⟨h35, h40⟩, h9, h11⟩ := st
  obtain ⟨ok, f', a', C', K', S', ⟨g1, g2, g3, g4, g5, g6, g7, g8, g9, g10, g11, g12⟩, kc, mc⟩ := same_m V (K := K) (S := S) rfl rfl h9 h11 (fun _ _ _ => rfl) p1 p2
  have hne : ∀ h ∈ hl, ∀ h' ∈ hl, h ≠ h' + 1 := fun h hm h' hm' => by rcases hd4.2 h hm h' hm' with q | q | q <;> omega
  have V1 : VI (rat K' 7) (rsz K' 7) S'.2 nv nc ρ hl C' := by
    rw [g3, g4]
    exact g1.ga (by exact hh) (fun p p1 p2 => g8 p p1 p2)
  have A1 : AR ar (rat K' 7) ρ := by
    rw [g3]
    exact AR.mv V hd4.1 hA (fun j _ hj => g7 j hj)
  have b15 := g2.2.2.1 15 (by decide)
  have b17 := g2.2.2.1 17 (by decide)
  have b19 := g2.2.2.1 19 (by decide)
  refine ⟨ok, K', S', C', kc, mc, ⟨⟨⟨⟨V1, by rw [g4]; exact hh, A1⟩, ⟨by rw [g9.1 35 (by decide) (by decide)]; exact h35, by rw [g9.1 40 (by decide) (by decide)]; exact h40⟩, g5, g6⟩, g12 F h42, ⟨fun p x v r q => ?_, hs.2⟩, ⟨fun h hm => ?_, hd4.2⟩⟩, ⟨fun _ _ q => q, fun _ _ _ _ q => q, by omega, fun j hj hq => by rw [g3]; exact g7 j hq, fun _ q => Or.inl q, fun _ q => q⟩, ⟨by omega, g10, by omega, fun e => ?_⟩, ⟨fun q => ?_, Or.inr (g9.1 61 (by decide) (by decide))⟩, KX.of g2 (by decide), ⟨fun k hk => g9.1 k (fun q => hk (by rw [q]; decide)) (fun q => hk (by rw [q]; decide)), fun p hp => g9.2 p (by omega) (by omega), fun x _ => by rw [g9.2 63 (by omega) (by omega)], fun p p1 p2 x _ => by rw [g9.2 p (by omega) (by omega)]⟩, ⟨by rw [b15.1]; exact hB.1, by rw [b17.1]; exact hB.2.1, by rw [b19.1]; exact hB.2.2⟩, fun q hq x hx => ?_⟩, g4, g9.2 63 (by omega) (by omega), fun p p1 p2 => g9.2 p (by omega) (by omega)⟩
  · obtain ⟨z1, z2, z3, z4, z5, z6, z7, z8⟩ := hs.1 p x v r q
    exact ⟨z1, z2, z3, z4, by rw [g9.1 20 (by decide) (by decide)]; exact z5, z6, z7, by rw [g9.2 43 (by omega) (by omega)]; exact z8⟩
  · rw [g3, g7 h (fun h' hm' => hne h hm h' hm')]; exact hd4.1 h hm
  · obtain ⟨e1, e2⟩ := g11 (by omega)
    refine ⟨rfl, by omega, rfl, fun j hj => by rw [g3, e1], fun p p1 p2 r hr => ?_, fun t ht => ?_, g9.2 43 (by omega) (by omega)⟩
    · rw [g8 p (by omega) (by omega), e2]
    · rw [g8 56 (by omega) (by omega), e2]
  · rw [g2.1, g9.1 60 (by decide) (by decide)]; exact q
  · rcases hq with rfl | rfl | rfl
    · rw [b15.2]
    · rw [b17.2]
    · rw [b19.2]
theorem TPO.run {c m : Nat} (st : TVS ar hl C K S ρ nv nc) (hs : HLS S rf pl L ρ) (hd4 : HD4 (rat K 7) hl) (h42 : S.1 42 = nI F) (hB : BS K (n + m)) (hn : n ≤ 9000) (hnv : nv + 100 < 6000) (hnc : nc + 100 < 6000) (h7 : rsz K 7 < 1047000) (hD : DIC K S.2 ar) (hc : c < 26) (h30 : S.2 30 c = 2) (h31 : S.2 31 c = nI m) (hm : m ≤ 4) (hArg : ∀ x, x < m → ∃ v r, rat K 17 (n + x) = nI v ∧ v < 2 ^ 31 ∧ S.2 71 x = nI r ∧ ρ v r) (h58 : S.1 58 = 0) :
    ∃ (x z : Int32) (K' : cp_K) (S' : cp_S) (ρ' : Nat → Nat → Prop) (nv' nc' : Nat), KC 332 m_U_carryOut (fun G => [.ref (cp_b G + 23), .int (nI (65 + c)), .int (nI n)]) K (fun _ => some (.int x)) K' ∧ MC 4 m_M_runs [.int (nI c)] S (some (.int z)) S' ∧ TPO ar rf pl lev n n K S ρ nv nc hl C F L K' S' ρ' nv' nc' hl C F L ∧ ((x = -1 ∧ z = -1) ∨ ∃ v r, x = nI v ∧ z = nI r ∧ ρ' v r) ∧ rsz K' 7 ≤ rsz K 7 + 900 ∧ nv ≤ nv' ∧ nv' ≤ nv + 100 ∧ nc ≤ nc' ∧ nc' ≤ nc + 100 ∧ (∀ p, 63 ≤ p → p < 72 → S'.2 p = S.2 p) := by
  obtain ⟨⟨V, hh, hA⟩, ⟨h35, h40⟩, h9, h11⟩ := st
  obtain ⟨x, z, K', S', ρ', nv', nc', w', kc, mc, ⟨⟨a1, a2, a3⟩, ⟨a4, a5, a6, a7, a8, a9⟩, ⟨a10, a11, a12⟩, ⟨b1, b2, b3, b4, b5, b6, b7⟩, ⟨f1, f2⟩, f3, f4⟩, out⟩ := run_m V hh hA h35 h40 hB hn hnv hnc h7 h9 h11 hD hc h30 h31 hm hArg
  refine ⟨x, z, K', S', ρ', nv', nc', kc, mc, ⟨⟨⟨⟨a1, fun h hm => Nat.le_trans (hh h hm) a7, a2⟩, ⟨a10, a11⟩, b6, b7⟩, by rw [f1 42 (by decide)]; exact h42, ⟨fun p x v r q => ?_, hs.2⟩, ⟨fun h hm => (a9 h (by have := hh h hm; omega)).trans (hd4.1 h hm), hd4.2⟩⟩, ⟨a3, fun _ _ _ _ q => q, a7, fun j hj _ => a9 j hj, fun _ q => Or.inl q, fun _ q => q⟩, ⟨Nat.le_refl _, Nat.le_refl _, by omega, fun _ => ⟨rfl, rfl, rfl, a9, f3, f4, f2 43 (by omega)⟩⟩, ⟨fun q => ?_, Or.inl h58⟩, ?_, ⟨fun k hk => f1 k (fun q => hk (by simp only [List.mem_cons, List.not_mem_nil, or_false] at q ⊢; omega)), fun p hp => f2 p (by omega), fun x _ => by rw [f2 63 (by omega)], fun p p1 p2 x _ => by rw [f2 p (by omega)]⟩, a5, a6⟩, out, by omega, b2, by omega, b4, by omega, fun p p1 p2 => f2 p (by omega)⟩
  · obtain ⟨z1, z2, z3, z4, z5, z6, z7, z8⟩ := hs.1 p x v r q
    exact ⟨z1, a3 _ _ z2, z3, z4, by rw [f1 20 (by decide)]; exact z5, z6, z7, by rw [f2 43 (by omega)]; exact z8⟩
  · rw [a4.1, kI_i, va_up_at, va_up_at, a12, q]
  · exact (KX.put (k := 3) (Or.inl rfl)).trans ((KX.put (k := 4) (Or.inl rfl)).trans (KX.of a4 (fun q hq => hq)))
end CPTS
