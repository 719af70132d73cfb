/-! ===== types: a condition, with the count of what is kept ===== -/
section CPCE
variable {ar : Nat → Nat} {rf : Nat} {pl : Nat → Nat → Prop} {lev n nE : Nat} {hl : List Nat} {C F : Nat} {L : Nat → Nat → Nat → Nat → Prop} {frame k : Nat} {sc : Nat → Prop} {K : cp_K} {S : cp_S} {ρ : Nat → Nat → Prop} {nv nc : Nat}
theorem condE {D p1 p2 p4 q pt d lv e Em Ht Sl u : Nat} (st : TST ar rf pl nE n K S ρ nv nc hl C F L) (hF : F < 1000) (hn : n ≤ 9000) (fr : FRM K frame S lev sc ρ) (hc : PCN K S.2 ar k sc q pt d) (hk : k ≤ 40) (hlev : lev ≤ 9) (hd : d ≤ 110) (h7 : rsz K 7 < 1040000) (hnv : nv + 300 < 6000) (hnc : nc + 300 < 6000) (hD : 330 ≤ D) (n1 : nd K p1 9) (n2 : nd K p2 10) (n3 : nd K (K.2.2.1 p2 4) 9) (hq : q ≠ K.2.2.1 (K.2.2.1 p2 4) 5)
    (heC : e ≤ C) (heE : e ≤ Em) (hEm : ∀ x, x ≤ Ht → x ≤ Sl → x ≤ Em) (hHt : hl.length ≤ Ht) (hcl : (∀ c, ¬ sc c) ∨ e + 1 ≤ Sl) (hu : nv + 100 * (Em - e) ≤ u) (hu' : nc + 100 * (Em - e) ≤ u) (h58 : S.1 58 = 0) :
    ∃ (ok : Bool) (K' : cp_K) (S' : cp_S) (ρ' : Nat → Nat → Prop) (nv' nc' C' F' e' : Nat), (ok = true → ∀ o Kx, JC (D + 8) m_T_typeOfConstant o Kx 176 (LT p1 p2 frame p4 q) (fun _ => []) K' → JC (D + 8) m_T_typeOfConstant o Kx 59 (LT p1 p2 frame p4 q) (fun _ => []) K) ∧ (ok = false → JC (D + 8) m_T_typeOfConstant (fun _ => .inl (some (.int (-1)))) (kI K' 24 6 (K.2.1 p1 2)) 59 (LT p1 p2 frame p4 q) (fun _ => []) K) ∧ MC 5 m_M_condition [.int (nI pt), .int (nI lev)] S (some (.int (if ok then 1 else 0))) S' ∧ TPO ar rf pl lv n n K S ρ nv nc hl C F L K' S' ρ' nv' nc' hl C' F' L ∧ (rsz K' 7 ≤ rsz K 7 + 900 + 9 * d ∧ F' = hl.length + C' ∧ nv ≤ nv' ∧ nc ≤ nc') ∧ (e' ≤ C' ∧ e' ≤ Em ∧ e ≤ e' ∧ e' ≤ e + 1 ∧ ((∀ c, ¬ sc c) → e' = e) ∧ nv' + 100 * (Em - e') ≤ u + d ∧ nc' + 100 * (Em - e') ≤ u + d) ∧ S'.2 63 = S.2 63 ∧ ∀ p, 65 ≤ p → p ≤ 70 → S'.2 p = S.2 p := by
  obtain ⟨⟨⟨⟨V, hh, hA⟩, ⟨h35, h40⟩, h9, h11⟩, h42, hs, hd4⟩, hFC, nm, ⟨hDi, -⟩, -, hB, -⟩ := id st
  by_cases hcl0 : ∀ c, ¬ sc c
  · have V0 : VI (rat K 7) (rsz K 7) S.2 nv nc (fun _ _ => False) [] 0 := ⟨⟨fun _ _ q => q.elim, fun _ _ _ _ q => q.elim, fun _ _ _ _ q => q.elim⟩, fun _ _ q => q.elim, ⟨fun _ _ q => q.elim, fun _ _ q => q.elim⟩, by simp, by simp, V.2.2.2.2.2⟩
    obtain ⟨ok, K', S', ρ', nv', nc', C', F', a1, a2, a3, a4, ⟨a5, a6, a7, a8, a9, a10, a11⟩, a12, a13⟩ := cond (lv := lv) (p4 := p4) (rf := rf) (pl := pl) (L := fun _ _ _ _ => False) (C := 0) (F := F) (hl := []) (ρ := fun _ _ => False) ⟨⟨V0, fun h hm => (by cases hm), ⟨fun _ _ _ _ q => q.elim, fun _ _ q => q.elim⟩⟩, ⟨h35, h40⟩, h9, h11⟩ ⟨fun _ _ _ _ q => q.elim, fun _ _ _ _ _ _ _ q => q.elim⟩ ⟨fun h hm => (by cases hm), fun h hm => (by cases hm)⟩ h42 hF (Nat.zero_le _) hB hn (fun c _ q => absurd q (hcl0 c)) hDi hc hk hlev hd h7 hnv hnc hD n1 n2 n3 hq h58
    obtain ⟨⟨⟨⟨V1, -, -⟩, ⟨b35, b40⟩, b9, b11⟩, b42, -, -⟩, ⟨-, -, c3, -, -, -⟩, ⟨-, -, -, c12⟩, c13, c14, c15, c16, c17⟩ := a4
    have hC' : C' = 0 := by have := V1.2.2.2.1; simp at this; omega
    have hF' : F' = F := by omega
    obtain ⟨-, -, -, d4, d5, d6, d7⟩ := c12 hF'
    obtain ⟨e1, e2⟩ := a10 hF'
    rw [e1] at b35
    rw [e2] at b40
    have V2 : VI (rat K' 7) (rsz K' 7) S'.2 nv nc ρ hl C := V.grow hh d4 c3 V1.2.2.2.2.2.2.2 d5 d6 (Nat.le_refl _) V.2.2.2.2.2.1 (Nat.le_refl _) V.2.2.2.2.2.2.1
    refine ⟨ok, K', S', ρ, nv, nc, C, F, e, a1, a2, a3, ⟨⟨⟨⟨V2, fun h hm => by have := hh h hm; omega, AR.up V hA d4⟩, ⟨b35, b40⟩, b9, b11⟩, by rw [b42, hF'], ⟨fun p x v r w => ?_, hs.2⟩, ⟨fun h hm => (d4 h (by have := hh h hm; omega)).trans (hd4.1 h hm), hd4.2⟩⟩, ⟨fun _ _ w => w, fun _ _ _ _ w => w, c3, fun j hj _ => d4 j hj, fun _ w => Or.inl w, fun _ w => w⟩, ⟨Nat.le_refl _, Nat.le_refl _, by omega, fun _ => ⟨rfl, rfl, rfl, d4, d5, d6, d7⟩⟩, c13, c14, c15, c16, c17⟩, ⟨a5, hFC, Nat.le_refl _, Nat.le_refl _⟩, ⟨heC, heE, Nat.le_refl _, by omega, fun _ => rfl, by omega, by omega⟩, a12, a13⟩
    obtain ⟨z1, z2, z3, z4, z5, z6, z7, z8⟩ := hs.1 p x v r w
    exact ⟨z1, z2, z3, z4, by rw [c15.1 20 (by decide)]; exact z5, z6, z7, by rw [d7]; exact z8⟩
  · have hsl := hcl.resolve_left hcl0
    obtain ⟨ok, K', S', ρ', nv', nc', C', F', a1, a2, a3, a4, ⟨a5, a6, a7, a8, a9, a10, a11⟩, a12, a13⟩ := cond (lv := lv) (p4 := p4) st.1.1 hs hd4 h42 hF (by omega) hB hn fr hDi hc hk hlev hd h7 hnv hnc hD n1 n2 n3 hq h58
    have hC1 := a4.2.2.1.2.1
    have hC2 := a4.1.1.1.1.2.2.2.1
    by_cases hF' : F' = F
    · obtain ⟨e1, e2⟩ := a10 hF'
      refine ⟨ok, K', S', ρ', nv', nc', C', F', e, a1, a2, a3, a4, ⟨a5, by omega, a6, a7⟩, ⟨by omega, heE, Nat.le_refl _, by omega, fun w => absurd w hcl0, by omega, by omega⟩, a12, a13⟩
    · have : e + 1 ≤ Em := hEm _ (by omega) hsl
      refine ⟨ok, K', S', ρ', nv', nc', C', F', e + 1, a1, a2, a3, a4, ⟨a5, by omega, a6, a7⟩, ⟨by omega, this, by omega, Nat.le_refl _, fun w => absurd w hcl0, by omega, by omega⟩, a12, a13⟩
end CPCE
