/-! ===== types: terms without holes; weights ===== -/
def pfx (g : Nat → Nat) : Nat → Nat
  | 0 => 0
  | x + 1 => pfx g x + g x
theorem pfx_le {g : Nat → Nat} : ∀ {x y : Nat}, x ≤ y → pfx g x ≤ pfx g y
  | x, 0, h => by have : x = 0 := by omega
                  rw [this]; exact Nat.le_refl _
  | x, y + 1, h => by
    by_cases e : x = y + 1
    · rw [e]; exact Nat.le_refl _
    · have := pfx_le (g := g) (x := x) (y := y) (by omega)
      show pfx g x ≤ pfx g y + g y
      omega
def gI (b : Nat → Nat → Int32) : Nat → Nat := pfx (fun x => if b 39 x = 5 ∧ ¬ b 41 x = 0 then 1 else 0)
def gL (b : Nat → Nat → Int32) : Nat → Nat := pfx (fun x => if b 39 x = 5 ∧ b 41 x = 0 then 1 else 0)
def gS (b : Nat → Nat → Int32) : Nat → Nat := pfx (fun x => if b 39 x = 5 then (if b 41 x = 0 then 1 else 6 - (b 41 x).toNatClampNeg) else 0)
def gH (b : Nat → Nat → Int32) : Nat → Nat := pfx (fun x => if b 39 x = 4 then 1 else 0)
theorem GW_b {b : Nat → Nat → Int32} : GW b (gI b) (gS b) (gH b) := by
  refine ⟨fun x y h => ⟨pfx_le h, pfx_le h, pfx_le h⟩, fun x m h5 h41 hm => ⟨fun h1 => ⟨?_, ?_⟩, fun h0 => ?_⟩, fun x h4 => ?_⟩
  · show gI b x + 1 ≤ gI b x + (if b 39 x = 5 ∧ ¬ b 41 x = 0 then 1 else 0)
    have : ¬ b 41 x = 0 := by rw [h41]; exact nI_ne0 (by omega) (by omega)
    rw [if_pos ⟨h5, this⟩]
    exact Nat.le_refl _
  · show gS b x + (6 - m) ≤ gS b x + (if b 39 x = 5 then (if b 41 x = 0 then 1 else 6 - (b 41 x).toNatClampNeg) else 0)
    have : ¬ b 41 x = 0 := by rw [h41]; exact nI_ne0 (by omega) (by omega)
    rw [if_pos h5, if_neg this, h41, nI_clamp (by omega)]
    exact Nat.le_refl _
  · show gS b x + 1 ≤ gS b x + (if b 39 x = 5 then (if b 41 x = 0 then 1 else 6 - (b 41 x).toNatClampNeg) else 0)
    have : b 41 x = 0 := by rw [h41, h0]; rfl
    rw [if_pos h5, if_pos this]
    exact Nat.le_refl _
  · show gH b x + 1 ≤ gH b x + (if b 39 x = 4 then 1 else 0)
    rw [if_pos h4]
    exact Nat.le_refl _
theorem gL_1 {b : Nat → Nat → Int32} {x : Nat} (h5 : b 39 x = 5) (h0 : b 41 x = nI 0) : gL b x + 1 ≤ gL b (x + 1) := by
  show gL b x + 1 ≤ gL b x + (if b 39 x = 5 ∧ b 41 x = 0 then 1 else 0)
  rw [if_pos ⟨h5, h0.trans rfl⟩]
  exact Nat.le_refl _
theorem g_bk {b b' : Nat → Nat → Int32} (h : BK b b') : gI b' = gI b ∧ gS b' = gS b ∧ gH b' = gH b ∧ gL b' = gL b := by
  unfold gI gS gH gL
  rw [h 39 (by omega), h 41 (by omega)]
  exact ⟨rfl, rfl, rfl, rfl⟩
abbrev L0 : Nat → Nat → Nat → Nat → Prop := fun _ _ _ _ => False
section CPT0
variable {ar : Nat → Nat} {rf : Nat} {pl : Nat → Nat → Prop} {nE : Nat} {K : cp_K} {S : cp_S} {ρ : Nat → Nat → Prop} {nv nc : Nat}
theorem typ_0 {n k p i j u : Nat} (st : TST ar rf pl nE n K S ρ nv nc [] 0 0 L0) (ht : TR K S.2 pl k p i j) (hj : j < 2720 ∧ j - i ≤ 100) (hk : k ≤ 9) (hn : n ≤ 8000) (hH : gH S.2 j = gH S.2 i) (hu : nv ≤ u ∧ nc ≤ u ∧ u + 100 * (gI S.2 j - gI S.2 i) + (k + 2) * (j - i) ≤ 5590) (h7 : rsz K 7 + 6500 * (j - i) < 1040000) :
    (∃ (K' : cp_K) (S' : cp_S), KC 370 m_T_typeOf (fun G => [.ref (cp_b G + 24), va_rf (kr G p)]) K (fun _ => some (.int (-1))) K' ∧ MC 7 m_M_typeOf [.int (nI i)] S (some (.int (-1))) S' ∧ BDQ K S K' S') ∨
    ∃ (K' : cp_K) (S' : cp_S) (ρ' : Nat → Nat → Prop) (nv' nc' x v lf : Nat) (ts : Int32), KC 370 m_T_typeOf (fun G => [.ref (cp_b G + 24), va_rf (kr G p)]) K (fun _ => some (.int (nI x))) K' ∧ MC 7 m_M_typeOf [.int (nI i)] S (some (.int ts)) S' ∧ ¬ ts = -1 ∧ TYR K' ρ' x ts ∧ x < rsz K' 7 ∧ TPO ar rf pl 1 n n K S ρ nv nc [] 0 0 L0 K' S' ρ' nv' nc' [] 0 0 L0 ∧ (K'.2.1 24 7 = nI v ∧ v < 2 ^ 31 ∧ CTX K' [] nE L0 k p v ∧ VAL S' ar L0 i j) ∧ rsz K' 7 ≤ rsz K 7 + 6500 * (j - i) ∧ (lf ≤ 1 ∧ (lf = 1 → S.2 39 i = 5 ∧ S.2 41 i = nI 0) ∧ nv' ≤ u + 100 * (gI S.2 j - gI S.2 i) + (k + 2) * (j - i) + 100 * lf ∧ nc' ≤ u + 100 * (gI S.2 j - gI S.2 i) + (k + 2) * (j - i) + 100 * lf) ∧ (nv ≤ nv' ∧ nc ≤ nc') := by
  rcases typ_m (Em := 0) (Ht := 0) (Sl := gS S.2 j - gS S.2 i) (e := 0) (u := u) (fun x h _ => h) (by omega) st ht GW_b hj hk hn (fun _ _ _ _ h => h.elim) ⟨Nat.le_refl _, Nat.le_refl _, by omega, by rw [hH]; simp⟩ ⟨by omega, by omega, hu.2.2⟩ h7 with w | ⟨K', S', ρ', nv', nc', hl', C', F', L', x, v, e', lf, ts, c1, c2, c3, c4, c5, c6, c7, ⟨d1, d2, d3, d4⟩, ⟨d5, d6, d7, d8, d9, d10, d11, d12⟩, d13⟩
  · exact Or.inl w
  · have e1 : hl' = [] := by
      rw [hH] at d2
      exact List.eq_nil_of_length_eq_zero (by simp at d2; simp [d2])
    subst e1
    have e2 : C' = 0 := by have := c6.1.1.1.1.2.2.2.1; simp at this; omega
    subst e2
    have e3 : F' = 0 := by rw [d1]; rfl
    subst e3
    obtain ⟨-, -, e4, -⟩ := c6.2.2.1.2.2.2 rfl
    subst e4
    exact Or.inr ⟨K', S', ρ', nv', nc', x, v, lf, ts, c1, c2, c3, c4, c5, c6, c7, d4, ⟨d5, d6, by omega, by omega⟩, d13⟩
end CPT0
