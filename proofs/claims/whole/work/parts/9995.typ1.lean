/-! ===== types: a term of the text is evaluated anew; the terms of a condition ===== -/
def LUn (K : cp_K) (nE c v : Nat) : Prop := c < 26 ∧ v < 2 ^ 31 ∧ ∃ ix, IX K (nI (97 + c)) 0 nE ix ∧ rat K 17 ix = nI v
/-- the names of a declaration: values and types -/
def NMS (K : cp_K) (S : cp_S) (nE : Nat) (ρ : Nat → Nat → Prop) : Prop := ∀ c, c < 26 → (S.2 64 c = -1 ∧ ∀ ix, ix < nE → ¬ rat K 15 ix = nI (97 + c)) ∨ ∃ ix v r tv tr, IX K (nI (97 + c)) 0 nE ix ∧ rat K 17 ix = nI v ∧ v < 2 ^ 31 ∧ rat K 19 ix = nI tv ∧ tv < 2 ^ 31 ∧ S.2 63 c = nI r ∧ r < 2 ^ 31 ∧ S.2 64 c = nI tr ∧ tr < 2 ^ 31 ∧ ρ v r ∧ ρ tv tr
/-- the holes of the text: L p x v r: the node p, the place x, its values -/
def HLS (S : cp_S) (rf : Nat) (pl : Nat → Nat → Prop) (L : Nat → Nat → Nat → Nat → Prop) (ρ : Nat → Nat → Prop) : Prop := (∀ p x v r, L p x v r → pl p x ∧ ρ v r ∧ v < 2 ^ 31 ∧ r < 2 ^ 31 ∧ S.1 20 = nI rf ∧ rf ≤ x ∧ x - rf < 82 ∧ S.2 43 (x - rf) = nI r) ∧ ∀ p x v r p' v' r', L p x v r → L p' x v' r' → v = v' ∧ r = r'
/-- all that stands between i and j has a value -/
def VAL (S : cp_S) (ar : Nat → Nat) (L : Nat → Nat → Nat → Nat → Prop) (i j : Nat) : Prop := ∀ x, i ≤ x → x < j → (∀ c, S.2 39 x = 1 → S.2 40 x = nI c → c < 26 → ¬ S.2 64 c = -1) ∧ (S.2 39 x = 4 → ∃ p v r, L p x v r) ∧ ∀ c m, S.2 39 x = 5 → S.2 40 x = nI c → c < 26 → S.2 41 x = nI m → m ≤ 6 → m = ar c
theorem IX_uniq {K : cp_K} {x : Int32} {f n i j : Nat} (h : IX K x f n i) (g : IX K x f n j) : i = j := by
  obtain ⟨h1, h2, h3, h4⟩ := h
  obtain ⟨g1, g2, g3, g4⟩ := g
  by_cases hij : i < j
  · exact absurd g3 (h4 j hij g2)
  · by_cases hji : j < i
    · exact absurd h3 (g4 i hji h2)
    · omega
section CPT2
variable {ar : Nat → Nat} {hl : List Nat} {C : Nat} {K : cp_K} {S : cp_S} {ρ : Nat → Nat → Prop} {nv nc n nE rf : Nat} {pl : Nat → Nat → Prop} {L : Nat → Nat → Nat → Nat → Prop}
theorem evt {k p i j v : Nat} (st : TVS ar hl C K S ρ nv nc) (nm : NMS K S nE ρ) (hs : HLS S rf pl L ρ) (pli : ∀ p i i', pl p i → pl p i' → i = i') (ht : TR K S.2 pl k p i j) (ct : CT K (rat K 7) (rsz K 7) hl (LUn K nE) (fun p v => ∃ x r, L p x v r) k p v) (va : VAL S ar L i j) (hj : j ≤ 2720) (hij : j - i ≤ 110) (hnv : nv + (j - i) < 6000) (hnc : nc + (j - i) < 6000) :
    ∃ (r : Nat) (S1 : cp_S) (ρ1 : Nat → Nat → Prop) (nv1 nc1 : Nat), VRP S S1 nv nc nv1 nc1 (j - i) (j - i - 1) 0 ∧ r < 2 ^ 31 ∧ MC 2 m_M_valueOf [.int (nI i), .int (nI 0)] S (some (.int (nI r))) S1 ∧ ρ1 v r ∧ (∀ x y, ρ x y → ρ1 x y) ∧ TVS ar hl C K S1 ρ1 nv1 nc1 ∧ ∀ x y, ρ1 x y → ρ x y ∨ ¬ rat K 7 x = 5 := by
  obtain ⟨⟨V, hh, hA⟩, ⟨h35, h40⟩, h9, h11⟩ := st
  have hRH : RH S 0 (fun c r => S.2 63 c = nI r ∧ r < 2 ^ 31) (fun x r => ∃ p v, L p x v r) i j := ⟨fun x c x1 x2 e1 e2 hc => by
    rcases nm c hc with q | ⟨ix, v, r, tv, tr, z1, z2, z3, z4, z5, z6, z7, z8, z9, z10⟩
    · exact absurd q.1 ((va x x1 x2).1 c e1 e2 hc)
    · exact ⟨r, z7, by rw [show 26 * 0 + c = c by omega]; exact z6, z6, z7⟩, fun x x1 x2 e => by
    obtain ⟨p, v, r, z⟩ := (va x x1 x2).2.1 e
    obtain ⟨z1, z2, z3, z4, z5, z6, z7, z8⟩ := hs.1 p x v r z
    exact ⟨rf, r, z5, z6, z7, z8, z4, p, v, z⟩⟩
  obtain ⟨r, S1, nv1, nc1, r1, r2, r3, r4⟩ := valOf_m (by omega) (TR.ts _ _ _ _ ht) hj h35 h40 hnv hnc hij hRH
  obtain ⟨y1, y2, y3, y4, y5, y6, y7, y8, y9, y10, y11, y12, y13⟩ := id r1
  have s39 : S1.2 39 = S.2 39 := y10 39 (by omega)
  have s40 : S1.2 40 = S.2 40 := y10 40 (by omega)
  have s41 : S1.2 41 = S.2 41 := y10 41 (by omega)
  have N6 := V.2.2.2.2.2.2.2
  have V1 : VI (rat K 7) (rsz K 7) S1.2 nv1 nc1 ρ hl C := V.grow hh (fun _ _ => rfl) (Nat.le_refl _) N6 y11 y12 y5 (by omega) y7 (by omega)
  obtain ⟨ρ1, g1, g2, g3, g4⟩ := rel N6 k ρ p i j v r (TR.nk ⟨fun _ _ _ => rfl, rfl, fun _ _ h => h⟩ s39 s40 s41 k p i j ht) ct r3 (fun c v r e1 e2 => by
    obtain ⟨hc, a1, ix, a2, a3⟩ := e1
    · rcases nm c hc with q | ⟨ix', v', r', tv, tr, z1, z2, z3, z4, z5, z6, z7, z8, z9, z10⟩
      · exact absurd a2.2.2.1 (q.2 ix a2.2.1)
      · have e3 := IX_uniq a2 z1
        subst e3
        have e4 : v = v' := (nI_eq a1 z3).mp (a3.symm.trans z2)
        have e5 : r = r' := (nI_eq e2.2 z7).mp (e2.1.symm.trans z6)
        rw [e4, e5]; exact z10.1) (fun k p i v r e1 e2 e3 e4 e5 => by
    obtain ⟨x, r', l1⟩ := e4
    obtain ⟨p', v', l2⟩ := e5
    cases k with
    | zero => exact e3.elim
    | succ k =>
      have hp := e3.2.1
      have ex : x = i := pli p x i (hs.1 _ _ _ _ l1).1 hp
      subst ex
      obtain ⟨u1, u2⟩ := hs.2 _ _ _ _ _ _ _ l1 l2
      subst u1
      subst u2
      exact (hs.1 _ _ _ _ l1).2.1) V1
  have A1 : AR ar (rat K 7) ρ1 := AR.of hA g3 (fun x c m x1 x2 e1 e2 hc e3 hm => (va x x1 x2).2.2 c m (by rw [← s39]; exact e1) (by rw [← s40]; exact e2) hc (by rw [← s41]; exact e3) hm)
  exact ⟨r, S1, ρ1, nv1, nc1, r1, r2, r4, g2, g1, ⟨⟨g4, hh, A1⟩, ⟨y3, y4⟩, h9, h11⟩, fun x y h => (g3 x y h).imp_right (fun q => q.1)⟩
end CPT2
