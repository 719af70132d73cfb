/-! ===== types: constants of the dictionary; the state of the typer ===== -/
/-- a parameter -/
def PRM (K : cp_K) (b : Nat → Nat → Int32) (ar : Nat → Nat) (k : Nat) (sc : Nat → Prop) (q pt d : Nat) (nm : Option Nat) : Prop := nd K q 9 ∧ K.2.1 q 0 = 14 ∧ pt < 180 ∧ (∃ i j, b 46 pt = nI i ∧ DTM K b ar k sc (K.2.2.1 q 4) i j ∧ j ≤ 2720 ∧ j - i ≤ d) ∧ ((∃ x, nm = some x ∧ x < 26 ∧ b 44 pt = 0 ∧ K.2.1 q 1 = nI (97 + x) ∧ b 45 pt = nI x) ∨ (nm = none ∧ b 44 pt = 1 ∧ K.2.1 q 1 = 0))
theorem PRM.mv {K K' : cp_K} {b b' : Nat → Nat → Int32} {ar : Nat → Nat} {k q pt d : Nat} {sc : Nat → Prop} {nm : Option Nat} (hK : NK K K') (hb : BK b b') (h : PRM K b ar k sc q pt d nm) : PRM K' b' ar k sc q pt d nm := by
  obtain ⟨h0, h1, h2, ⟨i, j, h3, h4, h5⟩, h6⟩ := h
  refine ⟨hK.2.2 _ _ h0, by rw [hK.1 q 0 h0.1]; exact h1, h2, ⟨i, j, by rw [hb 46 (by omega)]; exact h3, by rw [hK.2.1]; exact h4.mv hK hb, h5⟩, ?_⟩
  rw [hK.1 q 1 h0.1, hb 44 (by omega), hb 45 (by omega)]
  exact h6
/-- the parts of a constant, up to z -/
def PTS (K : cp_K) (b : Nat → Nat → Int32) (ar : Nat → Nat) (k z : Nat) (R : (Nat → Prop) → Nat → Prop) : Nat → Nat → Nat → (Nat → Prop) → Nat → Nat → Prop
  | 0, q, _, sc, m, d => q = z ∧ m = 0 ∧ R sc d
  | rem + 1, q, pt, sc, m, d => q ≠ z ∧ ∃ d1 d2, d = d1 + d2 ∧ ((PCN K b ar k sc q pt d1 ∧ PTS K b ar k z R rem (K.2.2.1 q 6) (pt + 1) sc m d2) ∨ ∃ m' nm, m = m' + 1 ∧ PRM K b ar k sc q pt d1 nm ∧ PTS K b ar k z R rem (K.2.2.1 q 6) (pt + 1) (fun c => sc c ∨ nm = some c) m' d2)
theorem PTS.mv {K K' : cp_K} {b b' : Nat → Nat → Int32} {ar : Nat → Nat} {k z : Nat} {R R' : (Nat → Prop) → Nat → Prop} (hK : NK K K') (hb : BK b b') (hR : ∀ sc d, R sc d → R' sc d) : ∀ (rem q pt : Nat) (sc : Nat → Prop) (m d : Nat), PTS K b ar k z R rem q pt sc m d → PTS K' b' ar k z R' rem q pt sc m d
  | 0, q, pt, sc, m, d, h => ⟨h.1, h.2.1, hR _ _ h.2.2⟩
  | rem + 1, q, pt, sc, m, d, h => by
    obtain ⟨h1, d1, d2, h2, h3⟩ := h
    refine ⟨h1, d1, d2, h2, ?_⟩
    rw [hK.2.1]
    rcases h3 with ⟨h3, h4⟩ | ⟨m', nm, h3, h4, h5⟩
    · exact Or.inl ⟨h3.mv hK hb, PTS.mv hK hb hR rem _ _ _ _ _ h4⟩
    · exact Or.inr ⟨m', nm, h3, h4.mv hK hb, PTS.mv hK hb hR rem _ _ _ _ _ h5⟩
/-- the result of a constant -/
def RES (K : cp_K) (b : Nat → Nat → Int32) (ar : Nat → Nat) (k c z : Nat) (sc : Nat → Prop) (d : Nat) : Prop := nd K z 9 ∧ nd K (K.2.2.1 z 4) 9 ∧ ((K.2.1 (K.2.2.1 z 4) 0 = 3 ∧ b 35 c = -2) ∨ ∃ i j, b 35 c = nI i ∧ DTM K b ar k sc (K.2.2.1 z 4) i j ∧ j ≤ 2720 ∧ j - i ≤ d)
theorem RES.mv {K K' : cp_K} {b b' : Nat → Nat → Int32} {ar : Nat → Nat} {k c z d : Nat} {sc : Nat → Prop} (hK : NK K K') (hb : BK b b') (h : RES K b ar k c z sc d) : RES K' b' ar k c z sc d := by
  obtain ⟨h1, h2, h3⟩ := h
  unfold RES
  rw [hK.2.1, hK.1 _ 0 h2.1, hb 35 (by omega)]
  refine ⟨hK.2.2 _ _ h1, hK.2.2 _ _ h2, ?_⟩
  rcases h3 with h3 | ⟨i, j, h3, h4, h5⟩
  · exact Or.inl h3
  · exact Or.inr ⟨i, j, h3, h4.mv hK hb, h5⟩
/-- the letter c is a constant -/
def CST (K : cp_K) (b : Nat → Nat → Int32) (ar : Nat → Nat) (c : Nat) : Prop := ∃ k sp np d, k ≤ 40 ∧ np ≤ 6 ∧ sp + np < 180 ∧ d ≤ 100 ∧ ar c ≤ 6 ∧ b 31 c = nI (ar c) ∧ b 33 c = nI sp ∧ b 34 c = nI np ∧ nd K (K.2.2.1 4 c) 10 ∧ K.2.1 (K.2.2.1 4 c) 1 = 0 ∧ K.2.1 (K.2.2.1 4 c) 2 = nI (ar c) ∧ (K.2.1 (K.2.2.1 4 c) 3 = 0 ↔ ∀ x, x < np → ¬ b 44 (sp + x) = 2) ∧ nd K (K.2.2.1 (K.2.2.1 4 c) 4) 9 ∧ PTS K b ar k (K.2.2.1 (K.2.2.1 (K.2.2.1 4 c) 4) 5) (RES K b ar k c (K.2.2.1 (K.2.2.1 (K.2.2.1 4 c) 4) 5)) np (K.2.2.1 (K.2.2.1 (K.2.2.1 4 c) 4) 4) sp (fun _ => False) (ar c) d
theorem CST.mv {K K' : cp_K} {b b' : Nat → Nat → Int32} {ar : Nat → Nat} {c : Nat} (hK : NK K K') (hb : BK b b') (h : CST K b ar c) : CST K' b' ar c := by
  obtain ⟨k, sp, np, d, q1, q2, q3, q4, q5, q6, q7, q8, q9, q10, q11, q12, q13, q14⟩ := h
  unfold CST
  rw [hK.2.1, hb 31 (by omega), hb 33 (by omega), hb 34 (by omega), hb 44 (by omega), hK.1 _ 1 q9.1, hK.1 _ 2 q9.1, hK.1 _ 3 q9.1]
  exact ⟨k, sp, np, d, q1, q2, q3, q4, q5, q6, q7, q8, hK.2.2 _ _ q9, q10, q11, q12, hK.2.2 _ _ q13, PTS.mv hK hb (fun sc d h => h.mv hK hb) _ _ _ _ _ _ q14⟩
/-- all letters -/
def DCN (K : cp_K) (b : Nat → Nat → Int32) (ar : Nat → Nat) : Prop := ∀ c, c < 26 → (b 30 c = 0 ∧ K.2.2.1 4 c = 0) ∨ (b 30 c = 1 ∧ CST K b ar c) ∨ (b 30 c = 2 ∧ nd K (K.2.2.1 4 c) 10 ∧ ¬ K.2.1 (K.2.2.1 4 c) 1 = 0 ∧ ∃ m, m ≤ 4 ∧ b 31 c = nI m ∧ K.2.1 (K.2.2.1 4 c) 2 = nI m)
theorem DCN.mv {K K' : cp_K} {b b' : Nat → Nat → Int32} {ar : Nat → Nat} (hK : NK K K') (hb : BK b b') (h : DCN K b ar) : DCN K' b' ar := fun c hc => by
  rw [hb 30 (by omega), hb 31 (by omega), hK.2.1]
  rcases h c hc with q | ⟨q1, q2⟩ | ⟨q1, q2, q3, q4⟩
  · exact Or.inl q
  · exact Or.inr (Or.inl ⟨q1, q2.mv hK hb⟩)
  · exact Or.inr (Or.inr ⟨q1, hK.2.2 _ _ q2, by rw [hK.1 _ 1 q2.1]; exact q3, by rw [hK.1 _ 2 q2.1]; exact q4⟩)
/-- the places of the text -/
def PLF (K : cp_K) (S : cp_S) (rf : Nat) (pl : Nat → Nat → Prop) : Prop := S.1 20 = nI rf ∧ (∀ p i, pl p i → rf ≤ i ∧ i - rf < 82 ∧ (i < 2720 ∧ ∃ w, w < 100 ∧ S.2 42 (i - rf) = nI w) ∧ 86 ≤ p ∧ K.2.1 p 2 = S.2 42 (i - rf)) ∧ ∀ p i i', pl p i → pl p i' → i = i'
theorem PLF.mv {K K' : cp_K} {S S' : cp_S} {rf : Nat} {pl : Nat → Nat → Prop} (h : PLF K S rf pl) (hK : NK K K') (h20 : S'.1 20 = S.1 20) (h42 : S'.2 42 = S.2 42) : PLF K' S' rf pl := ⟨h20.trans h.1, fun p i q1 => by
  obtain ⟨z1, z2, z3, z4, z5⟩ := h.2.1 p i q1
  exact ⟨z1, z2, ⟨z3.1, by rw [h42]; exact z3.2⟩, z4, by rw [hK.1 p 2 z4, h42]; exact z5⟩, h.2.2⟩
theorem NMS.mv {K K' : cp_K} {S S' : cp_S} {nE n : Nat} {ρ ρ' : Nat → Nat → Prop} (h : NMS K S nE ρ) (hn : nE ≤ n) (hr : ∀ q, q = 15 ∨ q = 17 ∨ q = 19 → ∀ x, x < n → rat K' q x = rat K q x) (h64 : S'.2 64 = S.2 64) (h63 : ∀ x, x < 26 → S'.2 63 x = S.2 63 x) (hρ : ∀ x y, ρ x y → ρ' x y) : NMS K' S' nE ρ' := fun c hc => by
  rw [h64, h63 c hc]
  rcases h c hc with ⟨q1, q2⟩ | ⟨ix, v, r, tv, tr, ⟨z1, z2, z3, z4⟩, z5, z6, z7, z8, z9, z10, z11, z12, z13, z14⟩
  · exact Or.inl ⟨q1, fun ix hx => by rw [hr 15 (by omega) ix (by omega)]; exact q2 ix hx⟩
  · exact Or.inr ⟨ix, v, r, tv, tr, ⟨z1, z2, by rw [hr 15 (by omega) ix (by omega)]; exact z3, fun j j1 j2 => by rw [hr 15 (by omega) j (by omega)]; exact z4 j j1 j2⟩, by rw [hr 17 (by omega) ix (by omega)]; exact z5, z6, by rw [hr 19 (by omega) ix (by omega)]; exact z7, z8, z9, z10, z11, z12, hρ _ _ z13, hρ _ _ z14⟩
theorem LUn.mv {K K' : cp_K} {nE n c v : Nat} (hn : nE ≤ n) (hr : ∀ q, q = 15 ∨ q = 17 ∨ q = 19 → ∀ x, x < n → rat K' q x = rat K q x) (h : LUn K nE c v) : LUn K' nE c v := by
  obtain ⟨h0, h1, ix, ⟨z1, z2, z3, z4⟩, z5⟩ := h
  exact ⟨h0, h1, ix, ⟨z1, z2, by rw [hr 15 (by omega) ix (by omega)]; exact z3, fun j j1 j2 => by rw [hr 15 (by omega) j (by omega)]; exact z4 j j1 j2⟩, by rw [hr 17 (by omega) ix (by omega)]; exact z5⟩
theorem VAL.mv {S S' : cp_S} {ar : Nat → Nat} {L L' : Nat → Nat → Nat → Nat → Prop} {i j : Nat} (h : VAL S ar L i j) (hb : BK S.2 S'.2) (h64 : S'.2 64 = S.2 64) (hL : ∀ p x v r, L p x v r → L' p x v r) : VAL S' ar L' i j := fun x x1 x2 => by
  obtain ⟨h1, h2, h3⟩ := h x x1 x2
  rw [hb 39 (by omega), hb 40 (by omega), hb 41 (by omega), h64]
  refine ⟨h1, fun e => ?_, h3⟩
  obtain ⟨p, v, r, q⟩ := h2 e
  exact ⟨p, v, r, hL _ _ _ _ q⟩
/-- what the typer stands on -/
def TST (ar : Nat → Nat) (rf : Nat) (pl : Nat → Nat → Prop) (nE n : Nat) (K : cp_K) (S : cp_S) (ρ : Nat → Nat → Prop) (nv nc : Nat) (hl : List Nat) (C F : Nat) (L : Nat → Nat → Nat → Nat → Prop) : Prop := (TVS ar hl C K S ρ nv nc ∧ S.1 42 = nI F ∧ HLS S rf pl L ρ ∧ HD4 (rat K 7) hl) ∧ F = hl.length + C ∧ NMS K S nE ρ ∧ (DIC K S.2 ar ∧ DCN K S.2 ar) ∧ PLF K S rf pl ∧ BS K n ∧ nE ≤ n ∧ K.2.1 24 5 = nI nE ∧ (K.2.1 24 4 = 0 ↔ S.1 58 = 0)
section CPTT
variable {ar : Nat → Nat} {rf : Nat} {pl : Nat → Nat → Prop} {lev n n' nE : Nat} {K K1 : cp_K} {S S1 : cp_S} {ρ ρ1 : Nat → Nat → Prop} {nv nc nv1 nc1 : Nat} {hl hl1 : List Nat} {C C1 F F1 : Nat} {L L1 : Nat → Nat → Nat → Nat → Prop}
theorem TST.mv (h : TST ar rf pl nE n K S ρ nv nc hl C F L) (g : TPO ar rf pl lev n n' K S ρ nv nc hl C F L K1 S1 ρ1 nv1 nc1 hl1 C1 F1 L1) (hlev : 1 ≤ lev) (hF : F1 = hl1.length + C1) (hn : n ≤ n') : TST ar rf pl nE n' K1 S1 ρ1 nv1 nc1 hl1 C1 F1 L1 := by
  obtain ⟨-, -, h3, ⟨h4, h5⟩, h6, h7, h8, h9, h10⟩ := h
  obtain ⟨g0, g1, -, -, gk, gs, gb, gr⟩ := g
  have nk := gk.nk
  have bk := gs.bk
  exact ⟨g0, hF, h3.mv h8 gr (gs.2.1 64 (by omega)) (fun x hx => gs.2.2.1 x (by omega)) g1.1, ⟨h4.mv nk bk, h5.mv nk bk⟩, h6.mv nk (gs.1 20 (by decide)) (gs.2.1 42 (by omega)), gb, by omega, by rw [gk.s4.2]; exact h9, by rw [gk.s4.1, gs.1 58 (by decide)]; exact h10⟩
/-- the class's value of a term of the text -/
def CTX (K : cp_K) (hl : List Nat) (nE : Nat) (L : Nat → Nat → Nat → Nat → Prop) (k p v : Nat) : Prop := CT K (rat K 7) (rsz K 7) hl (LUn K nE) (fun p v => ∃ x r, L p x v r) k p v
theorem CTX.mv {k p i j v : Nat} {b : Nat → Nat → Int32} (h : CTX K hl nE L k p v) (ht : TR K b pl k p i j) (hn : nE ≤ n) (g : TPO ar rf pl lev n n' K S ρ nv nc hl C F L K1 S1 ρ1 nv1 nc1 hl1 C1 F1 L1) : CTX K1 hl1 nE L1 k p v := by
  obtain ⟨-, ⟨g1, g2, g3, g4, g5, -⟩, -, -, gk, gs, gb, gr⟩ := g
  exact CT.nk gk.nk g4 g3 g5 (fun c v q => q.mv hn gr) (fun p v q => by obtain ⟨x, r, q⟩ := q; exact ⟨x, r, g2 _ _ _ _ q⟩) k p i j v ht h
end CPTT
