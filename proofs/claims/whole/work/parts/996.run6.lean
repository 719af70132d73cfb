/-! ===== codes, programs and names stay while a run goes on ===== -/
def NK (K K' : cp_K) : Prop := (∀ q k, 86 ≤ q → K'.2.1 q k = K.2.1 q k) ∧ K'.2.2.1 = K.2.2.1 ∧ ∀ q c, nd K q c → nd K' q c
theorem NK.trans {K K1 K2 : cp_K} (h : NK K K1) (g : NK K1 K2) : NK K K2 := ⟨fun q k hq => (g.1 q k hq).trans (h.1 q k hq), g.2.1.trans h.2.1, fun q c hq => g.2.2 q c (h.2.2 q c hq)⟩
theorem KF.nk {rs : List Nat} {K K' : cp_K} (h : KF rs K K') : NK K K' := ⟨fun q k _ => by rw [h.1], h.2.1, fun q c hq => h.nd hq⟩
theorem KU.nk {K K' : cp_K} {a : Int32} (h : KF rs6 (kI K 23 3 a) K') : NK K K' := ⟨fun q k hq => KU.i h (by omega), h.2.1, fun q c hq => KU.nd h hq⟩
def BK (b b' : Nat → Nat → Int32) : Prop := ∀ p, (p < 43 ∨ 43 < p ∧ p < 52) → b' p = b p
section CPCM
variable {K K' : cp_K} {b b' : Nat → Nat → Int32} {ar : Nat → Nat}
theorem VCH.mv (hK : NK K K') (hb : BK b b') : ∀ (vs : List Nat) (q x : Nat), VCH K b vs q x → VCH K' b' vs q x
  | [], _, _, h => h
  | c :: vs, q, x, h => by
    obtain ⟨h1, h2, h3, h4, h5, h6⟩ := h
    refine ⟨hK.2.2 q 9 h1, h2, by rw [hK.1 q 1 h1.1]; exact h3, by rw [hb 40 (by omega)]; exact h4, by rw [hb 39 (by omega)]; exact h5, ?_⟩
    rw [hK.2.1]
    exact VCH.mv hK hb vs _ _ h6
theorem PTN.mv (hK : NK K K') (hb : BK b b') {p i : Nat} {vs : List Nat} (hp : nd K p 9) (h : PTN K b ar p i vs) : PTN K' b' ar p i vs := by
  obtain ⟨h1, h2, h3, h4⟩ := h
  refine ⟨h1, by rw [hb 41 (by omega)]; exact h2, by rw [hK.2.1]; exact VCH.mv hK hb vs _ _ h3, ?_⟩
  rw [hK.1 p 0 hp.1, hK.1 p 1 hp.1, hb 39 (by omega), hb 40 (by omega)]
  exact h4
theorem CSE.mv {R R' : (Nat → Prop) → Nat → Nat → Nat → Prop} {sc : Nat → Prop} (hK : NK K K') (hb : BK b b') (hR : ∀ sc q i j, R sc q i j → R' sc q i j) : ∀ (m q i j : Nat), CSE R K b ar sc m q i j → CSE R' K' b' ar sc m q i j
  | 0, _, _, _, h => h
  | m + 1, q, i, j, h => by
    obtain ⟨h1, h2, vs, i2, h3, h4, h5⟩ := h
    unfold CSE
    rw [hK.2.1]
    exact ⟨hK.2.2 q 9 h1, hK.2.2 _ 9 h2, vs, i2, h3.mv hK hb h2, hR _ _ _ _ h4, CSE.mv hK hb hR m _ _ _ h5⟩
theorem CHN_nk {R R' : Nat → Nat → Nat → Prop} (hK : NK K K') (hR : ∀ q i j, R q i j → R' q i j) : ∀ (m q i j : Nat), CHN R K m q i j → CHN R' K' m q i j
  | 0, _, _, _, h => h
  | m + 1, q, i, j, h => by
    obtain ⟨h1, i', h2, h3⟩ := h
    refine ⟨hK.2.2 q 9 h1, i', hR q i i' h2, ?_⟩
    rw [hK.2.1]
    exact CHN_nk hK hR m _ i' j h3
theorem CR.mv (hK : NK K K') (hb : BK b b') : ∀ (k : Nat) (sc : Nat → Prop) (p i j : Nat), CR K b ar k sc p i j → CR K' b' ar k sc p i j
  | 0, _, _, _, _, h => h
  | k + 1, sc, p, i, j, h => by
    unfold CR at h ⊢
    obtain ⟨h0, h⟩ := h
    refine ⟨hK.2.2 p 9 h0, ?_⟩
    rw [hK.1 p 0 h0.1, hK.1 p 1 h0.1, hK.1 p 3 h0.1, hK.2.1, hb 30 (by omega), hb 31 (by omega), hb 39 (by omega), hb 40 (by omega), hb 41 (by omega)]
    rcases h with h | h | h | ⟨q1, q2, c, m, q3, q4, q5, q6, q7, q8, q9, q10⟩ | ⟨q1, q2, q3⟩ | ⟨q1, q2, m, i1, q3, q4, q5, q6, q7⟩ | ⟨q1, q2, q3, q4⟩
    · exact Or.inl h
    · exact Or.inr (Or.inl h)
    · exact Or.inr (Or.inr (Or.inl h))
    · exact Or.inr (Or.inr (Or.inr (Or.inl ⟨q1, q2, c, m, q3, q4, q5, q6, q7, q8, q9, CHN_nk hK (CR.mv hK hb k sc) m _ _ _ q10⟩)))
    · exact Or.inr (Or.inr (Or.inr (Or.inr (Or.inl ⟨q1, CHN_nk hK (CR.mv hK hb k sc) 2 _ _ _ q2, q3⟩))))
    · exact Or.inr (Or.inr (Or.inr (Or.inr (Or.inr (Or.inl ⟨q1, q2, m, i1, q3, q4, q5, CR.mv hK hb k sc _ _ _ q6, CSE.mv hK hb (fun sc => CR.mv hK hb k sc) m _ _ _ q7⟩)))))
    · exact Or.inr (Or.inr (Or.inr (Or.inr (Or.inr (Or.inr ⟨q1, q2, CHN_nk hK (CR.mv hK hb k sc) 4 _ _ _ q3, q4⟩)))))
theorem PCH.mv (hK : NK K K') : ∀ (ps : List Nat) (q z : Nat), PCH K ps q z → PCH K' ps q z
  | [], _, _, h => h
  | c :: ps, q, z, h => by
    obtain ⟨h1, h2, h3, h4, h5⟩ := h
    refine ⟨hK.2.2 q 9 h1, h2, h3, by rw [hK.1 q 1 h1.1]; exact h4, ?_⟩
    rw [hK.2.1]
    exact PCH.mv hK ps _ z h5
theorem DIC.mv (hK : NK K K') (hb : BK b b') (h : DIC K b ar) : DIC K' b' ar := by
  intro l hl
  obtain ⟨h1, h2⟩ := h l hl
  rw [hb 30 (by omega)]
  refine ⟨fun e => ?_, fun e => ?_⟩
  · obtain ⟨q1, q2⟩ := h1 e
    rw [hK.2.1]
    exact ⟨hK.2.2 _ _ q1, by rw [hK.1 _ 1 q1.1]; exact q2⟩
  · obtain ⟨ps, k, i, j, q1, q2, q3, q4, q5, q6, q7, q8, q9, q10, q11⟩ := h2 e
    unfold PROG
    rw [hK.2.1, hb 31 (by omega), hb 36 (by omega), hb 37 (by omega)]
    exact ⟨ps, k, i, j, hK.2.2 _ _ q1, by rw [hK.1 _ 1 q1.1]; exact q2, hK.2.2 _ _ q3, q4, q5, q6, q7, PCH.mv hK ps _ _ q8, q9, q10, CR.mv hK hb k _ _ _ _ q11⟩
end CPCM
theorem ENV.mv {K K' : cp_K} {b b' : Nat → Nat → Int32} {B B' frame : Nat} {y : Int32} {sc : Nat → Prop} {ρ ρ' : Nat → Nat → Prop} (h : ENV K b B frame y sc ρ) (hL : ∀ c v, c < 26 → LU K frame c v → LU K' frame c v) (hb : ∀ p, 76 ≤ p → p ≤ 78 → ∀ x, x < B → b' p x = b p x) (hB : B ≤ B') (hρ : ∀ x y, ρ x y → ρ' x y) : ENV K' b' B' frame y sc ρ' := fun c hc hs => by
  obtain ⟨v, r, v1, v2, ⟨nf, x, v3, v4⟩, v5⟩ := h c hc hs
  exact ⟨v, r, v1, hL c v hc v2, ⟨nf, x, v3, MN.mv hb hB nf x c r v4⟩, hρ v r v5⟩
/-- the class finds the same when its rows are the same below, and as long -/
theorem LU.same {K K' : cp_K} {n frame c v : Nat} (hB : BS K n) (hB' : BS K' n) (hr : ∀ q, q = 15 ∨ q = 17 ∨ q = 19 → ∀ x, x < n → rat K' q x = rat K q x) (h : LU K frame c v) : LU K' frame c v := by
  obtain ⟨i, ⟨h1, h2, h3, h4⟩, h5⟩ := h
  have e := hB.1
  have e' := hB'.1
  exact ⟨i, ⟨h1, by omega, by rw [hr 15 (by omega) i (by omega)]; exact h3, fun j j1 j2 => by rw [hr 15 (by omega) j (by omega)]; exact h4 j j1 (by omega)⟩, by rw [hr 17 (by omega) i (by omega)]; exact h5⟩
/-- running, for all codes with fewer than m steps left -/
def WIH (ar : Nat → Nat) (hl : List Nat) (C m : Nat) : Prop := ∀ (K : cp_K) (S : cp_S) (ρ : Nat → Nat → Prop) (nv nc e w B n p frame i : Nat) (y : Int32) (k : Nat) (sc : Nat → Prop) (j : Nat), WST ar hl C K S ρ nv nc e w B n → HF S e → DIC K S.2 ar → CR K S.2 ar k sc p i j → j ≤ 2720 → ENV K S.2 B frame y sc ρ → frame ≤ n → 100 - w < m → WCON ar hl C K S ρ nv nc e w B n p frame i y
theorem TOPF.hf {S : cp_S} {e i s : Nat} {y : Int32} (h : TOPF S e i s y) (hs : s < 8) : HF S (e + 1) := fun e' he => by
  have : e' = e := by omega
  subst this
  exact ⟨s, hs, h.2.2.2.1⟩
theorem FRB.hf {S S' : cp_S} {e B : Nat} (h : HF S e) (f : FRB e B S S') : HF S' e := fun e' he => by
  obtain ⟨s, s1, s2⟩ := h e' he
  exact ⟨s, s1, by rw [f.2.2.1 73 (by omega) (by omega) e' (by omega)]; exact s2⟩
theorem FRB.bk {S S' : cp_S} {e B : Nat} (f : FRB e B S S') : BK S.2 S'.2 := fun p hp => f.2.1 p (Or.inl (by omega))
