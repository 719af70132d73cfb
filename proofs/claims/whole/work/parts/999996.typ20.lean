/-! ===== declarations: the parts of a declaration that was read ===== -/
theorem CHZ.mr {R R' : Nat → Nat → Nat → Prop} {K K' : cp_K} (hK : NK K K') (hlt : ∀ q i j, R q i j → i < j) : ∀ (m q z i j : Nat), CHZ R K m q z i j → (∀ q i' j', i ≤ i' → j' ≤ j → R q i' j' → R' q i' j') → CHZ R' K' m q z i j
  | 0, q, z, i, j, h, hR => ⟨h.1, hK.2.2 _ _ h.2.1, hR _ _ _ (Nat.le_refl _) (Nat.le_refl _) h.2.2⟩
  | m + 1, q, z, i, j, h, hR => by
    obtain ⟨h1, h2, i', h3, h4⟩ := h
    have l1 := hlt _ _ _ h3
    have l2 := CHZ.le hlt _ _ _ _ _ h4
    refine ⟨hK.2.2 _ _ h1, h2, i', hR _ _ _ (Nat.le_refl _) (by omega) h3, ?_⟩
    rw [hK.2.1]
    exact CHZ.mr hK hlt m _ z i' j h4 (fun q i2 j2 a b c => hR q i2 j2 (by omega) b c)
theorem CHN_pl {R R' : Nat → Nat → Nat → Prop} {K : cp_K} (hR : ∀ q i j, R q i j → R' q i j) : ∀ (m q i j : Nat), CHN R K m q i j → CHN R' K m q i j
  | 0, _, _, _, h => h
  | m + 1, q, i, j, h => by
    obtain ⟨h1, i', h2, h3⟩ := h
    exact ⟨h1, i', hR _ _ _ h2, CHN_pl hR m _ _ _ h3⟩
theorem TR.plm {K : cp_K} {b : Nat → Nat → Int32} {pl pl' : Nat → Nat → Prop} (hp : ∀ p i, pl p i → pl' p i) : ∀ (k p i j : Nat), TR K b pl k p i j → TR K b pl' k p i j
  | 0, _, _, _, h => h
  | k + 1, p, i, j, h => by
    unfold TR at h ⊢
    obtain ⟨h0, h1, h⟩ := h
    refine ⟨h0, hp _ _ h1, ?_⟩
    rcases h with h | h | h | h | ⟨h1, h2, c, m, h3, h4, h5, h6, h7, h8, h9⟩
    · exact Or.inl h
    · exact Or.inr (Or.inl h)
    · exact Or.inr (Or.inr (Or.inl h))
    · exact Or.inr (Or.inr (Or.inr (Or.inl h)))
    · exact Or.inr (Or.inr (Or.inr (Or.inr ⟨h1, h2, c, m, h3, h4, h5, h6, h7, h8, CHN_pl (TR.plm hp k) _ _ _ _ h9⟩)))
theorem gH_no {b : Nat → Nat → Int32} {i j : Nat} (h : gH b j = gH b i) : ∀ x, i ≤ x → x < j → ¬ b 39 x = 4 := fun x x1 x2 e => by
  have h1 := (GW_b (b := b)).2.2 x e
  have h2 := ((GW_b (b := b)).1 i x x1).2.2
  have h3 := ((GW_b (b := b)).1 (x + 1) j x2).2.2
  omega
/-- a term that has a value is one of the dictionary -/
theorem VAL.dtm {K : cp_K} {S : cp_S} {ar : Nat → Nat} {pl : Nat → Nat → Prop} {sc : Nat → Prop} {k q i j : Nat} (ht : TR K S.2 pl k q i j) (va : VAL S ar L0 i j) (hsc : ∀ c, c < 26 → ¬ S.2 64 c = -1 → sc c) : DTM K S.2 ar k sc q i j := by
  refine ⟨TR.plm (fun _ _ _ => trivial) _ _ _ _ ht, fun x x1 x2 => ⟨fun e => ?_, fun c e1 e2 hc => hsc c hc ((va x x1 x2).1 c e1 e2 hc), (va x x1 x2).2.2⟩⟩
  obtain ⟨p, v, r, w⟩ := (va x x1 x2).2.1 e
  exact w
def RPT (K : cp_K) (b : Nat → Nat → Int32) (pl : Nat → Nat → Prop) (k z : Nat) : Nat → Nat → Nat → Nat → Nat → Prop
  | 0, q, _, i, j => q = z ∧ i = j
  | rem + 1, q, pt, i, j => q ≠ z ∧ nd K q 9 ∧ pt < 180 ∧ b 46 pt = nI i ∧ ∃ i', RPT K b pl k z rem (K.2.2.1 q 6) (pt + 1) i' j ∧
    ((K.2.1 q 0 = 15 ∧ b 44 pt = 2 ∧ (∃ w, w < 100 ∧ K.2.1 q 2 = nI w) ∧ K.2.1 q 2 = b 48 pt ∧ (∃ l m, l < 26 ∧ m ≤ 6 ∧ K.2.1 q 1 = nI (65 + l) ∧ b 45 pt = nI l ∧ b 47 pt = nI m ∧ K.2.1 q 3 = nI (m + 1) ∧ CHZ (TR K b pl k) K m (K.2.2.1 q 4) (K.2.2.1 q 5) i i') ∧ K.2.2.1 (K.2.2.1 q 5) 6 = 0) ∨
     (K.2.1 q 0 = 14 ∧ nd K (K.2.2.1 q 4) 9 ∧ TR K b pl k (K.2.2.1 q 4) i i' ∧ K.2.2.1 (K.2.2.1 q 4) 6 = 0 ∧ ((∃ x, x < 26 ∧ b 44 pt = 0 ∧ b 45 pt = nI x ∧ K.2.1 q 1 = nI (97 + x)) ∨ (b 44 pt = 1 ∧ K.2.1 q 1 = 0))))
def RRS (K : cp_K) (b : Nat → Nat → Int32) (pl : Nat → Nat → Prop) (k z i j : Nat) (res : Int32) : Prop := nd K z 9 ∧ K.2.1 z 0 = 16 ∧ K.2.2.1 z 6 = 0 ∧ nd K (K.2.2.1 z 4) 9 ∧ K.2.2.1 (K.2.2.1 z 4) 6 = 0 ∧ ((K.2.1 (K.2.2.1 z 4) 0 = 3 ∧ res = -2 ∧ i = j) ∨ (res = nI i ∧ TR K b pl k (K.2.2.1 z 4) i j))
theorem RPT.mv {K K' : cp_K} {b b' : Nat → Nat → Int32} {pl : Nat → Nat → Prop} {k z : Nat} (hK : NK K K') (hb : BK b b') : ∀ (rem q pt i j : Nat), RPT K b pl k z rem q pt i j → RPT K' b' pl k z rem q pt i j
  | 0, _, _, _, _, h => h
  | rem + 1, q, pt, i, j, h => by
    obtain ⟨h1, h2, h3, h4, i', h5, h6⟩ := h
    refine ⟨h1, hK.2.2 _ _ h2, h3, by rw [hb 46 (by omega)]; exact h4, i', by rw [hK.2.1]; exact RPT.mv hK hb rem _ _ _ _ h5, ?_⟩
    rw [hK.1 q 0 h2.1, hK.1 q 1 h2.1, hK.1 q 2 h2.1, hK.1 q 3 h2.1, hK.2.1, hb 44 (by omega), hb 45 (by omega), hb 47 (by omega), hb 48 (by omega)]
    have ht := TR.nk (pl := pl) hK (hb 39 (by omega)) (hb 40 (by omega)) (hb 41 (by omega)) k
    rcases h6 with ⟨a1, a2, a3, a4, ⟨l, m, b1, b2, b3, b4, b5, b6, b7⟩, a5⟩ | ⟨a1, a2, a3, a4, a5⟩
    · exact Or.inl ⟨a1, a2, a3, a4, ⟨l, m, b1, b2, b3, b4, b5, b6, CHZ.mv hK ht _ _ _ _ _ b7⟩, a5⟩
    · exact Or.inr ⟨a1, hK.2.2 _ _ a2, ht _ _ _ a3, a4, a5⟩
theorem RPT.le {K : cp_K} {b : Nat → Nat → Int32} {pl : Nat → Nat → Prop} {k z : Nat} : ∀ (rem q pt i j : Nat), RPT K b pl k z rem q pt i j → i ≤ j
  | 0, _, _, _, _, h => by have := h.2; omega
  | rem + 1, q, pt, i, j, h => by
    obtain ⟨h1, h2, h3, h4, i', h5, h6⟩ := h
    have l1 := RPT.le rem _ _ _ _ h5
    rcases h6 with ⟨a1, a2, a3, a4, ⟨l, m, b1, b2, b3, b4, b5, b6, b7⟩, a5⟩ | ⟨a1, a2, a3, a4, a5⟩
    · have := CHZ.le (fun q i j h => SH_lt _ _ _ (TR.sh _ _ _ _ h)) _ _ _ _ _ b7
      omega
    · have := SH_lt _ _ _ (TR.sh _ _ _ _ a3)
      omega
theorem RRS.mv {K K' : cp_K} {b b' : Nat → Nat → Int32} {pl : Nat → Nat → Prop} {k z i j : Nat} {res : Int32} (hK : NK K K') (hb : BK b b') (h : RRS K b pl k z i j res) : RRS K' b' pl k z i j res := by
  obtain ⟨h1, h2, h3, h4, h5, h6⟩ := h
  unfold RRS
  rw [hK.1 z 0 h1.1, hK.2.1, hK.1 _ 0 h4.1]
  refine ⟨hK.2.2 _ _ h1, h2, h3, hK.2.2 _ _ h4, h5, ?_⟩
  rcases h6 with h6 | ⟨h6, h7⟩
  · exact Or.inl h6
  · exact Or.inr ⟨h6, TR.nk hK (hb 39 (by omega)) (hb 40 (by omega)) (hb 41 (by omega)) _ _ _ _ h7⟩
def RSX (K : cp_K) (b : Nat → Nat → Int32) (ar : Nat → Nat) (k : Nat) (res : Int32) (z : Nat) (sc : Nat → Prop) (d : Nat) : Prop := nd K z 9 ∧ nd K (K.2.2.1 z 4) 9 ∧ ((K.2.1 (K.2.2.1 z 4) 0 = 3 ∧ res = -2) ∨ ∃ i j, res = nI i ∧ DTM K b ar k sc (K.2.2.1 z 4) i j ∧ j ≤ 2720 ∧ j - i ≤ d)
abbrev LD (p1 q : Nat) (x3 : Int32) (f : Nat) : cp_G → List (Nat × Value) := fun G => [(0, .ref (cp_b G + 24)), (1, va_rf (kr G p1)), (2, va_rf (kr G q)), (3, .int x3), (4, va_rf (kr G f))]
section CPDP
variable {ar : Nat → Nat} {rf : Nat} {pl : Nat → Nat → Prop} {n nE k : Nat} {ρ : Nat → Nat → Prop}
theorem isr_bad {S : cp_S} {res x : Int32} : JJ 9 m_M_isRight (some (.int 0)) (va_up S.1 58 0, S.2) 129 [(1, .int res), (2, .int 0), (3, .int x)] S := by
  have g : ∀ x, JJ 9 m_M_isRight (some (.int 0)) (va_up S.1 58 0, S.2) 135 [(1, .int res), (2, .int 0), (3, .int x)] S := fun x => b_M_isRight_135 ⟨fun _ => ⟨rfl, rfl, rfl⟩, fun h => absurd rfl h⟩
  exact b_M_isRight_129 (b_M_isRight_25 ⟨fun _ => g _, fun _ => ⟨fun _ => g _, fun h => absurd rfl h⟩⟩)
theorem TPO.bnd {lev n n' : Nat} {K K1 : cp_K} {S S1 : cp_S} {ρ ρ1 : Nat → Nat → Prop} {nv nc nv1 nc1 : Nat} {hl hl1 : List Nat} {C C1 F F1 : Nat} {L L1 : Nat → Nat → Nat → Nat → Prop} (g : TPO ar rf pl lev n n' K S ρ nv nc hl C F L K1 S1 ρ1 nv1 nc1 hl1 C1 F1 L1) (hn : n' ≤ 10000) (h7 : rsz K1 7 ≤ 1046000) : BND K1 := ⟨h7, g.1.1.2.2.1, g.1.1.2.2.2, n', hn, g.2.2.2.2.2.2.1⟩
/-- the term of a parameter or of the result -/
theorem ptype {p1 q f i j u nv nc : Nat} {K : cp_K} {S : cp_S} (st : TST ar rf pl nE n K S ρ nv nc [] 0 0 L0) (ht : TR K S.2 pl k f i j) (hj : j < 2720 ∧ j - i ≤ 100) (hk : k ≤ 9) (hn : n ≤ 8000) (hH : gH S.2 j = gH S.2 i) (hu : nv ≤ u ∧ nc ≤ u ∧ u + 100 * (gI S.2 j - gI S.2 i) + (k + 2) * (j - i) ≤ 5590) (h7 : rsz K 7 + 6500 * (j - i) < 1040000) :
    (∃ (K' : cp_K) (S' : cp_S) (y : Int32), JC 371 m_T_wrongInDeclaration (fun _ => .inl (some (.int y))) K' 52 (LD p1 q 0 f) (fun _ => []) K ∧ MC 8 m_M_isType [.int (nI i)] S (some (.int 0)) S' ∧ BDW K S K' S' y) ∨
    ∃ (K' : cp_K) (S' : cp_S) (nv' nc' v lf : Nat), (∀ o Kx, JC 371 m_T_wrongInDeclaration o Kx 52 (LD p1 q 0 (K.2.2.1 f 6)) (fun _ => []) K' → JC 371 m_T_wrongInDeclaration o Kx 52 (LD p1 q 0 f) (fun _ => []) K) ∧ MC 8 m_M_isType [.int (nI i)] S (some (.int 1)) S' ∧ TPO ar rf pl 1 n n K S ρ nv nc [] 0 0 L0 K' S' ρ nv' nc' [] 0 0 L0 ∧ (K'.2.1 24 7 = nI v ∧ v < 2 ^ 31 ∧ CTX K' [] nE L0 k f v ∧ VAL S' ar L0 i j) ∧ rsz K' 7 ≤ rsz K 7 + 6500 * (j - i) ∧ (lf ≤ 1 ∧ lf ≤ gL S.2 j - gL S.2 i ∧ nv' ≤ u + 100 * (gI S.2 j - gI S.2 i) + (k + 2) * (j - i) + 100 * lf ∧ nc' ≤ u + 100 * (gI S.2 j - gI S.2 i) + (k + 2) * (j - i) + 100 * lf) ∧ (nv ≤ nv' ∧ nc ≤ nc') := by
  have lt1 := SH_lt _ _ _ (TR.sh _ _ _ _ ht)
  have n0 : nd K f 9 := by
    cases k with
    | zero => exact ht.elim
    | succ k => exact ht.1
  have hpl : pl f i := by
    cases k with
    | zero => exact ht.elim
    | succ k => exact ht.2.1
  have f0 : ¬ f = 0 := by have := n0.1; omega
  have plf := st.2.2.2.2.1
  rcases typ_0 (u := u) st ht hj hk hn hH hu h7 with ⟨K1, S1, c1, c2, c3⟩ | ⟨K1, S1, ρ1, nv1, nc1, x, v, lf, ts, c1, c2, c3, c4, c5, c6, ⟨c7, c8, c9, c10⟩, c11, ⟨d1, d2, d3, d4⟩, ⟨d5, d6⟩⟩
  · exact Or.inl ⟨K1, S1, K1.2.1 24 6, b_T_wrongInDeclaration_52 (D := 363) ⟨fun h => absurd h f0, fun _ => ⟨-1, K1, c1, fun h => absurd rfl h, fun _ => ⟨rfl, rfl⟩⟩⟩, c_M_isType (b_M_isType_0 ⟨-1, S1, c2, fun h => absurd h (by decide), fun _ => ⟨fun _ => ⟨fun _ => ⟨rfl, rfl, rfl⟩, fun h => absurd h (by decide)⟩, fun h => absurd rfl h⟩⟩), c3.bdw⟩
  · have x31 : x < 2 ^ 31 := by have := c6.1.1.1.1.2.2.2.2.2.2.2; omega
    have nk1 := c6.2.2.2.2.1.nk
    have sx1 := c6.2.2.2.2.2.1
    rcases c4 with ⟨rfl, h3, -⟩ | ⟨r, rfl, hr⟩
    · refine Or.inr ⟨K1, S1, nv1, nc1, v, lf, fun o Kx w => b_T_wrongInDeclaration_52 (D := 363) ⟨fun h => absurd h f0, fun _ => ⟨nI x, K1, c1, fun _ => ⟨fun h => absurd rfl h, fun _ => ⟨fun _ => b_T_wrongInDeclaration_95 ⟨nk1.2.2 _ _ n0, by rw [nk1.2.1]; exact w⟩, fun h => ?_⟩⟩, fun h => absurd h (nI_m1 x31)⟩⟩, c_M_isType (b_M_isType_0 ⟨-2, S1, c2, fun _ => ⟨fun h => absurd rfl h, fun _ => ⟨rfl, rfl, rfl⟩⟩, fun h => absurd rfl h⟩), c6.old st.1.1 st.1.2.2.1 d5 d6, ⟨c7, c8, c9, c10⟩, c11, ⟨d1, ?_, d3, d4⟩, ⟨d5, d6⟩⟩
      · rw [rget_of c5 (by have := c6.1.1.1.1.2.2.2.2.2.2.2; omega), if_pos h3] at h
        exact absurd h (by decide)
      · by_cases h : lf = 1
        · have := gL_1 (d2 h).1 (d2 h).2
          have := pfx_le (g := fun x => if S.2 39 x = 5 ∧ S.2 41 x = 0 then 1 else 0) (x := i + 1) (y := j) (by omega)
          unfold gL at *
          omega
        · omega
    · obtain ⟨f1, f2, f3, f4, f5⟩ := (plf.mv nk1 (sx1.1 20 (by decide)) (sx1.2.1 42 (by omega))).2.1 f i hpl
      have p20 : S1.1 20 = nI rf := (plf.mv nk1 (sx1.1 20 (by decide)) (sx1.2.1 42 (by omega))).1
      have n3x : ¬ rat K1 7 x = 3 := c6.1.1.1.1.1.n3 hr
      have r31 : r < 2 ^ 31 := by have := (c6.1.1.1.1.1.1 _ _ hr).2.1; have := c6.1.1.1.1.2.2.2.2.2.1; omega
      have nm2 : ¬ nI r = -2 := fun e => by have := nI_pos r31; rw [e] at this; exact this (by decide)
      refine Or.inl ⟨K1, (va_up S1.1 59 (S1.2 42 (i - rf)), S1.2), K1.2.1 f 2, b_T_wrongInDeclaration_52 (D := 363) ⟨fun h => absurd h f0, fun _ => ⟨nI x, K1, c1, fun _ => ⟨fun h => absurd rfl h, fun _ => ⟨fun h => ?_, fun _ => ⟨nk1.2.2 _ _ n0, rfl, rfl⟩⟩⟩, fun h => absurd h (nI_m1 x31)⟩⟩, c_M_isType (b_M_isType_0 ⟨nI r, S1, c2, fun h => absurd h nm2, fun _ => ⟨fun h => absurd h c3, fun _ => ⟨?_, fun _ => ⟨rfl, ?_, rfl⟩, fun h => absurd h nm2⟩⟩⟩), ⟨c6.dfr.1, ⟨fun k hk => ?_, c6.dfr.2.1.2⟩, fun q => ?_⟩, ?_, by rw [f5]; exact f3.2, c6.bnd (by omega) (by omega)⟩
      · rw [rget_of c5 (by have := c6.1.1.1.1.2.2.2.2.2.2.2; omega), if_neg n3x] at h
        exact absurd rfl h
      · rw [p20, pk_sub f1]; exact vp_in_nI (show i - rf < 82 by omega) (by decide)
      · rw [p20, pk_sub f1, nI_clamp (show i - rf < 2 ^ 31 by omega)]
      · show va_up S1.1 59 (S1.2 42 (i - rf)) k = _
        rw [cp_up_ne (fun e => hk (by rw [e]; decide))]
        exact c6.dfr.2.1.1 k hk
      · show K1.2.1 23 4 = va_up S1.1 59 (S1.2 42 (i - rf)) 60
        rw [cp_up_ne (by decide)]
        exact c6.dfr.2.2 q
      · show va_up S1.1 59 (S1.2 42 (i - rf)) 59 = _
        rw [va_up_at, f5]
/-- the terms of a condition -/
theorem cterms {p1 q pt m z j : Nat} {x2 : Int32} (hpt : pt < 180) (hm : m ≤ 4) (hk : k ≤ 9) (hn : n ≤ 8000) (hj : j < 2720) : ∀ (rem t f i u nv nc : Nat) (K : cp_K) (S : cp_S), t + rem = m → CHZ (TR K S.2 pl k) K rem f z i j → K.2.2.1 z 6 = 0 → S.2 47 pt = nI m → TST ar rf pl nE n K S ρ nv nc [] 0 0 L0 → gH S.2 j = gH S.2 i → j - i ≤ 100 → (nv ≤ u ∧ nc ≤ u) → (∀ Y, Y ≤ rem + 1 → Y ≤ gL S.2 j - gL S.2 i → u + 100 * Y + 100 * (gI S.2 j - gI S.2 i) + (k + 2) * (j - i) ≤ 5590) → rsz K 7 + 6500 * (j - i) < 1040000 →
    (∃ (K' : cp_K) (S' : cp_S) (y : Int32), JC 371 m_T_wrongInDeclaration (fun _ => .inl (some (.int y))) K' 52 (LD p1 q 1 f) (fun _ => []) K ∧ JJ 8 m_M_isRightCondition (some (.int 0)) S' 54 [(1, .int (nI pt)), (2, .int x2), (3, .int (nI i)), (4, .int (nI t))] S ∧ BDW K S K' S' y) ∨
    ∃ (K' : cp_K) (S' : cp_S) (nv' nc' lf : Nat), (∀ o Kx, JC 371 m_T_wrongInDeclaration o Kx 52 (LD p1 q 1 0) (fun _ => []) K' → JC 371 m_T_wrongInDeclaration o Kx 52 (LD p1 q 1 f) (fun _ => []) K) ∧ JJ 8 m_M_isRightCondition (some (.int 1)) S' 54 [(1, .int (nI pt)), (2, .int x2), (3, .int (nI i)), (4, .int (nI t))] S ∧ TPO ar rf pl 1 n n K S ρ nv nc [] 0 0 L0 K' S' ρ nv' nc' [] 0 0 L0 ∧ VAL S' ar L0 i j ∧ rsz K' 7 ≤ rsz K 7 + 6500 * (j - i) ∧ (lf ≤ rem + 1 ∧ lf ≤ gL S.2 j - gL S.2 i ∧ nv' ≤ u + 100 * (gI S.2 j - gI S.2 i) + (k + 2) * (j - i) + 100 * lf ∧ nc' ≤ u + 100 * (gI S.2 j - gI S.2 i) + (k + 2) * (j - i) + 100 * lf) ∧ (nv ≤ nv' ∧ nc ≤ nc') := by
  -- one term
  have one : ∀ (t f i i' u nv nc : Nat) (K : cp_K) (S : cp_S), t ≤ m → TR K S.2 pl k f i i' → S.2 47 pt = nI m → TST ar rf pl nE n K S ρ nv nc [] 0 0 L0 → gH S.2 i' = gH S.2 i → i' - i ≤ 100 → i' < 2720 → (nv ≤ u ∧ nc ≤ u ∧ u + 100 * (gI S.2 i' - gI S.2 i) + (k + 2) * (i' - i) ≤ 5590) → rsz K 7 + 6500 * (i' - i) < 1040000 →
      (∃ (K' : cp_K) (S' : cp_S) (y : Int32), JC 371 m_T_wrongInDeclaration (fun _ => .inl (some (.int y))) K' 52 (LD p1 q 1 f) (fun _ => []) K ∧ JJ 8 m_M_isRightCondition (some (.int 0)) S' 54 [(1, .int (nI pt)), (2, .int x2), (3, .int (nI i)), (4, .int (nI t))] S ∧ BDW K S K' S' y) ∨
      ∃ (K' : cp_K) (S' : cp_S) (nv' nc' lf : Nat), (∀ o Kx, JC 371 m_T_wrongInDeclaration o Kx 52 (LD p1 q 1 (K.2.2.1 f 6)) (fun _ => []) K' → JC 371 m_T_wrongInDeclaration o Kx 52 (LD p1 q 1 f) (fun _ => []) K) ∧ (∀ o Sx, JJ 8 m_M_isRightCondition o Sx 54 [(1, .int (nI pt)), (2, .int x2), (3, .int (nI i')), (4, .int (nI (t + 1)))] S' → JJ 8 m_M_isRightCondition o Sx 54 [(1, .int (nI pt)), (2, .int x2), (3, .int (nI i)), (4, .int (nI t))] S) ∧ TPO ar rf pl 1 n n K S ρ nv nc [] 0 0 L0 K' S' ρ nv' nc' [] 0 0 L0 ∧ VAL S' ar L0 i i' ∧ rsz K' 7 ≤ rsz K 7 + 6500 * (i' - i) ∧ (lf ≤ 1 ∧ lf ≤ gL S.2 i' - gL S.2 i ∧ nv' ≤ u + 100 * (gI S.2 i' - gI S.2 i) + (k + 2) * (i' - i) + 100 * lf ∧ nc' ≤ u + 100 * (gI S.2 i' - gI S.2 i) + (k + 2) * (i' - i) + 100 * lf) ∧ (nv ≤ nv' ∧ nc ≤ nc') := by
    intro t f i i' u nv nc K S htm ht h47 st hH hij hi' hu h7
    have lt1 := SH_lt _ _ _ (TR.sh _ _ _ _ ht)
    have n0 : nd K f 9 := by
      cases k with
      | zero => exact ht.elim
      | succ k => exact ht.1
    have f0 : ¬ f = 0 := by have := n0.1; omega
    have vp : vp_in (nI pt) (cp_ml 47) := vp_in_nI (show pt < 180 by omega) (by decide)
    have hlt : ¬ S.2 47 (Int32.toNatClampNeg (nI pt)) < nI t := by
      rw [nI_clamp (by omega), h47]
      exact nI_nlt (by omega) (by omega)
    rcases typ_0 (u := u) st ht ⟨hi', hij⟩ hk hn hH hu h7 with ⟨K1, S1, c1, c2, c3⟩ | ⟨K1, S1, ρ1, nv1, nc1, x, v, lf, ts, c1, c2, c3, c4, c5, c6, ⟨c7, c8, c9, c10⟩, c11, ⟨d1, d2, d3, d4⟩, ⟨d5, d6⟩⟩
    · exact Or.inl ⟨K1, S1, K1.2.1 24 6, b_T_wrongInDeclaration_52 (D := 363) ⟨fun h => absurd h f0, fun _ => ⟨-1, K1, c1, fun h => absurd rfl h, fun _ => ⟨rfl, rfl⟩⟩⟩, b_M_isRightCondition_54 ⟨vp, fun h => absurd h hlt, fun _ => ⟨-1, S1, c2, fun h => absurd rfl h, fun _ => ⟨rfl, rfl, rfl⟩⟩⟩, c3.bdw⟩
    · have x31 : x < 2 ^ 31 := by have := c6.1.1.1.1.2.2.2.2.2.2.2; omega
      have nk1 := c6.2.2.2.2.1.nk
      have bk1 := c6.2.2.2.2.2.1.bk
      refine Or.inr ⟨K1, S1, nv1, nc1, lf, fun o Kx w => b_T_wrongInDeclaration_52 (D := 363) ⟨fun h => absurd h f0, fun _ => ⟨nI x, K1, c1, fun _ => ⟨fun _ => b_T_wrongInDeclaration_95 ⟨nk1.2.2 _ _ n0, by rw [nk1.2.1]; exact w⟩, fun h => absurd h (by decide)⟩, fun h => absurd h (nI_m1 x31)⟩⟩, fun o Sx w => b_M_isRightCondition_54 ⟨vp, fun h => absurd h hlt, fun _ => ⟨ts, S1, c2, fun _ => ⟨nI i', S1, MC_behind (TR.sh _ _ _ _ (TR.nk nk1 (bk1 39 (by omega)) (bk1 40 (by omega)) (bk1 41 (by omega)) _ _ _ _ ht)) (by omega), by rw [nI_1]; exact w⟩, fun h => absurd h c3⟩⟩, c6.old st.1.1 st.1.2.2.1 d5 d6, c10, c11, ⟨d1, ?_, d3, d4⟩, ⟨d5, d6⟩⟩
      by_cases h : lf = 1
      · have := gL_1 (d2 h).1 (d2 h).2
        have := pfx_le (g := fun x => if S.2 39 x = 5 ∧ S.2 41 x = 0 then 1 else 0) (x := i + 1) (y := i') (by omega)
        unfold gL at *
        omega
      · omega
  intro rem
  induction rem with
  | zero =>
    intro t f i u nv nc K S htm hc hz6 h47 st hH hij hu hY h7
    obtain ⟨rfl, hnd, ht⟩ := hc
    rcases one t f i j u nv nc K S (by omega) ht h47 st hH hij hj ⟨hu.1, hu.2, by have := hY 0 (by omega) (by omega); omega⟩ h7 with w | ⟨K1, S1, nv1, nc1, lf, a1, a2, a3, a4, a5, a6, a7⟩
    · exact Or.inl w
    · refine Or.inr ⟨K1, S1, nv1, nc1, lf, fun o Kx w => a1 o Kx (by rw [hz6]; exact w), a2 _ _ (b_M_isRightCondition_54 ⟨vp_in_nI (show pt < 180 by omega) (by decide), fun _ => ⟨rfl, rfl, rfl⟩, fun h => absurd ?_ h⟩), a3, a4, a5, a6, a7⟩
      rw [nI_clamp (by omega), a3.2.2.2.2.2.1.bk 47 (by omega), h47]
      exact nI_lt (by omega) (by omega)
  | succ rem ih =>
    intro t f i u nv nc K S htm hc hz6 h47 st hH hij hu hY h7
    obtain ⟨hnd, hne, i', ht, hc⟩ := hc
    have lt1 := SH_lt _ _ _ (TR.sh _ _ _ _ ht)
    have lt2 := CHZ.le (fun q i j h => SH_lt _ _ _ (TR.sh _ _ _ _ h)) _ _ _ _ _ hc
    have g1 := (GW_b (b := S.2)).1 i i' (by omega)
    have g2 := (GW_b (b := S.2)).1 i' j (by omega)
    have l1 : gL S.2 i ≤ gL S.2 i' := pfx_le (by omega)
    have l2 : gL S.2 i' ≤ gL S.2 j := pfx_le (by omega)
    have mm : (k + 2) * (j - i) = (k + 2) * (i' - i) + (k + 2) * (j - i') := by rw [← Nat.mul_add]; congr 1; omega
    have hY0 := hY 0 (by omega) (by omega)
    rcases one t f i i' u nv nc K S (by omega) ht h47 st (by omega) (by omega) (by omega) ⟨hu.1, hu.2, by omega⟩ (by omega) with w | ⟨K1, S1, nv1, nc1, lf, a1, a2, a3, a4, a5, ⟨a6, a7, a8, a9⟩, ⟨a10, a11⟩⟩
    · exact Or.inl w
    · have nk1 := a3.2.2.2.2.1.nk
      have bk1 := a3.2.2.2.2.2.1.bk
      have gg := g_bk bk1
      rcases ih (t + 1) (K.2.2.1 f 6) i' (u + 100 * (gI S.2 i' - gI S.2 i) + (k + 2) * (i' - i) + 100 * lf) nv1 nc1 K1 S1 (by omega) (CHZ.mv nk1 (TR.nk nk1 (bk1 39 (by omega)) (bk1 40 (by omega)) (bk1 41 (by omega)) k) _ _ _ _ _ hc) (by rw [nk1.2.1]; exact hz6) (by rw [bk1 47 (by omega)]; exact h47) (st.mv a3 (by omega) rfl (Nat.le_refl _)) (by rw [gg.2.2.1]; omega) (by omega) ⟨a8, a9⟩ (fun Y y1 y2 => by rw [gg.2.2.2] at y2; rw [gg.1]; have := hY (Y + lf) (by omega) (by omega); omega) (by omega) with ⟨K', S', y, b1, b2, b3⟩ | ⟨K', S', nv', nc', lf', b1, b2, b3, b4, b5, ⟨b6, b7, b8, b9⟩, ⟨b10, b11⟩⟩
      · exact Or.inl ⟨K', S', y, a1 _ _ b1, a2 _ _ b2, BDW.pre a3.dfr b3⟩
      · rw [gg.2.2.2] at b7
        rw [gg.1] at b8 b9
        exact Or.inr ⟨K', S', nv', nc', lf + lf', fun o Kx w => a1 o Kx (b1 o Kx w), a2 _ _ b2, a3.trans b3 (Nat.le_refl _) (Nat.le_refl _) (fun _ => ⟨a10, a11⟩), (a4.mv b3.2.2.2.2.2.1.bk (b3.2.2.2.2.2.1.2.1 64 (by omega)) (fun _ _ _ _ w => w)).join b4, by omega, ⟨by omega, by omega, by omega, by omega⟩, ⟨by omega, by omega⟩⟩
end CPDP
