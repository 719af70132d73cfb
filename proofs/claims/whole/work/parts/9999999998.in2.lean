/-! ===== programs are looked at: all codes, the class ===== -/
section CPIX
variable {b : Nat → Nat → Int32} {ar : Nat → Nat} {l n start rf pe : Nat} {K0 : cp_K}
theorem GDX_no {x : Nat} {c : Int32} (h : b 39 x = c) (h1 : ¬ c = 1) (h13 : ¬ c = 13) (h5 : ¬ c = 5) : GDX b l n start x := ⟨fun q => absurd (h.symm.trans q) h1, fun q => absurd (h.symm.trans q) h13, fun q => absurd (h.symm.trans q) h5⟩
theorem WRES.one {i : Nat} (h : GDX b l n start i) : WRES b l n start rf i (i + 1) (-1) := Or.inl ⟨rfl, fun x x1 x2 => by rw [show x = i by omega]; exact h⟩
theorem WRES.bad {i j : Nat} {r : Int32} (h : ¬ GDX b l n start i) (hj : i < j) (hr : r = b 42 (i - rf)) : WRES b l n start rf i j r := Or.inr ⟨i, Nat.le_refl _, hj, h, fun x x1 x2 => by omega, hr⟩
/-- a letter may be used -/
theorem KC_may {p c m : Nat} {K : cp_K} {g : Bool} (cx : ICX K0 b ar l n pe) (kf : KF [15, 17, 19] K0 K) (hp : nd K0 p 9) (hc : c < 26) (hm : m ≤ 6) (h1 : K0.2.1 p 1 = nI (65 + c)) (h3 : K0.2.1 p 3 = nI m) {x : Nat} (h5 : b 39 x = 5) (h40 : b 40 x = nI c) (h41 : b 41 x = nI m) (hg : g = true ↔ GDX b l n start x) : KC 8 m_I_mayBeUsed (fun G => [.ref (cp_b G + 25), va_rf (kr G p), va_rf (kr G pe)]) K (fun _ => some (.int (if g then 1 else 0))) K := by
  obtain ⟨dc, npe, e0, e2, hl, hn⟩ := cx
  have cu : ∀ c', c' < 26 → b 40 x = nI c' → c' = c := fun c' h1 h2 => (nI_eq (by omega) (by omega)).mp (h2.symm.trans h40)
  have yes : ((c = l → b 41 x = nI n) ∧ (c ≠ l → ¬ b 30 c = 0 ∧ b 31 c = b 41 x)) → g = true := fun h => hg.mpr ⟨fun q => by rw [h5] at q; exact absurd q (by decide), fun q => by rw [h5] at q; exact absurd q (by decide), fun _ c' k1 k2 => by rw [cu c' k1 k2]; exact h⟩
  have no : ¬ ((c = l → b 41 x = nI n) ∧ (c ≠ l → ¬ b 30 c = 0 ∧ b 31 c = b 41 x)) → g = false := fun h => by
    cases g
    · rfl
    · exact absurd ((hg.mp rfl).2.2 h5 c hc h40) h
  have i1 : K.2.1 p 1 = nI (65 + c) := by rw [kf.1]; exact h1
  have i3 : K.2.1 p 3 = nI m := by rw [kf.1]; exact h3
  have p0 : K.2.1 pe 0 = nI (65 + l) := by rw [kf.1]; exact e0
  have p2 : K.2.1 pe 2 = nI n := by rw [kf.1]; exact e2
  refine c_I_mayBeUsed (D := 0) ?_
  unfold wp_I_mayBeUsed_0
  rw [i1, i3, p0, p2, dfind_of hc]
  refine ⟨kf.nd hp, kf.nd npe, fun q => ?_, fun q => ?_⟩
  · have ncl : c ≠ l := fun h => q (by rw [h])
    rw [kf.2.1]
    refine ⟨fun z => ?_, fun z => ?_⟩
    · have : g = false := no (fun h => by
        rcases dc c hc with ⟨d1, -⟩ | ⟨-, d2⟩ | ⟨-, d2, -⟩
        · exact (h.2 ncl).1 d1
        · obtain ⟨-, -, -, -, -, -, -, -, -, -, -, -, d3, -⟩ := d2
          have := d3.1; omega
        · have := d2.1; omega)
      rw [this]; exact ⟨rfl, rfl⟩
    · rcases dc c hc with ⟨-, d2⟩ | ⟨d1, d2⟩ | ⟨d1, d2, -, m', d4, d5, d6⟩
      · exact absurd d2 z
      · obtain ⟨-, -, -, -, -, -, -, -, ha, d5, -, -, d3, -, d4, -⟩ := d2
        refine ⟨kf.nd d3, fun z2 => ?_, fun z2 => ?_⟩
        · rw [kf.1, d4] at z2
          have : g = false := no (fun h => z2 (by rw [← d5, (h.2 ncl).2, h41]))
          rw [this]; exact ⟨rfl, rfl⟩
        · rw [kf.1, d4] at z2
          have : g = true := yes ⟨fun h => absurd h ncl, fun _ => ⟨by rw [d1]; decide, by rw [d5, z2, h41]⟩⟩
          rw [this]; exact ⟨rfl, rfl⟩
      · refine ⟨kf.nd d2, fun z2 => ?_, fun z2 => ?_⟩
        · rw [kf.1, d6] at z2
          have : g = false := no (fun h => z2 (by rw [← d5, (h.2 ncl).2, h41]))
          rw [this]; exact ⟨rfl, rfl⟩
        · rw [kf.1, d6] at z2
          have : g = true := yes ⟨fun h => absurd h ncl, fun _ => ⟨by rw [d1]; decide, by rw [d5, z2, h41]⟩⟩
          rw [this]; exact ⟨rfl, rfl⟩
  · have ecl : c = l := by have := (nI_eq (a := 65 + c) (b := 65 + l) (by omega) (by omega)).mp q; omega
    refine ⟨fun z => absurd z (by have := npe.1; omega), fun _ => ⟨fun z => ?_, fun z => ?_⟩⟩
    · have : g = false := no (fun h => z (by rw [← h.1 ecl, h41]))
      rw [this]; exact ⟨rfl, rfl⟩
    · have : g = true := yes ⟨fun _ => by rw [h41, z], fun h => absurd ecl h⟩
      rw [this]; exact ⟨rfl, rfl⟩
/-- a constant in a pattern -/
theorem dfc_form {p c m : Nat} {K : cp_K} (cx : ICX K0 b ar l n pe) (kf : KF [15, 17, 19] K0 K) (hc : c < 26) (h1 : K0.2.1 p 1 = nI (65 + c)) (h3 : K0.2.1 p 3 = nI m) {x : Nat} (h13 : b 39 x = 13) (h40 : b 40 x = nI c) (h41 : b 41 x = nI m) : (dfc K p = 0 ↔ ¬ GDX b l n start x) ∧ (¬ dfind K (K.2.1 p 1) = 0 → nd K (dfind K (K.2.1 p 1)) 10) := by
  obtain ⟨dc, -⟩ := cx
  have cu : ∀ c', c' < 26 → b 40 x = nI c' → c' = c := fun c' h1 h2 => (nI_eq (by omega) (by omega)).mp (h2.symm.trans h40)
  have gd : GDX b l n start x ↔ (b 30 c = 1 ∧ b 31 c = b 41 x) := ⟨fun h => h.2.1 h13 c hc h40, fun h => ⟨fun q => by rw [h13] at q; exact absurd q (by decide), fun _ c' k1 k2 => by rw [cu c' k1 k2]; exact h, fun q => by rw [h13] at q; exact absurd q (by decide)⟩⟩
  have i1 : K.2.1 p 1 = nI (65 + c) := by rw [kf.1]; exact h1
  have df : dfind K (K.2.1 p 1) = K0.2.2.1 4 c := by rw [i1, dfind_of hc, kf.2.1]
  unfold dfc
  rw [df, gd, kf.1, h3]
  rcases dc c hc with ⟨d1, d2⟩ | ⟨d1, d2⟩ | ⟨d1, d2, d3, -⟩
  · refine ⟨⟨fun _ h => by rw [d1] at h; exact absurd h.1 (by decide), fun _ => ?_⟩, fun h => absurd d2 h⟩
    rw [d2]; simp
  · obtain ⟨-, -, -, -, -, -, -, -, ha, d5, -, -, d3, d3', d4, -⟩ := d2
    have n0 : ¬ K0.2.2.1 4 c = 0 := by have := d3.1; omega
    refine ⟨?_, fun _ => kf.nd d3⟩
    rw [d4, d3', d5, h41, d1]
    by_cases e : nI (ar c) = nI m
    · rw [if_pos ⟨rfl, e⟩]
      exact ⟨fun h => absurd h n0, fun h => absurd ⟨rfl, e⟩ h⟩
    · rw [if_neg (fun h => e h.2)]
      exact ⟨fun _ h => e h.2, fun _ => rfl⟩
  · refine ⟨?_, fun _ => kf.nd d2⟩
    rw [if_neg (fun h => d3 h.1), d1]
    exact ⟨fun _ h => absurd h.1 (by decide), fun _ => rfl⟩
end CPIX
section CPIY
variable {b : Nat → Nat → Int32} {ar : Nat → Nat} {l n start rf pe : Nat} {K0 : cp_K}
/-- what the class finds in a code of height k -/
def WIK (K0 : cp_K) (b : Nat → Nat → Int32) (l n start rf pe k : Nat) : Prop := ∀ (q i j : Nat) (K : cp_K) (nn : Nat) (sc : Nat → Prop), (∃ a a1, RCD K0 b rf k q i j a a1) → start ≤ i → IST K0 K nn sc → nn + 6 * k ≤ 1000 → INVS b n start i j sc → PLB b rf i j → ∃ r K', KWI (10 + 3 * k) q pe K r K' ∧ IPO K K' nn ∧ WRES b l n start rf i j r
/-- a case -/
theorem wrg_case {k q i i2 a' : Nat} {vs : List Nat} {K : cp_K} {nn : Nat} {sc : Nat → Prop} (cx : ICX K0 b ar l n pe) (ih : WIK K0 b l n start rf pe k) (nq : nd K0 q 9) (h10 : K0.2.1 q 0 = 10) (h4 : K0.2.2.1 q 4 = q + 1) (pt : PTI K0 b rf (q + 1) i vs) (cd : RCD K0 b rf k (K0.2.2.1 q 5) (i + 1 + vs.length) i2 (q + 2 + vs.length) a') (hs : start ≤ i) (st : IST K0 K nn sc) (hn : nn + 6 * (k + 1) ≤ 1000) (inv : INVS b n start i i2 sc) (hp : PLB b rf i i2) : ∃ r K', KWI (12 + 3 * k) q pe K r K' ∧ IPO K K' nn ∧ WRES b l n start rf i i2 r := by
  have lt := RCD.lt _ _ _ _ _ _ cd
  have sh := RCD.sh _ _ _ _ _ _ cd
  obtain ⟨kf, hB, hnm⟩ := id st
  have nq1 : nd K0 (q + 1) 9 := pt.1
  have q0 : K.2.1 q 0 = 10 := by rw [kf.1]; exact h10
  have q4 : K.2.2.1 q 4 = q + 1 := by rw [kf.2.1]; exact h4
  have wc : ∀ (r : Int32) (K' : cp_K), KC (11 + 3 * k) m_I_wrongInCase (fun G => [.ref (cp_b G + 25), va_rf (kr G q), va_rf (kr G pe)]) K (fun _ => some (.int r)) K' → KWI (12 + 3 * k) q pe K r K' := fun r K' w => (c_I_wrongIn (D := 4 + 3 * k) ⟨kf.nd nq, fun e => absurd q0 e, fun _ => ⟨r, K', w.mono (by omega), rfl, rfl⟩⟩).mono (by omega)
  obtain ⟨-, t2, t3, t4, t5, t6, t7, t8⟩ := id pt
  -- pattern is right: the code
  have go : GDX b l n start i → ∃ r K', JC (3 + 3 * k + 8) m_I_wrongInCase (fun _ => .inl (some (.int r))) K' 30 (fun G => [(0, .ref (cp_b G + 25)), (1, va_rf (kr G q)), (2, va_rf (kr G pe)), (3, va_rf (kr G (q + 1)))]) (fun _ => []) K ∧ IPO K K' nn ∧ WRES b l n start rf i i2 r := fun gi => by
    have s15 : rsz K 15 = nn := hB.1
    obtain ⟨K1, a1, a2, a3, a4, a5⟩ := wc_push (D := 3 + 3 * k) (p1 := q) (pe := pe) (p3 := q + 1) (x0 := nn) vs (q + 1 + 1) (i + 1) K nn (K.2.2.1 (q + 1) 4) t6 (by rw [kf.2.1]; exact t7) kf hB (by omega)
    have st1 : IST K0 K1 (nn + vs.length) (fun c => sc c ∨ c ∈ vs) := by
      refine ⟨kf.trans a1, a2, fun c hc => ⟨fun h => ?_, fun h => ?_⟩⟩
      · rcases h with h | h
        · obtain ⟨x, x1, x2⟩ := (hnm c hc).mp h
          exact ⟨x, by omega, by rw [a3 15 (Or.inl rfl) x x1]; exact x2⟩
        · obtain ⟨t, ht, e⟩ := List.getElem_of_mem h
          exact ⟨nn + t, by omega, by rw [a4 t ht, e]⟩
      · obtain ⟨x, x1, x2⟩ := h
        by_cases e : x < nn
        · exact Or.inl ((hnm c hc).mpr ⟨x, e, by rw [← a3 15 (Or.inl rfl) x e]; exact x2⟩)
        · have := a4 (x - nn) (by omega)
          rw [show nn + (x - nn) = x by omega, x2] at this
          have u := (t6 (x - nn) (by omega)).2.1
          have e2 := (nI_eq (a := 97 + c) (b := 97 + vs[x - nn]) (by omega) (by omega)).mp this
          have e3 : c = vs[x - nn] := by omega
          rw [e3]; exact Or.inr (List.getElem_mem _)
    obtain ⟨r, K2, c1, c2, c3⟩ := ih (K0.2.2.1 q 5) (i + 1 + vs.length) i2 K1 (nn + vs.length) _ ⟨_, _, cd⟩ (by omega) st1 (by omega) (inv.case pt hs sh lt.1) (fun y y1 y2 => hp y (by omega) y2)
    refine ⟨r, bcut K2 (nI nn), b_I_wrongInCase_30 (D := 3 + 3 * k) ⟨kf.nd nq1, ?_⟩, ⟨(a1.trans c2.1).trans KF.bcut, bcut_BS c2.2.1 (by omega) (by omega), fun g hg x hx => by rw [bcut_at, c2.2.2 g hg x (by omega), a3 g hg x hx]⟩, WRES.join (fun x x1 x2 => ?_) c3 (by omega)⟩
    · rw [s15]
      refine a5 _ _ (b_I_wrongInCase_45 (D := 3 + 3 * k) ⟨fun _ => ⟨(kf.trans a1).nd nq, r, K2, ?_, rfl, rfl⟩, fun e => absurd rfl e⟩)
      rw [a1.2.1, kf.2.1]; exact c1.mono (by omega)
    · by_cases e : x = i
      · rw [e]; exact gi
      · have := (t6 (x - (i + 1)) (by omega)).2.2.2.2.1
        rw [show i + 1 + (x - (i + 1)) = x by omega] at this
        exact GDX_no this (by decide) (by decide) (by decide)
  have fin : (∃ r K', JC (3 + 3 * k + 8) m_I_wrongInCase (fun _ => .inl (some (.int r))) K' 30 (fun G => [(0, .ref (cp_b G + 25)), (1, va_rf (kr G q)), (2, va_rf (kr G pe)), (3, va_rf (kr G (q + 1)))]) (fun _ => []) K ∧ IPO K K' nn ∧ WRES b l n start rf i i2 r) → (¬ K.2.1 (q + 1) 0 = 6 ∨ (¬ dfc K (q + 1) = 0 ∧ (¬ dfind K (K.2.1 (q + 1) 1) = 0 → nd K (dfind K (K.2.1 (q + 1) 1)) 10))) → ∃ r K', KWI (12 + 3 * k) q pe K r K' ∧ IPO K K' nn ∧ WRES b l n start rf i i2 r := fun ⟨r, K', u1, u2, u3⟩ h => by
    refine ⟨r, K', wc r K' ((c_I_wrongInCase (D := 3 + 3 * k) ?_).mono (by omega)), u2, u3⟩
    unfold wp_I_wrongInCase_0
    rw [q4]
    refine ⟨kf.nd nq, kf.nd nq1, fun _ => u1, fun e6 => ?_⟩
    rcases h with h | ⟨h1, h2⟩
    · exact absurd e6 h
    · exact ⟨h2, fun _ => u1, fun e => absurd e h1⟩
  rcases t8 with ⟨u1, u2, -⟩ | ⟨u1, u2, -⟩ | ⟨u1, u2, c, u3, u4, u5⟩
  · exact fin (go (GDX_no u2 (by decide) (by decide) (by decide))) (Or.inl (by rw [kf.1, u1]; decide))
  · exact fin (go (GDX_no u2 (by decide) (by decide) (by decide))) (Or.inl (by rw [kf.1, u1]; decide))
  · obtain ⟨d1, d2⟩ := dfc_form (start := start) (p := q + 1) cx kf u3 u4 t5 u2 u5 t4
    by_cases hg : GDX b l n start i
    · exact fin (go hg) (Or.inr ⟨fun e => d1.mp e hg, d2⟩)
    · refine ⟨K0.2.1 (q + 1) 2, K, wc _ K ((c_I_wrongInCase (D := 3 + 3 * k) ?_).mono (by omega)), IPO.refl hB, WRES.bad hg (by omega) t2⟩
      unfold wp_I_wrongInCase_0
      rw [q4]
      refine ⟨kf.nd nq, kf.nd nq1, fun e6 => absurd (by rw [kf.1]; exact u1) e6, fun _ => ⟨d2, fun e => absurd (d1.mpr hg) e, fun _ => ⟨?_, rfl⟩⟩⟩
      rw [kf.1]
/-- the cases -/
theorem wrg_cs {k p1 : Nat} (cx : ICX K0 b ar l n pe) (ih : WIK K0 b l n start rf pe k) : ∀ (m q i j a a1 : Nat) (K : cp_K) (nn : Nat) (sc : Nat → Prop), RCS (RCD K0 b rf k) K0 b rf m q i j a a1 → start ≤ i → IST K0 K nn sc → nn + 6 * (k + 1) ≤ 1000 → (0 < m → INVS b n start i j sc) → PLB b rf i j → ∃ r K', JC (5 + 3 * k + 8) m_I_wrongIn (fun _ => .inl (some (.int r))) K' 80 (LW3 p1 pe q) (fun _ => []) K ∧ IPO K K' nn ∧ WRES b l n start rf i j r
  | 0, q, i, j, a, a1, K, nn, sc, h, _, st, _, _, _ => by
    obtain ⟨rfl, rfl, -⟩ := h
    exact ⟨-1, K, b_I_wrongIn_80 (D := 5 + 3 * k) ⟨fun _ => ⟨rfl, rfl⟩, fun e => absurd rfl e⟩, IPO.refl st.2.1, Or.inl ⟨rfl, fun x x1 x2 => by omega⟩⟩
  | m + 1, q, i, j, a, a1, K, nn, sc, h, hs, st, hn, hi, hp => by
    have ops := RCS_OPS (k := k + 2) (fun q i j a a1 h => ⟨⟨RCD.ops k _ _ _ _ _ h, RCD.sh k _ _ _ _ _ h⟩, RCD.lt _ _ _ _ _ _ h⟩) (m + 1) q i j a a1 h
    obtain ⟨vs, i2, a', h1, h2, h3, h4, h5, h6, h7⟩ := h
    subst h1
    have inv := hi (by omega)
    have lt := RCD.lt _ _ _ _ _ _ h6
    have le := RCS.le (RCD.lt k) _ _ _ _ _ _ h7
    obtain ⟨r1, T1, c1, c2, c3⟩ := wrg_case cx ih h2 h3 h4 h5 h6 hs st hn (inv.fst (by omega) (by omega)) (fun y y1 y2 => hp y y1 (by omega))
    have nq : nd T1 q 9 := c2.1.nd (st.1.nd h2)
    have opi : OPS b i i2 := fun x x1 x2 => by
      obtain ⟨o1, o2, o3⟩ := ops x x1 (by omega)
      refine ⟨fun e => ?_, o2, o3⟩
      obtain ⟨m', e', c', f1, f2, f3, f4⟩ := o1 e
      refine ⟨m', e', c', f1, f2, ?_, f4⟩
      by_cases ex : x < i + 1 + vs.length
      · by_cases ex0 : x = i
        · subst ex0
          have pf := h5.sh (k := 0)
          have := f1.uq ⟨e, h5.2.2.2.1, h5.2.2.1, pf, k + 2, RCD.sh _ _ _ _ _ _ h6⟩
          omega
        · have := (h5.2.2.2.2.2.1 (x - (i + 1)) (by omega)).2.2.2.2.1
          rw [show i + 1 + (x - (i + 1)) = x by omega, e] at this
          exact absurd this (by decide)
      · obtain ⟨m2, e2, c2', g1, g2, g3, -⟩ := (RCD.ops k _ _ _ _ _ h6 x (by omega) x2).1 e
        have := f1.uq g1
        omega
    by_cases e : r1 = -1
    · subst e
      have gd := c3.good (fun y y1 y2 => hp y y1 (by omega))
      obtain ⟨r, K', d1, d2, d3⟩ := wrg_cs (p1 := p1) cx ih m (K0.2.2.1 q 6) i2 j a' a1 T1 nn sc h7 (by omega) (st.mv c2) hn (fun hm => inv.snd opi (by omega) (by omega)) (fun y y1 y2 => hp y (by omega) y2)
      refine ⟨r, K', lp80 (c1.mono (by omega)) (by have := h2.1; omega) nq (fun _ => ?_) (fun e => absurd rfl e), c2.trans d2, WRES.join gd d3 (by omega)⟩
      rw [c2.1.2.1, st.1.2.1]; exact d1
    · exact ⟨r1, T1, lp80 (c1.mono (by omega)) (by have := h2.1; omega) nq (fun e' => absurd e' e) (fun _ => ⟨rfl, rfl⟩), c2, c3.ext e (by omega)⟩
theorem RCC_CHN {k : Nat} : ∀ (m q i j a a1 : Nat), RCC (RCD K0 b rf k) K0 m q i j a a1 → CHN (fun q i j => start ≤ i → ∃ a a1, RCD K0 b rf k q i j a a1) K0 m q i j
  | 0, _, _, _, _, _, h => ⟨h.1, h.2.1⟩
  | m + 1, q, i, j, a, a1, h => by
    obtain ⟨i', a', h1, h2⟩ := h
    exact ⟨h1.nd, i', fun _ => ⟨_, _, h1⟩, RCC_CHN m _ _ _ _ _ h2⟩
end CPIY
