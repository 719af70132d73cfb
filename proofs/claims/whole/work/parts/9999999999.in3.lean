/-! ===== programs are looked at: all codes; what is right can be run ===== -/
section CPIZ
variable {b : Nat → Nat → Int32} {ar : Nat → Nat} {l n start rf pe : Nat} {K0 : cp_K}
theorem RCC_CHN2 {k : Nat} : ∀ (m q i j a a1 : Nat), start ≤ i → RCC (RCD K0 b rf k) K0 m q i j a a1 → CHN (fun q i j => start ≤ i ∧ ∃ a a1, RCD K0 b rf k q i j a a1) K0 m q i j
  | 0, _, _, _, _, _, _, h => ⟨h.1, h.2.1⟩
  | m + 1, q, i, j, a, a1, hs, h => by
    obtain ⟨i', a', h1, h2⟩ := h
    have lt := RCD.lt _ _ _ _ _ _ h1
    exact ⟨h1.nd, i', ⟨hs, _, _, h1⟩, RCC_CHN2 m _ _ _ _ _ (by omega) h2⟩
theorem wrg_all (cx : ICX K0 b ar l n pe) : ∀ k, WIK K0 b l n start rf pe k
  | 0 => fun q i j K nn sc h _ _ _ _ _ => by obtain ⟨a, a1, h⟩ := h; exact h.elim
  | k + 1 => fun q i j K nn sc h hs st hn inv hp => by
    have ih := wrg_all cx k
    obtain ⟨a, a1, h⟩ := h
    have ops0 := RCD.ops _ _ _ _ _ _ h
    have lt := RCD.lt _ _ _ _ _ _ h
    obtain ⟨nq, -, hpl, h⟩ := h
    obtain ⟨kf, hB, hnm⟩ := id st
    have nqK : nd K q 9 := kf.nd nq
    have e10 : 10 + 3 * (k + 1) = 5 + 3 * k + 8 := by omega
    have s0 : K.2.1 q 0 = K0.2.1 q 0 := by rw [kf.1]
    have f4 : K.2.2.1 q 4 = K0.2.2.1 q 4 := by rw [kf.2.1]
    have to75 : ∀ (r : Int32) (K' : cp_K), JC (5 + 3 * k + 8) m_I_wrongIn (fun _ => .inl (some (.int r))) K' 80 (LW3 q pe (K0.2.2.1 q 4)) (fun _ => []) K → JC (5 + 3 * k + 8) m_I_wrongIn (fun _ => .inl (some (.int r))) K' 75 (fun G => [(0, .ref (cp_b G + 25)), (1, va_rf (kr G q)), (2, va_rf (kr G pe))]) (fun _ => []) K := fun r K' w => b_I_wrongIn_75 (D := 5 + 3 * k) ⟨nqK, by rw [f4]; exact w⟩
    have to52 : ∀ (r : Int32) (K' : cp_K), ¬ K0.2.1 q 0 = 6 → JC (5 + 3 * k + 8) m_I_wrongIn (fun _ => .inl (some (.int r))) K' 80 (LW3 q pe (K0.2.2.1 q 4)) (fun _ => []) K → JC (5 + 3 * k + 8) m_I_wrongIn (fun _ => .inl (some (.int r))) K' 52 (fun G => [(0, .ref (cp_b G + 25)), (1, va_rf (kr G q)), (2, va_rf (kr G pe))]) (fun _ => []) K := fun r K' h6 w => b_I_wrongIn_52 (D := 5 + 3 * k) ⟨nqK, fun _ => to75 r K' w, fun e => absurd (by rw [← s0]; exact e) h6⟩
    have top : ∀ (r : Int32) (K' : cp_K), ¬ K0.2.1 q 0 = 10 → ¬ K0.2.1 q 0 = 5 → JC (5 + 3 * k + 8) m_I_wrongIn (fun _ => .inl (some (.int r))) K' 52 (fun G => [(0, .ref (cp_b G + 25)), (1, va_rf (kr G q)), (2, va_rf (kr G pe))]) (fun _ => []) K → KWI (10 + 3 * (k + 1)) q pe K r K' := fun r K' h10 h5 w => by
      rw [e10]
      exact c_I_wrongIn (D := 5 + 3 * k) ⟨nqK, fun _ => ⟨fun _ => w, fun e => absurd (by rw [← s0]; exact e) h5⟩, fun e => absurd (by rw [← s0]; exact e) h10⟩
    have none : K0.2.2.1 q 4 = 0 → JC (5 + 3 * k + 8) m_I_wrongIn (fun _ => .inl (some (.int (-1)))) K 80 (LW3 q pe (K0.2.2.1 q 4)) (fun _ => []) K := fun e => by
      rw [e]
      exact b_I_wrongIn_80 (D := 5 + 3 * k) ⟨fun _ => ⟨rfl, rfl⟩, fun e => absurd rfl e⟩
    have op1 : ¬ b 39 i = 13 → OPS b i (i + 1) := fun e => OPS.one e (ops0 i (Nat.le_refl _) lt.1).2.1 (ops0 i (Nat.le_refl _) lt.1).2.2
    have chr : ∀ m, CHN (fun q i j => start ≤ i ∧ ∃ a a1, RCD K0 b rf k q i j a a1) K0 m (K0.2.2.1 q 4) (i + 1) j → ¬ b 39 i = 13 → GDX b l n start i → ∃ r K', JC (5 + 3 * k + 8) m_I_wrongIn (fun _ => .inl (some (.int r))) K' 80 (LW3 q pe (K0.2.2.1 q 4)) (fun _ => []) K ∧ IPO K K' nn ∧ WRES b l n start rf i j r := fun m hc h13 hg => by
      have lej : 0 < m → i + 1 < j := fun hm => by
        have := SHL_le (R := fun i j => i < j) (fun _ _ h => h) m (i + 1) j (CHN_SHL (fun q i j h => by obtain ⟨-, a, a1, h⟩ := h; exact (RCD.lt _ _ _ _ _ _ h).1) _ _ _ _ hc)
        omega
      obtain ⟨r, K', u1, u2, u3⟩ := wrg_ch (l := l) (k := k) (D := 5 + 3 * k) (p1 := q) (pe := pe) (fun q i j h => by obtain ⟨-, a, a1, h⟩ := h; exact (RCD.lt _ _ _ _ _ _ h).1) (fun q i j h => by obtain ⟨-, a, a1, h⟩ := h; exact RCD.ops _ _ _ _ _ _ h) (fun q i j K nn sc h st hn inv hp => by
        obtain ⟨r, K', v1, v2, v3⟩ := ih q i j K nn sc h.2 h.1 st hn inv hp
        exact ⟨r, K', v1.mono (by omega), v2, v3⟩) m _ _ _ K nn sc hc st (by omega) (fun hm => inv.snd (op1 h13) (by omega) (lej hm)) (fun y y1 y2 => hp y (by omega) y2)
      exact ⟨r, K', u1, u2, WRES.join (fun x x1 x2 => by rw [show x = i by omega]; exact hg) u3 (by omega)⟩
    rcases h with ⟨h1, h2, ⟨c, c1, c2, c3⟩, h3, h4⟩ | ⟨h1, h2, -, h3, h4⟩ | ⟨h1, h2, h3, h4⟩ | ⟨h1, h2, c, m, c1, c2, c3, c4, c5, c6, h3⟩ | ⟨h1, h2, -⟩ | ⟨h1, h2, m, i1, x, m1, m2, h3, h4, h5⟩ | ⟨h1, h2, ⟨i1, h3, h4⟩, -⟩
    · -- a variable
      subst h3
      have bd := inv.bnd c1 c3
      have gx : GDX b l n start i ↔ sc c := ⟨fun h => bd.mp (h.1 h2), fun h => ⟨fun _ => bd.mpr h, fun q => by rw [h2] at q; exact absurd q (by decide), fun q => by rw [h2] at q; exact absurd q (by decide)⟩⟩
      have i1 : K.2.1 q 1 = nI (97 + c) := by rw [kf.1]; exact c2
      have s5 : K.2.1 q 0 = 5 := by rw [s0]; exact h1
      have s15 : rsz K 15 = nn := hB.1
      have var : ∀ (r4 : Int32) (r : Int32) (K' : cp_K), KC 6 m_B_indexOf (fun G => [.ref (cp_b G + 14), .int (nI (97 + c)), .int (nI 0), .int (nI nn)]) K (fun _ => some (.int r4)) K → (¬ r4 = -1 → r = -1 ∧ K' = K) → (r4 = -1 → r = K0.2.1 q 2 ∧ K' = K) → KWI (10 + 3 * (k + 1)) q pe K r K' := fun r4 r K' u1 u2 u3 => by
        rw [e10]
        refine c_I_wrongIn (D := 5 + 3 * k) ⟨nqK, fun _ => ⟨fun e => absurd s5 e, fun _ => ⟨r4, K, ?_, fun e => ?_, fun e => ⟨nqK, ?_⟩⟩⟩, fun e => absurd (e.symm.trans s5) (by decide)⟩
        · rw [i1, s15]; exact u1.mono (by omega)
        · obtain ⟨e1, e2⟩ := u2 e
          rw [e1, e2]
          exact to52 (-1) K (by rw [h1]; decide) (none h4)
        · obtain ⟨e1, e2⟩ := u3 e
          rw [e1, e2, kf.1]; exact ⟨rfl, rfl⟩
      by_cases hg : sc c
      · obtain ⟨x, x1, x2⟩ := (hnm c c1).mp hg
        have hix : ∃ ix, IX K (nI (97 + c)) 0 nn ix := by
          have : ∀ d y, y + d = nn → (∃ z, z < nn ∧ y ≤ z ∧ rat K 15 z = nI (97 + c)) → ∃ ix, IX K (nI (97 + c)) 0 nn ix := by
            intro d
            induction d with
            | zero => rintro y hy ⟨z, z1, z2, -⟩; omega
            | succ d ihd =>
              rintro y hy ⟨z, z1, z2, z3⟩
              by_cases hex : ∃ z, z < nn ∧ y + 1 ≤ z ∧ rat K 15 z = nI (97 + c)
              · exact ihd (y + 1) (by omega) hex
              · have : z = y := Classical.byContradiction (fun h => hex ⟨z, z1, by omega, z3⟩)
                subst this
                exact ⟨z, Nat.zero_le _, z1, z3, fun w w1 w2 w3 => hex ⟨w, w2, by omega, w3⟩⟩
          exact this nn 0 (by omega) ⟨x, x1, Nat.zero_le _, x2⟩
        obtain ⟨ix, hix⟩ := hix
        have := hix.2.1
        exact ⟨-1, K, var (nI ix) (-1) K (K_indexOf hix (by omega) (by omega)) (fun _ => ⟨rfl, rfl⟩) (fun e => absurd e (nI_m1 (by omega))), IPO.refl hB, WRES.one (gx.mpr hg)⟩
      · exact ⟨K0.2.1 q 2, K, var (-1) _ K (K_indexOf0 (by omega) (by omega) (by omega) (fun x _ x1 x2 => hg ((hnm c c1).mpr ⟨x, x1, x2⟩))) (fun e => absurd rfl e) (fun _ => ⟨rfl, rfl⟩), IPO.refl hB, WRES.bad (fun h => hg (gx.mp h)) (by omega) hpl⟩
    · subst h3
      exact ⟨-1, K, top (-1) K (by rw [h1]; decide) (by rw [h1]; decide) (to52 (-1) K (by rw [h1]; decide) (none h4)), IPO.refl hB, WRES.one (GDX_no h2 (by decide) (by decide) (by decide))⟩
    · subst h3
      exact ⟨-1, K, top (-1) K (by rw [h1]; decide) (by rw [h1]; decide) (to52 (-1) K (by rw [h1]; decide) (none h4)), IPO.refl hB, WRES.one (GDX_no h2 (by decide) (by decide) (by decide))⟩
    · -- a letter
      have s6 : K.2.1 q 0 = 6 := by rw [s0]; exact h1
      by_cases hg : GDX b l n start i
      · obtain ⟨r, K', u1, u2, u3⟩ := chr m (RCC_CHN2 m _ _ _ _ _ (by omega) h3) (by rw [h2]; decide) hg
        refine ⟨r, K', top r K' (by rw [h1]; decide) (by rw [h1]; decide) (b_I_wrongIn_52 (D := 5 + 3 * k) ⟨nqK, fun e => absurd s6 e, fun _ => ⟨1, K, (KC_may (g := true) cx kf nq c1 c2 c3 c5 h2 c4 c6 ⟨fun _ => hg, fun _ => rfl⟩).mono (by omega), fun _ => to75 r K' u1, fun e => absurd e (by decide)⟩⟩), u2, u3⟩
      · refine ⟨K0.2.1 q 2, K, top _ K (by rw [h1]; decide) (by rw [h1]; decide) (b_I_wrongIn_52 (D := 5 + 3 * k) ⟨nqK, fun e => absurd s6 e, fun _ => ⟨0, K, (KC_may (g := false) cx kf nq c1 c2 c3 c5 h2 c4 c6 ⟨fun h => absurd h (by decide), fun h => absurd h hg⟩).mono (by omega), fun e => absurd rfl e, fun _ => ⟨nqK, ?_⟩⟩⟩), IPO.refl hB, WRES.bad hg lt.1 hpl⟩
        rw [kf.1]; exact ⟨rfl, rfl⟩
    · -- + and -
      have hg : GDX b l n start i ∧ ¬ b 39 i = 13 := by
        rcases h1 with h1 | h1
        · exact ⟨GDX_no h1.2 (by decide) (by decide) (by decide), by rw [h1.2]; decide⟩
        · exact ⟨GDX_no h1.2 (by decide) (by decide) (by decide), by rw [h1.2]; decide⟩
      obtain ⟨r, K', u1, u2, u3⟩ := chr 2 (RCC_CHN2 2 _ _ _ _ _ (by omega) h2) hg.2 hg.1
      have hs0 : K0.2.1 q 0 = 7 ∨ K0.2.1 q 0 = 8 := by rcases h1 with h | h; exact Or.inl h.1; exact Or.inr h.1
      exact ⟨r, K', top r K' (by rcases hs0 with h | h <;> rw [h] <;> decide) (by rcases hs0 with h | h <;> rw [h] <;> decide) (to52 r K' (by rcases hs0 with h | h <;> rw [h] <;> decide) u1), u2, u3⟩
    · -- { }
      have lt1 := RCD.lt _ _ _ _ _ _ h4
      have le2 := RCS.le (RCD.lt k) _ _ _ _ _ _ h5
      have hg : GDX b l n start i := GDX_no h2 (by decide) (by decide) (by decide)
      have inv1 := inv.snd (op1 (by rw [h2]; decide)) (by omega) (show i + 1 < j by omega)
      obtain ⟨r1, T1, u1, u2, u3⟩ := ih (K0.2.2.1 q 4) (i + 1) i1 K nn sc ⟨_, _, h4⟩ (by omega) st (by omega) (inv1.fst (by omega) (by omega)) (fun y y1 y2 => hp y (by omega) (by omega))
      have nf : nd T1 (K0.2.2.1 q 4) 9 := u2.1.nd (kf.nd h4.nd)
      have nz : ¬ K0.2.2.1 q 4 = 0 := by have := h4.nd.1; omega
      have go : ∀ (r : Int32) (K' : cp_K), JC (5 + 3 * k + 8) m_I_wrongIn (fun _ => .inl (some (.int r))) K' 80 (LW3 q pe (K0.2.2.1 q 4)) (fun _ => []) K → KWI (10 + 3 * (k + 1)) q pe K r K' := fun r K' w => top r K' (by rw [h1]; decide) (by rw [h1]; decide) (to52 r K' (by rw [h1]; decide) w)
      by_cases e : r1 = -1
      · subst e
        have gd := u3.good (fun y y1 y2 => hp y (by omega) (by omega))
        obtain ⟨r, K', d1, d2, d3⟩ := wrg_cs (p1 := q) cx ih m _ i1 j x a1 T1 nn sc h5 (by omega) (st.mv u2) (by omega) (fun _ => inv1.snd (RCD.ops _ _ _ _ _ _ h4) (by omega) (by omega)) (fun y y1 y2 => hp y (by omega) y2)
        refine ⟨r, K', go r K' (lp80 (u1.mono (by omega)) nz nf (fun _ => ?_) (fun e => absurd rfl e)), u2.trans d2, WRES.join (fun x x1 x2 => ?_) d3 (by omega)⟩
        · rw [u2.1.2.1, kf.2.1]; exact d1
        · by_cases ex : x = i
          · rw [ex]; exact hg
          · exact gd x (by omega) x2
      · exact ⟨r1, T1, go r1 T1 (lp80 (u1.mono (by omega)) nz nf (fun e' => absurd e' e) (fun _ => ⟨rfl, rfl⟩)), u2, WRES.join (fun x x1 x2 => by rw [show x = i by omega]; exact hg) (u3.ext e (by omega)) (by omega)⟩
    · -- [ ]
      have lt1 := RCD.lt _ _ _ _ _ _ h3
      obtain ⟨r, K', u1, u2, u3⟩ := chr 4 ⟨h3.nd, i1, ⟨by omega, _, _, h3⟩, RCC_CHN2 3 _ _ _ _ _ (by omega) h4⟩ (by rw [h2]; decide) (GDX_no h2 (by decide) (by decide) (by decide))
      have hs0 : K0.2.1 q 0 = 11 ∨ K0.2.1 q 0 = 12 := by rcases h1 with h | h; exact Or.inl h.1; exact Or.inr h.1
      exact ⟨r, K', top r K' (by rcases hs0 with h | h <;> rw [h] <;> decide) (by rcases hs0 with h | h <;> rw [h] <;> decide) (to52 r K' (by rcases hs0 with h | h <;> rw [h] <;> decide) u1), u2, u3⟩
end CPIZ
/-! what is right can be run -/
theorem VCI_VCH {K : cp_K} {b : Nat → Nat → Int32} : ∀ (vs : List Nat) (q x q' : Nat), VCI K b vs q x → q' = (if vs.length = 0 then 0 else q) → VCH K b vs q' x
  | [], _, _, q', _, h => h
  | c :: vs, q, x, q', h, hq => by
    obtain ⟨h1, h2, h3, h4, h5, h6⟩ := h 0 (by simp)
    rw [Nat.add_zero] at h1 h3 h4 h5 h6
    have e : q' = q := by rw [hq, List.length_cons, if_neg (by omega)]
    subst e
    refine ⟨h1, h2, h3, h4, h5, VCI_VCH vs (q' + 1) (x + 1) _ (fun t ht => ?_) ?_⟩
    · obtain ⟨u1, u2, u3, u4, u5, u6⟩ := h (t + 1) (by rw [List.length_cons]; omega)
      rw [show q' + (t + 1) = q' + 1 + t by omega] at u1 u3 u6
      rw [show x + (t + 1) = x + 1 + t by omega] at u4 u5
      refine ⟨u1, u2, u3, u4, u5, ?_⟩
      rw [u6, List.length_cons]
      by_cases e : t + 1 = vs.length
      · rw [if_pos e, if_pos (by omega)]
      · rw [if_neg e, if_neg (by omega)]
    · rw [h6, List.length_cons]
      by_cases e : vs.length = 0
      · rw [if_pos e, if_pos (by omega)]
      · rw [if_neg e, if_neg (by omega)]
section CPRC
variable {b b' : Nat → Nat → Int32} {ar : Nat → Nat} {l n start rf : Nat} {K : cp_K}
/-- the dictionary with the new program -/
def NEWB (b b' : Nat → Nat → Int32) (ar : Nat → Nat) (l n : Nat) : Prop := (b' 39 = b 39 ∧ b' 40 = b 40 ∧ b' 41 = b 41) ∧ (b' 30 l = 2 ∧ b' 31 l = nI n) ∧ ∀ c, c < 26 → c ≠ l → (b' 30 c = b 30 c ∧ b' 31 c = b 31 c) ∧ (b 30 c = 0 ∨ (b 30 c = 1 ∧ b 31 c = nI (ar c) ∧ ar c ≤ 6) ∨ b 30 c = 2)
theorem VCH.bb (h9 : b' 39 = b 39) (h0 : b' 40 = b 40) : ∀ (vs : List Nat) (q x : Nat), VCH K b vs q x → VCH K b' vs q x
  | [], _, _, h => h
  | c :: vs, q, x, h => by
    obtain ⟨h1, h2, h3, h4, h5, h6⟩ := h
    exact ⟨h1, h2, h3, by rw [h0]; exact h4, by rw [h9]; exact h5, VCH.bb h9 h0 vs _ _ h6⟩
theorem RCD.cr (nb : NEWB b b' ar l n) (hl : b 30 l = 0) : ∀ (k q i j a a1 : Nat) (sc : Nat → Prop), RCD K b rf k q i j a a1 → start ≤ i → (∀ x, i ≤ x → x < j → GDX b l n start x) → INVS b n start i j sc → CR K b' ar k sc q i j
  | 0, _, _, _, _, _, _, h, _, _, _ => h.elim
  | k + 1, q, i, j, a, a1, sc, h, hs, hg, inv => by
    have ops0 := RCD.ops _ _ _ _ _ _ h
    have lt := RCD.lt _ _ _ _ _ _ h
    obtain ⟨nq, -, -, h⟩ := h
    obtain ⟨⟨e9, e0, e1⟩, ⟨el1, el2⟩, ed⟩ := id nb
    have ih := RCD.cr nb hl k
    have op1 : ¬ b 39 i = 13 → OPS b i (i + 1) := fun e => OPS.one e (ops0 i (Nat.le_refl _) lt.1).2.1 (ops0 i (Nat.le_refl _) lt.1).2.2
    have ch : ∀ (m q i' a a1 : Nat), RCC (RCD K b rf k) K m q i' j a a1 → i < i' → (0 < m → INVS b n start i' j sc) → CHN (CR K b' ar k sc) K m q i' j := fun m => by
      induction m with
      | zero => exact fun q i' a a1 h _ _ => ⟨h.1, h.2.1⟩
      | succ m ihm =>
        intro q i' a a1 h hi hv
        obtain ⟨i2, a2, h1, h2⟩ := h
        have l1 := RCD.lt _ _ _ _ _ _ h1
        have l2 := RCC.le (RCD.lt k) _ _ _ _ _ _ h2
        exact ⟨h1.nd, i2, ih _ _ _ _ _ sc h1 (by omega) (fun x x1 x2 => hg x (by omega) (by omega)) ((hv (by omega)).fst l1.1 (by omega)), ihm _ _ _ _ h2 (by omega) (fun hm => (hv (by omega)).snd (RCD.ops _ _ _ _ _ _ h1) (by omega) (by omega))⟩
    refine ⟨nq, ?_⟩
    rw [e9, e0, e1]
    rcases h with ⟨h1, h2, ⟨c, c1, c2, c3⟩, h3, h4⟩ | ⟨h1, h2, h5, h3, h4⟩ | ⟨h1, h2, h3, h4⟩ | ⟨h1, h2, c, m, c1, c2, c3, c4, c5, c6, h3⟩ | ⟨h1, h2, h3⟩ | ⟨h1, h2, m, i1, x, m1, m2, h3, h4, h5⟩ | ⟨h1, h2, ⟨i1, h3, h4⟩, h5⟩
    · subst h3
      exact Or.inl ⟨h1, h2, ⟨c, c1, c2, c3, (inv.bnd c1 c3).mp ((hg i (Nat.le_refl _) (by omega)).1 h2)⟩, rfl⟩
    · exact Or.inr (Or.inl ⟨h1, h2, h5, h3⟩)
    · exact Or.inr (Or.inr (Or.inl ⟨h1, h2, h3⟩))
    · have lc := RCC.le (RCD.lt k) _ _ _ _ _ _ h3
      refine Or.inr (Or.inr (Or.inr (Or.inl ⟨h1, h2, c, m, c1, c2, c3, c4, c5, c6, ?_, ch m _ _ _ _ h3 (by omega) (fun hm => inv.snd (op1 (by rw [h2]; decide)) (by omega) (by omega))⟩)))
      obtain ⟨g1, g2⟩ := (hg i (Nat.le_refl _) lt.1).2.2 h2 c c1 c4
      by_cases ecl : c = l
      · have := g1 ecl
        rw [ecl]
        exact Or.inr ⟨el1, by rw [el2, ← this, c6]⟩
      · obtain ⟨g3, g4⟩ := g2 ecl
        obtain ⟨⟨d1, d2⟩, d3⟩ := ed c c1 ecl
        rcases d3 with d3 | ⟨d3, d4, d5⟩ | d3
        · exact absurd d3 g3
        · refine Or.inl ⟨by rw [d1]; exact d3, ?_⟩
          rw [d4, c6] at g4
          exact ((nI_eq (by omega) (by omega)).mp g4).symm
        · exact Or.inr ⟨by rw [d1]; exact d3, by rw [d2, g4]; exact c6⟩
    · have lc := RCC.le (RCD.lt k) _ _ _ _ _ _ h2
      exact Or.inr (Or.inr (Or.inr (Or.inr (Or.inl ⟨h1, ch 2 _ _ _ _ h2 (by omega) (fun _ => inv.snd (op1 (by rcases h1 with h | h <;> rw [h.2] <;> decide)) (by omega) (by omega)), h3⟩))))
    · have lt1 := RCD.lt _ _ _ _ _ _ h4
      have le2 := RCS.le (RCD.lt k) _ _ _ _ _ _ h5
      have inv1 := inv.snd (op1 (by rw [h2]; decide)) (by omega) (show i + 1 < j by omega)
      refine Or.inr (Or.inr (Or.inr (Or.inr (Or.inr (Or.inl ⟨h1, h2, m, i1, m1, m2, h3, ih _ _ _ _ _ sc h4 (by omega) (fun x x1 x2 => hg x (by omega) (by omega)) (inv1.fst lt1.1 (by omega)), ?_⟩)))))
      have cs : ∀ (m q i' a a1 : Nat), RCS (RCD K b rf k) K b rf m q i' j a a1 → i < i' → (0 < m → INVS b n start i' j sc) → CSE (CR K b' ar k) K b' ar sc m q i' j := fun m => by
        induction m with
        | zero => exact fun q i' a a1 h _ _ => ⟨h.1, h.2.1⟩
        | succ m ihm =>
          intro q i' a a1 h hi hv
          obtain ⟨vs, i2, a', u1, u2, u3, u4, u5, u6, u7⟩ := h
          have l1 := RCD.lt _ _ _ _ _ _ u6
          have l2 := RCS.le (RCD.lt k) _ _ _ _ _ _ u7
          have invc := hv (by omega)
          have opi : OPS b i' i2 := fun x x1 x2 => by
            obtain ⟨o1, o2, o3⟩ := ops0 x (by omega) (by omega)
            refine ⟨fun e => ?_, o2, o3⟩
            obtain ⟨m', e', c', f1, f2, f3, f4⟩ := o1 e
            refine ⟨m', e', c', f1, f2, ?_, f4⟩
            by_cases ex : x < i' + 1 + vs.length
            · by_cases ex0 : x = i'
              · subst ex0
                have pf := u5.sh (k := 0)
                have := f1.uq ⟨e, u5.2.2.2.1, u5.2.2.1, pf, k + 2, RCD.sh _ _ _ _ _ _ u6⟩
                omega
              · have := (u5.2.2.2.2.2.1 (x - (i' + 1)) (by omega)).2.2.2.2.1
                rw [show i' + 1 + (x - (i' + 1)) = x by omega, e] at this
                exact absurd this (by decide)
            · obtain ⟨m2, e2, c2', g1, g2, g3, -⟩ := (RCD.ops k _ _ _ _ _ u6 x (by omega) x2).1 e
              have := f1.uq g1
              omega
          refine ⟨u2, by rw [u4]; exact u5.1, vs, i2, ?_, ih _ _ _ _ _ _ u6 (by omega) (fun x x1 x2 => hg x (by omega) (by omega)) ((invc.fst (by omega) (by omega)).case u5 (by omega) (RCD.sh _ _ _ _ _ _ u6) l1.1), ihm _ _ _ _ u7 (by omega) (fun hm => invc.snd opi (by omega) (by omega))⟩
          rw [u4]
          have gi := hg i' (by omega) (by omega)
          obtain ⟨-, -, t3, t4, -, t6, t7, t8⟩ := u5
          refine ⟨t3, by rw [e1]; exact t4, VCH.bb e9 e0 _ _ _ (VCI_VCH vs _ _ _ t6 t7), ?_⟩
          rw [e9, e0]
          rcases t8 with ⟨v1, v2, v3⟩ | ⟨v1, v2, v3, v4⟩ | ⟨v1, v2, c, v3, v4, v5⟩
          · exact Or.inl ⟨v1, v2, v3⟩
          · exact Or.inr (Or.inl ⟨v1, v2, v3, v4⟩)
          · refine Or.inr (Or.inr ⟨v1, v2, c, v3, v4, v5, ?_⟩)
            obtain ⟨g1, g2⟩ := gi.2.1 v2 c v3 v5
            have ncl : c ≠ l := fun h => by rw [h, hl] at g1; exact absurd g1 (by decide)
            rcases (ed c v3 ncl).2 with d3 | ⟨d3, d4, d5⟩ | d3
            · rw [g1] at d3; exact absurd d3 (by decide)
            · rw [d4, t4] at g2
              exact ((nI_eq (by omega) (by omega)).mp g2).symm
            · rw [g1] at d3; exact absurd d3 (by decide)
      exact cs m _ _ _ _ h5 (by omega) (fun _ => inv1.snd (RCD.ops _ _ _ _ _ _ h4) (by omega) (by omega))
    · have lt1 := RCD.lt _ _ _ _ _ _ h3
      have lc := RCC.le (RCD.lt k) _ _ _ _ _ _ h4
      have inv1 := inv.snd (op1 (by rw [h2]; decide)) (by omega) (show i + 1 < j by omega)
      exact Or.inr (Or.inr (Or.inr (Or.inr (Or.inr (Or.inr ⟨h1, h2, ⟨h3.nd, i1, ih _ _ _ _ _ sc h3 (by omega) (fun x x1 x2 => hg x (by omega) (by omega)) (inv1.fst lt1.1 (by omega)), ch 3 _ _ _ _ h4 (by omega) (fun _ => inv1.snd (RCD.ops _ _ _ _ _ _ h3) (by omega) (by omega))⟩, h5⟩)))))
end CPRC
