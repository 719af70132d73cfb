/-! ===== the reference's walk through two values ===== -/
def ws2 (b : Nat → Int32) : Nat → Nat → Nat → List (Int32 × Int32)
  | _, _, 0 => []
  | t, t', n + 1 => (b t, b t') :: ws2 b (t + 1) (t' + 1) n
def PP (a : Nat → Nat → Int32) : Nat → List (Int32 × Int32) → Prop
  | 0, L => L = []
  | d + 1, L => ∃ r r' m t t' k L', r < 6000 ∧ r' < 6000 ∧ a 58 d = nI r ∧ a 59 d = nI r' ∧ a 60 d = nI k ∧ a 55 r = nI m ∧ (0 < m → (a 54 r = nI t ∧ t + m ≤ 6000) ∧ a 54 r' = nI t' ∧ t' + m ≤ 6000) ∧ k ≤ m ∧ m ≤ 6 ∧ L = ws2 (a 56) (t + k) (t' + k) (m - k) ++ L' ∧ PP a d L'
theorem PP_congr {a b : Nat → Nat → Int32} (e4 : b 54 = a 54) (e5 : b 55 = a 55) (e6 : b 56 = a 56) : ∀ (d : Nat) (L : List (Int32 × Int32)), (∀ i, i < d → b 58 i = a 58 i ∧ b 59 i = a 59 i ∧ b 60 i = a 60 i) → PP a d L → PP b d L
  | 0, _, _, h => h
  | d + 1, L, he, h => by
    obtain ⟨r, r', m, t, t', k, L', h1, h1', h2, h2', h3, h4, h5, h6, h7, h8, h9⟩ := h
    exact ⟨r, r', m, t, t', k, L', h1, h1', by rw [(he d (by omega)).1]; exact h2, by rw [(he d (by omega)).2.1]; exact h2', by rw [(he d (by omega)).2.2]; exact h3, by rw [e5]; exact h4, by rw [e4]; exact h5, h6, h7, by rw [e6]; exact h8, PP_congr e4 e5 e6 d L' (fun i hi => he i (by omega)) h9⟩
def FP (S S' : cp_S) : Prop := S'.1 = S.1 ∧ ∀ p, p ≠ 58 → p ≠ 59 → p ≠ 60 → S'.2 p = S.2 p
theorem FP.refl {S : cp_S} : FP S S := ⟨rfl, fun _ _ _ _ => rfl⟩
theorem FP.trans {S S1 S2 : cp_S} (h : FP S S1) (g : FP S1 S2) : FP S S2 := ⟨g.1.trans h.1, fun p h1 h2 h3 => (g.2 p h1 h2 h3).trans (h.2 p h1 h2 h3)⟩
theorem nxt {S : cp_S} {x : Int32} : ∀ (d : Nat) (L : List (Int32 × Int32)), PP S.2 d L → d ≤ 1000 →
    (L = [] → JJ 1 m_M_nextPair (some (.int 0)) S 2 [(1, .int x), (2, .int (nI d))] S) ∧
    (∀ r r' L' s s', L = (r, r') :: L' → (∀ T : cp_S, T.2 52 = S.2 52 → T.2 53 = S.2 53 → MC 0 m_M_seen [.int r] T (some (.int s)) T) → (∀ T : cp_S, T.2 52 = S.2 52 → T.2 53 = S.2 53 → MC 0 m_M_seen [.int r'] T (some (.int s')) T) → ∃ e S', e ≤ d ∧ JJ 1 m_M_nextPair (some (.int (nI (e + 1)))) S' 2 [(1, .int x), (2, .int (nI d))] S ∧ FP S S' ∧ S'.2 58 e = s ∧ S'.2 59 e = s' ∧ S'.2 60 e = 0 ∧ PP S'.2 e L')
  | 0, L, h, hd => by
    refine ⟨fun _ => b_M_nextPair_2 ⟨fun _ => b_M_nextPair_36 ⟨fun hn => absurd rfl hn, fun _ => ⟨rfl, rfl⟩⟩, fun hn => absurd (by decide) hn⟩, fun r r' L' s s' e => ?_⟩
    rw [show L = [] from h] at e
    cases e
  | d + 1, L, h, hd => by
    obtain ⟨r0, r1, m, t, t', k, L0, h1, h1', h2, h2', h3, h4, h5, h6, h7, h8, h9⟩ := h
    have hx : ¬ nI (d + 1) ≤ 0 := nI_nle (by omega) (by omega)
    have ex : nI (d + 1) - 1 = nI d := nI_pred d
    have ed : (nI d).toNatClampNeg = d := nI_clamp (by omega)
    have er : (nI r0).toNatClampNeg = r0 := nI_clamp (by omega)
    have er1 : (nI r1).toNatClampNeg = r1 := nI_clamp (by omega)
    have b0 : vp_in (nI d) (cp_ml 60) := vp_in_nI (show d < 1001 by omega) (by decide)
    have b1 : vp_in (nI d) (cp_ml 58) := vp_in_nI (show d < 1001 by omega) (by decide)
    have b2 : vp_in (nI d) (cp_ml 59) := vp_in_nI (show d < 1001 by omega) (by decide)
    have b3 : vp_in (nI r0) (cp_ml 55) := vp_in_nI (show r0 < 6000 by omega) (by decide)
    by_cases hk : k = m
    · subst hk
      rw [Nat.sub_self] at h8
      have h8' : L = L0 := h8
      subst h8'
      obtain ⟨i1, i2⟩ := nxt (x := x) d L h9 (by omega)
      have go : ∀ (o : Option Value) (S' : cp_S), JJ 1 m_M_nextPair o S' 2 [(1, .int x), (2, .int (nI d))] S → JJ 1 m_M_nextPair o S' 2 [(1, .int x), (2, .int (nI (d + 1)))] S := by
        intro o S' w
        refine b_M_nextPair_2 ⟨fun hn => absurd hn hx, fun _ => ?_⟩
        rw [ex, ed, h2, er, h3, h4]
        refine ⟨b0, b1, b3, fun hn => absurd rfl hn, fun _ => ?_⟩
        rw [pk_m1]
        exact w
      refine ⟨fun e => go _ _ (i1 e), fun r r' L' s s' e q3 q4 => ?_⟩
      obtain ⟨e0, S', g1, g2, g3⟩ := i2 r r' L' s s' e q3 q4
      exact ⟨e0, S', by omega, go _ _ g2, g3⟩
    · obtain ⟨n1, hn1⟩ : ∃ n1, m - k = n1 + 1 := ⟨m - k - 1, by omega⟩
      rw [hn1] at h8
      have h8' : L = (S.2 56 (t + k), S.2 56 (t' + k)) :: (ws2 (S.2 56) (t + k + 1) (t' + k + 1) n1 ++ L0) := h8
      obtain ⟨⟨h51, h52⟩, h53, h54⟩ := h5 (by omega)
      refine ⟨fun e => absurd (h8'.symm.trans e) (by simp), fun r r' L' s s' e q3 q4 => ?_⟩
      rw [h8'] at e
      obtain ⟨e1, e2⟩ := List.cons.inj e
      have hc1 : S.2 56 (t + k) = r := congrArg Prod.fst e1
      have hc2 : S.2 56 (t' + k) = r' := congrArg Prod.snd e1
      have etk : nI t + nI k = nI (t + k) := nI_add t k
      have etk2 : (nI (t + k)).toNatClampNeg = t + k := nI_clamp (by omega)
      have etk' : nI t' + nI k = nI (t' + k) := nI_add t' k
      have etk2' : (nI (t' + k)).toNatClampNeg = t' + k := nI_clamp (by omega)
      have ed1 : (nI (d + 1)).toNatClampNeg = d + 1 := nI_clamp (by omega)
      have n58 : ∀ p : Nat, p ≠ 58 → p ≠ 59 → p ≠ 60 → ∀ u1 u2 u3 u4 : Nat → Int32, va_up (va_up (va_up (va_up S.2 60 u1) 58 u2) 59 u3) 60 u4 p = S.2 p := fun p p1 p2 p3 u1 u2 u3 u4 => by rw [cp_up_ne p3, cp_up_ne p2, cp_up_ne p1, cp_up_ne p3]
      refine ⟨d + 1, (S.1, va_up (va_up (va_up (va_up S.2 60 (upd (S.2 60) d (nI (k + 1)))) 58 (upd (S.2 58) (d + 1) s)) 59 (upd (S.2 59) (d + 1) s')) 60 (upd (upd (S.2 60) d (nI (k + 1))) (d + 1) 0)), Nat.le_refl _, ?_, ⟨rfl, fun p p1 p2 p3 => n58 p p1 p2 p3 _ _ _ _⟩, ?_, ?_, ?_, ?_⟩
      · refine b_M_nextPair_2 ⟨fun hn => absurd hn hx, fun _ => ?_⟩
        rw [ex, ed, h2, er, h3, h4]
        refine ⟨b0, b1, b3, fun _ => ?_, fun hn => absurd ((nI_eq (by omega) (by omega)).mp hn) hk⟩
        refine b_M_nextPair_36 ⟨fun _ => ?_, fun hn => absurd hn (nI_ne0 (by omega) (by omega))⟩
        rw [ex, ed, h2, er, h3, h51, etk, etk2, hc1, ed1, nI_1]
        refine ⟨b0, b0, b0, b1, vp_in_nI (show r0 < 6000 by omega) (by decide), vp_in_nI (show t + k < 6000 by omega) (by decide), s, _, q3 _ ?_ ?_, ?_⟩
        · simp only [cp_up_ne (show (52 : Nat) ≠ 60 by decide)]
        · simp only [cp_up_ne (show (53 : Nat) ≠ 60 by decide)]
        simp only [cp_up_ne (show (59 : Nat) ≠ 60 by decide), cp_up_ne (show (54 : Nat) ≠ 60 by decide), cp_up_ne (show (56 : Nat) ≠ 60 by decide), cp_up_ne (show (58 : Nat) ≠ 60 by decide), h2', er1, h53, etk', etk2', hc2]
        refine ⟨vp_in_nI (show d + 1 < 1001 by omega) (by decide), b2, vp_in_nI (show r1 < 6000 by omega) (by decide), vp_in_nI (show t' + k < 6000 by omega) (by decide), s', _, q4 _ ?_ ?_, vp_in_nI (show d + 1 < 1001 by omega) (by decide), vp_in_nI (show d + 1 < 1001 by omega) (by decide), by rw [nI_1], ?_⟩
        · simp only [cp_up_ne (show (52 : Nat) ≠ 60 by decide), cp_up_ne (show (52 : Nat) ≠ 58 by decide)]
        · simp only [cp_up_ne (show (53 : Nat) ≠ 60 by decide), cp_up_ne (show (53 : Nat) ≠ 58 by decide)]
        · simp only [cp_up_ne (show (59 : Nat) ≠ 60 by decide), cp_up_ne (show (59 : Nat) ≠ 58 by decide), cp_up_ne (show (60 : Nat) ≠ 58 by decide), va_up_at]
      · simp only [cp_up_ne (show (58 : Nat) ≠ 60 by decide), cp_up_ne (show (58 : Nat) ≠ 59 by decide), va_up_at, pk_us]
      · simp only [cp_up_ne (show (59 : Nat) ≠ 60 by decide), va_up_at, pk_us]
      · simp only [va_up_at, pk_us]
      · refine ⟨r0, r1, m, t, t', k + 1, L0, h1, h1', ?_, ?_, ?_, ?_, ?_, by omega, h7, ?_, ?_⟩
        · simp only [cp_up_ne (show (58 : Nat) ≠ 60 by decide), cp_up_ne (show (58 : Nat) ≠ 59 by decide), va_up_at]
          rw [pk_un (by omega)]
          exact h2
        · simp only [cp_up_ne (show (59 : Nat) ≠ 60 by decide), va_up_at]
          rw [pk_un (by omega)]
          exact h2'
        · simp only [va_up_at]
          rw [pk_un (by omega), pk_us]
        · dsimp only
          rw [n58 55 (by decide) (by decide) (by decide)]; exact h4
        · intro _
          dsimp only
          rw [n58 54 (by decide) (by decide) (by decide)]
          exact ⟨⟨h51, h52⟩, h53, h54⟩
        · dsimp only
          rw [← e2, n58 56 (by decide) (by decide) (by decide), show m - (k + 1) = n1 by omega, Nat.add_assoc, Nat.add_assoc]
        · refine PP_congr (n58 54 (by decide) (by decide) (by decide) _ _ _ _) (n58 55 (by decide) (by decide) (by decide) _ _ _ _) (n58 56 (by decide) (by decide) (by decide) _ _ _ _) d L0 (fun i hi => ⟨?_, ?_, ?_⟩) h9
          · simp only [cp_up_ne (show (58 : Nat) ≠ 60 by decide), cp_up_ne (show (58 : Nat) ≠ 59 by decide), va_up_at]
            rw [pk_un (by omega)]
          · simp only [cp_up_ne (show (59 : Nat) ≠ 60 by decide), va_up_at]
            rw [pk_un (by omega)]
          · simp only [va_up_at]
            rw [pk_un (by omega), pk_un (by omega)]
