/-! ===== valueOf ===== -/
def RTW (R : Nat → Nat → Nat → Prop) : List Nat → Nat → Nat → Prop
  | [], i, j => i = j
  | r :: ws, i, j => r < 2 ^ 31 ∧ ∃ i', R i i' r ∧ RTW R ws i' j
theorem RTW_mv {R R' : Nat → Nat → Nat → Prop} (hR : ∀ i j r, R i j r → R' i j r) : ∀ (ws : List Nat) (i j : Nat), RTW R ws i j → RTW R' ws i j
  | [], _, _, h => h
  | r :: ws, i, j, h => by
    obtain ⟨h1, i', h2, h3⟩ := h
    exact ⟨h1, i', hR i i' r h2, RTW_mv hR ws i' j h3⟩
theorem RTW_L {R : Nat → Nat → Nat → Prop} {g : Nat → Int32} : ∀ (ws : List Nat) (i j t : Nat), (∀ x (h : x < ws.length), g (t + x) = nI ws[x]) → RTW R ws i j → RTL R g ws.length i j t
  | [], _, _, _, _, h => h
  | r :: ws, i, j, t, hg, h => by
    obtain ⟨h1, i', h2, h3⟩ := h
    refine ⟨i', r, h1, hg 0 (by simp), h2, RTW_L ws i' j (t + 1) (fun x hx => ?_) h3⟩
    have := hg (x + 1) (by simpa using hx)
    simp only [List.getElem_cons_succ] at this
    rw [← this]; congr 1; omega
section CPVO
variable {start lev : Nat} {en eh : Nat → Nat → Prop}
abbrev J11 (o : Option Value) (S' : cp_S) (start lev top : Nat) (y : Int32) (S : cp_S) : Prop := JJ 2 m_M_valueOf o S' 11 [(1, .int (nI start)), (2, .int (nI lev)), (3, .int (nI top)), (4, .int y)] S
/-- the pile takes a value -/
theorem vo208 {o : Option Value} {S S' : cp_S} {top i : Nat} {x : Int32} (ht : top < 110) (w : J11 o S' start lev (top + 1) (nI i - 1) (S.1, va_up S.2 57 (upd (S.2 57) top x))) : JJ 2 m_M_valueOf o S' 208 [(1, .int (nI start)), (2, .int (nI lev)), (3, .int (nI top)), (4, .int (nI i)), (5, .int x)] S := by
  refine b_M_valueOf_208 ⟨vp_in_nI (show top < 110 by omega) (by decide), ?_⟩
  rw [nI_clamp (by omega), nI_1, show nI i + (-1) = nI i - 1 from (Int32.sub_eq_add_neg _ _).symm]
  exact w
/-- cells are filled from the pile -/
theorem vo162 {top i v m nc : Nat} {ws : List Nat} (hws : ws.length = m) (hi : i < 2720) (ht : top + m ≤ 110) (hnc : nc + m < 6000) (hm : m ≤ 6) : ∀ (b c : Nat) (S : cp_S), c + b = m → S.2 41 i = nI m → S.1 40 = nI (nc + c) → (∀ t (h : t < ws.length), S.2 57 (top + m - 1 - t) = nI ws[t]) →
    ∃ S1 : cp_S, S1.1 40 = nI (nc + m) ∧ (∀ k, k ≠ 40 → S1.1 k = S.1 k) ∧ (∀ p, p ≠ 56 → S1.2 p = S.2 p) ∧ (∀ t, t < nc + c → S1.2 56 t = S.2 56 t) ∧ (∀ t (h : t < ws.length), c ≤ t → S1.2 56 (nc + t) = nI ws[t]) ∧
      (∀ (o : Option Value) (S' : cp_S), JJ 2 m_M_valueOf o S' 208 [(1, .int (nI start)), (2, .int (nI lev)), (3, .int (nI top)), (4, .int (nI i)), (5, .int (nI v))] S1 → JJ 2 m_M_valueOf o S' 162 [(1, .int (nI start)), (2, .int (nI lev)), (3, .int (nI (top + m - c))), (4, .int (nI i)), (5, .int (nI v)), (6, .int (nI c))] S)
  | 0, c, S, e, h41, h40, hp => by
    have : c = m := by omega
    subst this
    refine ⟨S, h40, fun _ _ => rfl, fun _ _ => rfl, fun _ _ => rfl, fun t h1 h2 => by omega, fun o S' w => ?_⟩
    refine b_M_valueOf_162 ⟨vp_in_nI (show i < 2720 by omega) (by decide), fun _ => ?_, fun hn => absurd ?_ hn⟩
    · rw [Nat.add_sub_cancel]; exact w
    · rw [nI_clamp (by omega), h41]; exact nI_le (Nat.le_refl _) (by omega)
  | b + 1, c, S, e, h41, h40, hp => by
    have hc : c < ws.length := by omega
    have hp0 := hp c hc
    obtain ⟨S1, g1, g2, g3, g4, g5, g6⟩ := vo162 (v := v) hws hi ht hnc hm b (c + 1) (va_up S.1 40 (S.1 40 + 1), va_up S.2 56 (upd (S.2 56) (nc + c) (nI ws[c]))) (by omega) (by simp only [cp_up_ne (show (41 : Nat) ≠ 56 by decide)]; exact h41) (by simp only [va_up_at]; rw [h40, nI_1]; rfl) (fun t h => by simp only [cp_up_ne (show (57 : Nat) ≠ 56 by decide)]; exact hp t h)
    refine ⟨S1, g1, fun k hk => (g2 k hk).trans (cp_up_ne hk), fun p hpp => (g3 p hpp).trans (cp_up_ne hpp), fun t ht => ?_, fun t h1 h2 => ?_, fun o S' w => ?_⟩
    · rw [g4 t (by omega)]
      simp only [va_up_at]
      rw [pk_un (by omega)]
    · by_cases htc : t = c
      · subst htc
        rw [g4 (nc + t) (by omega)]
        simp only [va_up_at]
        rw [pk_us]
      · exact g5 t h1 (by omega)
    · obtain ⟨x, hx⟩ : ∃ x, top + m - c = x + 1 := ⟨top + m - c - 1, by omega⟩
      refine b_M_valueOf_162 ⟨vp_in_nI (show i < 2720 by omega) (by decide), fun hn => absurd hn ?_, fun _ => ?_⟩
      · rw [nI_clamp (by omega), h41]; exact nI_ge (by omega) (by omega)
      · rw [hx, pk_m1, nI_clamp (show x < 2 ^ 31 by omega), h40, nI_clamp (show nc + c < 2 ^ 31 by omega), nI_1, nI_1]
        refine ⟨vp_in_nI (show x < 110 by omega) (by decide), vp_in_nI (show nc + c < 6000 by omega) (by decide), ?_⟩
        have := g6 o S' w
        rw [h40, nI_1, show top + m - (c + 1) = x by omega] at this
        rw [show x = top + m - 1 - c by omega, hp0]
        rw [show x = top + m - 1 - c by omega] at this
        exact this
theorem valSubs {k : Nat} (ih : ∀ (i j : Nat) (S : cp_S) (nv nc top : Nat), TS S.2 k i j → start ≤ i → j ≤ 2720 → S.1 35 = nI nv → S.1 40 = nI nc → nv + (j - i) < 6000 → nc + (j - i) < 6000 → top + (j - i) ≤ 110 → RH S lev en eh i j → ∃ (r : Nat) (S1 : cp_S) (nv1 nc1 : Nat), VRP S S1 nv nc nv1 nc1 (j - i) (j - i - 1) top ∧ r < 2 ^ 31 ∧ S1.2 57 top = nI r ∧ RT S1.2 S1.2 nv1 nc1 en eh k i j r ∧ ∀ o S', J11 o S' start lev (top + 1) (nI i - 1) S1 → J11 o S' start lev top (nI j - 1) S) :
    ∀ (m i j : Nat) (S : cp_S) (nv nc top : Nat), SHL (TS S.2 k) m i j → start ≤ i → j ≤ 2720 → S.1 35 = nI nv → S.1 40 = nI nc → nv + (j - i) < 6000 → nc + (j - i) < 6000 → top + (j - i) ≤ 110 → RH S lev en eh i j → ∃ (ws : List Nat) (S1 : cp_S) (nv1 nc1 : Nat), ws.length = m ∧ VRP S S1 nv nc nv1 nc1 (j - i) (j - i - m) top ∧ (∀ t (h : t < ws.length), S1.2 57 (top + m - 1 - t) = nI ws[t]) ∧ RTW (RT S1.2 S1.2 nv1 nc1 en eh k) ws i j ∧ ∀ o S', J11 o S' start lev (top + m) (nI i - 1) S1 → J11 o S' start lev top (nI j - 1) S
  | 0, i, j, S, nv, nc, top, h, hs, hj, h35, h40, hnv, hnc, ht, hR => by
    have e : i = j := h
    subst e
    exact ⟨[], S, nv, nc, rfl, ⟨h35, h40, h35, h40, Nat.le_refl _, by omega, Nat.le_refl _, by omega, fun _ _ _ => rfl, fun _ _ => rfl, fun _ _ _ _ _ => rfl, fun _ _ => rfl, fun _ _ => rfl⟩, fun t h => absurd h (by simp), rfl, fun o S' w => w⟩
  | m + 1, i, j, S, nv, nc, top, h, hs, hj, h35, h40, hnv, hnc, ht, hR => by
    obtain ⟨i', h1, h2⟩ := h
    have lt1 := SH_lt _ _ _ (TS.sh _ _ _ h1)
    have lt2 := SHL_le (fun _ _ hh => SH_lt _ _ _ (TS.sh _ _ _ hh)) m i' j h2
    obtain ⟨ws, S1, nv1, nc1, a1, a2, a3, a4, a5⟩ := valSubs ih m i' j S nv nc top h2 (by omega) hj h35 h40 (by omega) (by omega) (by omega) (hR.sub (by omega) (Nat.le_refl _))
    obtain ⟨v1, v2, v3, v4, v5, v6, v7, v8, v9, v10, v11, v12, v13⟩ := id a2
    have e39 := v10 39 (by omega)
    have e40 := v10 40 (by omega)
    have e41 := v10 41 (by omega)
    obtain ⟨r, S2, nv2, nc2, b1, b2, b3, b4, b5⟩ := ih i i' S1 nv1 nc1 (top + m) (TS.mv e39 e40 e41 k i i' h1) hs (by omega) v3 v4 (by omega) (by omega) (by omega) ((hR.sub (Nat.le_refl _) (by omega)).mv e39 e40 (v10 43 (by omega)) (v10 63 (by omega)) (v9 20 (by omega) (by omega)))
    obtain ⟨w1, w2, w3, w4, w5, w6, w7, w8, w9, w10, w11, w12, w13⟩ := id b1
    refine ⟨r :: ws, S2, nv2, nc2, by rw [List.length_cons, a1], ?_, fun t h => ?_, ⟨b2, i', b4, ?_⟩, fun o S' w => ?_⟩
    · have := a2.trans b1 (by omega)
      rw [show j - i' + (i' - i) = j - i by omega, show j - i' - m + (i' - i - 1) = j - i - (m + 1) by omega] at this
      exact this
    · cases t with
      | zero =>
        simp only [List.getElem_cons_zero]
        rw [show top + (m + 1) - 1 - 0 = top + m by omega]
        exact b3
      | succ t =>
        simp only [List.getElem_cons_succ]
        rw [List.length_cons] at h
        rw [show top + (m + 1) - 1 - (t + 1) = top + m - 1 - t by omega, w13 _ (by omega)]
        exact a3 t (by omega)
    · exact RTW_mv (fun i j r => RT.mv (w10 39 (by omega)) (w10 40 (by omega)) (w10 41 (by omega)) w11 w12 w5 w7 (fun _ _ x => x) (fun _ _ x => x) k i j r) ws i' j a4
    · exact a5 o S' (b5 o S' (by rw [show top + m + 1 = top + (m + 1) by omega]; exact w))
theorem valSub (hlev : lev ≤ 9) : ∀ (k i j : Nat) (S : cp_S) (nv nc top : Nat), TS S.2 k i j → start ≤ i → j ≤ 2720 → S.1 35 = nI nv → S.1 40 = nI nc → nv + (j - i) < 6000 → nc + (j - i) < 6000 → top + (j - i) ≤ 110 → RH S lev en eh i j → ∃ (r : Nat) (S1 : cp_S) (nv1 nc1 : Nat), VRP S S1 nv nc nv1 nc1 (j - i) (j - i - 1) top ∧ r < 2 ^ 31 ∧ S1.2 57 top = nI r ∧ RT S1.2 S1.2 nv1 nc1 en eh k i j r ∧ ∀ o S', J11 o S' start lev (top + 1) (nI i - 1) S1 → J11 o S' start lev top (nI j - 1) S
  | 0, _, _, _, _, _, _, h, _, _, _, _, _, _, _, _ => h.elim
  | k + 1, i, j, S, nv, nc, top, h, hs, hj, h35, h40, hnv, hnc, ht, hR => by
    have hlt := SH_lt _ _ _ (TS.sh _ _ _ h)
    have v39 : vp_in (nI i) (cp_ml 39) := vp_in_nI (show i < 2720 by omega) (by decide)
    have v40 : vp_in (nI i) (cp_ml 40) := vp_in_nI (show i < 2720 by omega) (by decide)
    have ci : (nI i).toNatClampNeg = i := nI_clamp (by omega)
    have nst : ¬ nI i < nI start := nI_nlt (by omega) (by omega)
    -- a made leaf
    have mk : ∀ (x y : Int32) (o : Option Value) (S' : cp_S), J11 o S' start lev (top + 1) (nI i - 1) (va_up S.1 35 (nI (nv + 1)), va_up (va_up (va_up (va_up (va_up S.2 52 (upd (S.2 52) nv x)) 53 (upd (S.2 53) nv y)) 54 (upd (S.2 54) nv (S.1 40))) 55 (upd (S.2 55) nv 0)) 57 (upd (S.2 57) top (nI nv))) → JJ 2 m_M_valueOf o S' 208 [(1, .int (nI start)), (2, .int (nI lev)), (3, .int (nI top)), (4, .int (nI i)), (5, .int (nI nv))] (va_up S.1 35 (nI (nv + 1)), va_up (va_up (va_up (va_up S.2 52 (upd (S.2 52) nv x)) 53 (upd (S.2 53) nv y)) 54 (upd (S.2 54) nv (S.1 40))) 55 (upd (S.2 55) nv 0)) := by
      intro x y o S' w
      refine vo208 (by omega) ?_
      simp only [cp_up_ne (show (57 : Nat) ≠ 55 by decide), cp_up_ne (show (57 : Nat) ≠ 54 by decide), cp_up_ne (show (57 : Nat) ≠ 53 by decide), cp_up_ne (show (57 : Nat) ≠ 52 by decide)]
      exact w
    have mkP : ∀ (x y : Int32), VRP S (va_up S.1 35 (nI (nv + 1)), va_up (va_up (va_up (va_up (va_up S.2 52 (upd (S.2 52) nv x)) 53 (upd (S.2 53) nv y)) 54 (upd (S.2 54) nv (S.1 40))) 55 (upd (S.2 55) nv 0)) 57 (upd (S.2 57) top (nI nv))) nv nc (nv + 1) nc (j - i) (j - i - 1) top := by
      intro x y
      refine ⟨h35, h40, by simp [va_up], by simp [va_up]; exact h40, by omega, by omega, Nat.le_refl _, by omega, fun k k1 k2 => cp_up_ne k1, fun p hp => ?_, fun p p1 p2 r hr => ?_, fun t ht => ?_, fun x hx => ?_⟩
      · simp only [cp_up_ne (show p ≠ 57 by omega), cp_up_ne (show p ≠ 55 by omega), cp_up_ne (show p ≠ 54 by omega), cp_up_ne (show p ≠ 53 by omega), cp_up_ne (show p ≠ 52 by omega)]
      · have hc : p = 52 ∨ p = 53 ∨ p = 54 ∨ p = 55 := by omega
        rcases hc with rfl | rfl | rfl | rfl <;> simp [va_up, pk_un (show r ≠ nv by omega)]
      · simp [va_up]
      · simp [va_up, pk_un (show x ≠ top by omega)]
    rcases h with ⟨h1, ⟨c, h2, h3⟩, h4⟩ | ⟨h1, h4⟩ | ⟨h1, h4⟩ | ⟨h1, h4⟩ | ⟨h1, ⟨c, h2, h3⟩, m, h4, h5, h6⟩
    · -- a variable
      subst h4
      obtain ⟨r, r1, r2, r3⟩ := hR.1 i c (Nat.le_refl _) hlt h1 h3 h2
      refine ⟨r, (S.1, va_up S.2 57 (upd (S.2 57) top (nI r))), nv, nc, ⟨h35, h40, h35, h40, Nat.le_refl _, by omega, Nat.le_refl _, by omega, fun _ _ _ => rfl, fun p hp => cp_up_ne (by omega), fun p p1 p2 x hx => by dsimp only; rw [cp_up_ne (by omega)], fun t ht => by dsimp only; rw [cp_up_ne (by decide)], fun x hx => by dsimp only; rw [va_up_at, pk_un (by omega)]⟩, r1, by simp only [va_up_at, pk_us], Or.inl ⟨?_, rfl, c, h2, ?_, r3⟩, fun o S' w => ?_⟩
      · dsimp only; rw [cp_up_ne (by decide)]; exact h1
      · dsimp only; rw [cp_up_ne (by decide)]; exact h3
      · rw [nI_pred]
        refine b_M_valueOf_11 ⟨fun hn => absurd hn nst, fun _ => ?_⟩
        rw [ci, h3, show (26 : Int32) = nI 26 from rfl, pk_mul, nI_add, nI_clamp (show 26 * lev + c < 2 ^ 31 by omega), r2]
        exact ⟨v39, fun hn => absurd h1 hn, fun _ => ⟨v40, vp_in_nI (show 26 * lev + c < 260 by omega) (by decide), vo208 (by omega) w⟩⟩
    · subst h4
      refine ⟨nv, _, nv + 1, nc, mkP 0 (S.2 40 i), by omega, by simp only [va_up_at, pk_us], Or.inr (Or.inr ⟨by omega, Or.inl ⟨?_, rfl, ?_, ?_, ?_⟩⟩), fun o S' w => ?_⟩
      · simp [va_up]; exact h1
      · simp [va_up, pk_us]
      · simp [va_up, pk_us]
      · simp [va_up, pk_us]
      · rw [nI_pred]
        refine b_M_valueOf_11 ⟨fun hn => absurd hn nst, fun _ => ?_⟩
        rw [ci, h1]
        exact ⟨v39, fun _ => ⟨v39, fun _ => ⟨v39, fun hn => absurd rfl hn, fun _ => ⟨v40, nI nv, _, MC_value h35 (by omega), mk 0 (S.2 40 i) o S' w⟩⟩, fun hn => absurd hn (by decide)⟩, fun hn => absurd hn (by decide)⟩
    · subst h4
      refine ⟨nv, _, nv + 1, nc, mkP 1 0, by omega, by simp only [va_up_at, pk_us], Or.inr (Or.inr ⟨by omega, Or.inr (Or.inl ⟨?_, rfl, ?_, ?_, ?_⟩)⟩), fun o S' w => ?_⟩
      · simp [va_up]; exact h1
      · simp [va_up, pk_us]
      · simp [va_up, pk_us]
      · simp [va_up, pk_us]
      · rw [nI_pred]
        refine b_M_valueOf_11 ⟨fun hn => absurd hn nst, fun _ => ?_⟩
        rw [ci, h1]
        exact ⟨v39, fun _ => ⟨v39, fun _ => ⟨v39, fun _ => ⟨v39, fun hn => absurd rfl hn, fun _ => ⟨nI nv, _, MC_value h35 (by omega), mk 1 0 o S' w⟩⟩, fun hn => absurd hn (by decide)⟩, fun hn => absurd hn (by decide)⟩, fun hn => absurd hn (by decide)⟩
    · -- a hole
      subst h4
      obtain ⟨rf, r, r1, r2, r3, r4, r5, r6⟩ := hR.2 i (Nat.le_refl _) hlt h1
      refine ⟨r, (S.1, va_up S.2 57 (upd (S.2 57) top (nI r))), nv, nc, ⟨h35, h40, h35, h40, Nat.le_refl _, by omega, Nat.le_refl _, by omega, fun _ _ _ => rfl, fun p hp => cp_up_ne (by omega), fun p p1 p2 x hx => by dsimp only; rw [cp_up_ne (by omega)], fun t ht => by dsimp only; rw [cp_up_ne (by decide)], fun x hx => by dsimp only; rw [va_up_at, pk_un (by omega)]⟩, r5, by simp only [va_up_at, pk_us], Or.inr (Or.inl ⟨?_, rfl, r6⟩), fun o S' w => ?_⟩
      · dsimp only; rw [cp_up_ne (by decide)]; exact h1
      · rw [nI_pred]
        refine b_M_valueOf_11 ⟨fun hn => absurd hn nst, fun _ => ?_⟩
        rw [ci, h1, r1, pk_sub r2, nI_clamp (show i - rf < 2 ^ 31 by omega), r4]
        exact ⟨v39, fun _ => ⟨v39, fun hn => absurd rfl hn, fun _ => ⟨vp_in_nI (show i - rf < 82 by omega) (by decide), vo208 (by omega) w⟩⟩, fun hn => absurd hn (by decide)⟩
    · -- a letter
      have lt2 := SHL_le (fun _ _ hh => SH_lt _ _ _ (TS.sh _ _ _ hh)) m (i + 1) j h6
      obtain ⟨ws, S1, nv1, nc1, a1, a2, a3, a4, a5⟩ := valSubs (valSub hlev k) m (i + 1) j S nv nc top h6 (by omega) hj h35 h40 (by omega) (by omega) (by omega) (hR.sub (by omega) (Nat.le_refl _))
      obtain ⟨v1, v2, v3, v4, v5, v6, v7, v8, v9, v10, v11, v12, v13⟩ := id a2
      have e39 := v10 39 (by omega)
      have e40 := v10 40 (by omega)
      have e41 := v10 41 (by omega)
      -- the new value
      have hT := MC_value (x := 3) (y := S1.2 40 i) v3 (show nv1 < 6000 by omega)
      obtain ⟨T, hTe⟩ : ∃ T : cp_S, T = (va_up S1.1 35 (nI (nv1 + 1)), va_up (va_up (va_up (va_up (va_up S1.2 52 (upd (S1.2 52) nv1 3)) 53 (upd (S1.2 53) nv1 (S1.2 40 i))) 54 (upd (S1.2 54) nv1 (S1.1 40))) 55 (upd (S1.2 55) nv1 0)) 55 (upd (upd (S1.2 55) nv1 0) nv1 (S1.2 41 i))) := ⟨_, rfl⟩
      have t41 : T.2 41 i = nI m := by rw [hTe]; simp [va_up]; rw [e41]; exact h5
      have t40 : T.1 40 = nI (nc1 + 0) := by rw [hTe]; simp [va_up]; exact v4
      have t57 : ∀ t (h : t < ws.length), T.2 57 (top + m - 1 - t) = nI ws[t] := fun t h => by rw [hTe]; simp [va_up]; exact a3 t h
      obtain ⟨S2, g1, g2, g3, g4, g5, g6⟩ := vo162 (start := start) (lev := lev) (v := nv1) (nc := nc1) (top := top) (i := i) a1 (by omega) (by omega) (by omega) h4 m 0 T (by omega) t41 t40 t57
      refine ⟨nv1, (S2.1, va_up S2.2 57 (upd (S2.2 57) top (nI nv1))), nv1 + 1, nc1 + m, ?_, by omega, by simp only [va_up_at, pk_us], ?_, ?_⟩
      · have p1 : S2.1 35 = nI (nv1 + 1) := by rw [g2 35 (by decide), hTe]; simp [va_up]
        refine ⟨h35, h40, p1, g1, by omega, by omega, by omega, by omega, fun k k1 k2 => ?_, fun p hp => ?_, fun p p1 p2 r hr => ?_, fun t ht => ?_, fun x hx => ?_⟩
        · rw [g2 k k2, hTe]
          show va_up S1.1 35 _ k = _
          rw [cp_up_ne k1]
          exact v9 k k1 k2
        · dsimp only
          rw [cp_up_ne (by omega), g3 p (by omega), hTe]
          simp only [cp_up_ne (show p ≠ 55 by omega), cp_up_ne (show p ≠ 54 by omega), cp_up_ne (show p ≠ 53 by omega), cp_up_ne (show p ≠ 52 by omega)]
          exact v10 p hp
        · dsimp only
          rw [cp_up_ne (by omega), g3 p (by omega), hTe, ← v11 p p1 p2 r hr]
          have hc : p = 52 ∨ p = 53 ∨ p = 54 ∨ p = 55 := by omega
          rcases hc with rfl | rfl | rfl | rfl <;> simp [va_up, pk_un (show r ≠ nv1 by omega)]
        · dsimp only
          rw [cp_up_ne (by decide), g4 t (by omega), hTe, ← v12 t ht]
          simp [va_up]
        · dsimp only
          rw [va_up_at, pk_un (by omega), g3 57 (by decide), hTe, ← v13 x hx]
          simp [va_up]
      · have q : ∀ p, p ≠ 56 → p ≠ 57 → va_up S2.2 57 (upd (S2.2 57) top (nI nv1)) p = T.2 p := fun p p1 p2 => by rw [cp_up_ne p2, g3 p p1]
        refine Or.inr (Or.inr ⟨by omega, Or.inr (Or.inr ⟨?_, m, nc1, h4, ?_, ?_, ?_, ?_, ?_, by omega, ?_⟩)⟩)
        · dsimp only
          rw [q 39 (by decide) (by decide), hTe]; simp [va_up]; rw [e39]; exact h1
        · dsimp only
          rw [q 52 (by decide) (by decide), hTe]; simp [va_up, pk_us]
        · dsimp only
          rw [q 53 (by decide) (by decide), q 40 (by decide) (by decide), hTe]; simp [va_up, pk_us]
        · dsimp only
          rw [q 41 (by decide) (by decide)]; exact t41
        · dsimp only
          rw [q 55 (by decide) (by decide), hTe]; simp [va_up, pk_us]; rw [e41]; exact h5
        · dsimp only
          rw [q 54 (by decide) (by decide), hTe]; simp [va_up, pk_us]; exact v4
        · dsimp only
          rw [← a1, cp_up_ne (by decide)]
          refine RTW_L ws (i + 1) j nc1 (fun x hx => g5 x hx (by omega)) ?_
          refine RTW_mv (fun i' j' r' => RT.mv ?_ ?_ ?_ (fun p p1 p2 r hr => ?_) (fun t ht => ?_) (by omega) (by omega) (fun _ _ x => x) (fun _ _ x => x) k i' j' r') ws (i + 1) j a4
          · skip
            rw [q 39 (by decide) (by decide), hTe]; simp [va_up]
          · skip
            rw [q 40 (by decide) (by decide), hTe]; simp [va_up]
          · skip
            rw [q 41 (by decide) (by decide), hTe]; simp [va_up]
          · skip
            rw [q p (by omega) (by omega), hTe]
            have hc : p = 52 ∨ p = 53 ∨ p = 54 ∨ p = 55 := by omega
            rcases hc with rfl | rfl | rfl | rfl <;> simp [va_up, pk_un (show r ≠ nv1 by omega)]
          · skip
            rw [cp_up_ne (by decide), g4 t (by omega), hTe]
            simp [va_up]
      · intro o S' w
        refine a5 o S' ?_
        rw [nI_pred]
        refine b_M_valueOf_11 ⟨fun hn => absurd hn nst, fun _ => ?_⟩
        rw [ci, e39, h1]
        refine ⟨v39, fun _ => ⟨v39, fun _ => ⟨v39, fun _ => ⟨v39, fun _ => ⟨v40, nI nv1, _, hT, vp_in_nI (show i < 2720 by omega) (by decide), vp_in_nI (show nv1 < 6000 by omega) (by decide), ?_⟩, fun hn => absurd hn (by decide)⟩, fun hn => absurd hn (by decide)⟩, fun hn => absurd hn (by decide)⟩, fun hn => absurd hn (by decide)⟩
        have w2 := g6 o S' (vo208 (by omega) w)
        rw [hTe, Nat.sub_zero] at w2
        rw [nI_clamp (show nv1 < 2 ^ 31 by omega)]
        simp only [va_up_at, cp_up_ne (show (41 : Nat) ≠ 55 by decide), cp_up_ne (show (41 : Nat) ≠ 54 by decide), cp_up_ne (show (41 : Nat) ≠ 53 by decide), cp_up_ne (show (41 : Nat) ≠ 52 by decide)]
        exact w2
end CPVO
