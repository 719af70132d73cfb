/-! ===== types: the reference begins, settles, goes on ===== -/
section CPBG
variable {S T : cp_S} {lev c m i : Nat}
/-- what 'begin' leaves -/
def BGN (S T : cp_S) (lev i nv nc F : Nat) : Prop := T.1 = S.1 ∧ (∀ p, p < 63 ∨ p = 64 ∨ 70 < p → T.2 p = S.2 p) ∧ (∀ x, x < 26 * lev → T.2 63 x = S.2 63 x) ∧ (∀ p, 65 ≤ p → p ≤ 70 → ∀ x, x ≠ lev → T.2 p x = S.2 p x) ∧ T.2 65 lev = nI i ∧ T.2 66 lev = nI 0 ∧ T.2 67 lev = nI (i + 1) ∧ T.2 68 lev = nI nv ∧ T.2 69 lev = nI nc ∧ T.2 70 lev = nI F
theorem bg_names {x1 x3 : Int32} (hl : lev ≤ 9) : ∀ (r t : Nat) (S : cp_S), t + r = 26 → ∃ T : cp_S, T.1 = S.1 ∧ (∀ p, p ≠ 63 → T.2 p = S.2 p) ∧ (∀ x, x < 26 * lev → T.2 63 x = S.2 63 x) ∧ JJ 1 m_M_begin (some (.int 1)) T 120 [(1, .int x1), (2, .int (nI lev)), (3, .int x3), (4, .int (nI t))] S
  | 0, t, S, ht => ⟨S, rfl, fun _ _ => rfl, fun _ _ => rfl, b_M_begin_120 ⟨fun _ => ⟨rfl, rfl, rfl⟩, fun hn => absurd (by rw [show t = 26 by omega]; decide) hn⟩⟩
  | r + 1, t, S, ht => by
    obtain ⟨T, t1, t2, t3, t4⟩ := bg_names (x1 := x1) (x3 := x3) hl r (t + 1) (S.1, va_up S.2 63 (upd (S.2 63) (26 * lev + t) (-1))) (by omega)
    refine ⟨T, t1, fun p hp => (t2 p hp).trans (cp_up_ne hp), fun x hx => ?_, b_M_begin_120 ⟨fun hn => absurd hn (nI_ge (a := t) (b := 26) (by omega) (by omega)), fun _ => ?_⟩⟩
    · rw [t3 x hx]
      show va_up S.2 63 (upd (S.2 63) (26 * lev + t) (-1)) 63 x = _
      rw [va_up_at, pk_un (by omega)]
    · rw [show (26 : Int32) = nI 26 from rfl, pk_mul, nI_add, nI_clamp (show 26 * lev + t < 2 ^ 31 by omega), nI_1]
      exact ⟨vp_in_nI (show 26 * lev + t < 260 by omega) (by decide), t4⟩
/-- whether a letter has conditions -/
theorem MC_isCond {sp np : Nat} (hc : c < 26) (h33 : S.2 33 c = nI sp) (h34 : S.2 34 c = nI np) (hnp : sp + np ≤ 180) {some0 : Bool} : ∀ (r t : Nat) (bb : Bool), t + r = np → (bb = true ∨ (bb = false ∧ ∀ x, x < t → ¬ S.2 44 (sp + x) = 2)) → (some0 = true → bb = true ∨ ∃ x, t ≤ x ∧ x < np ∧ S.2 44 (sp + x) = 2) → (some0 = false → bb = false ∧ ∀ x, t ≤ x → x < np → ¬ S.2 44 (sp + x) = 2) → JJ 0 m_M_isConditioned (some (.int (if some0 then 1 else 0))) S 4 [(1, .int (nI c)), (2, .int (if bb then 1 else 0)), (3, .int (nI t))] S
  | 0, t, bb, ht, h1, h2, h3 => by
    have : some0 = bb := by
      cases some0 with
      | true =>
        rcases h2 rfl with q | ⟨x, q1, q2, -⟩
        · exact q.symm
        · omega
      | false => exact (h3 rfl).1.symm
    subst this
    refine b_M_isConditioned_4 ?_
    unfold wp_M_isConditioned_4
    rw [nI_clamp (show c < 2 ^ 31 by omega), h34]
    exact ⟨vp_in_nI (show c < 26 by omega) (by decide), fun _ => ⟨rfl, rfl, by cases some0 <;> rfl⟩, fun hn => absurd (nI_le (by omega) (by omega)) hn⟩
  | r + 1, t, bb, ht, h1, h2, h3 => by
    refine b_M_isConditioned_4 ?_
    unfold wp_M_isConditioned_4
    rw [nI_clamp (show c < 2 ^ 31 by omega), h34, h33, nI_add, nI_clamp (show sp + t < 2 ^ 31 by omega), nI_1]
    have vc : vp_in (nI c) (cp_ml 34) := vp_in_nI (show c < 26 by omega) (by decide)
    have go1 : some0 = true → JJ 0 m_M_isConditioned (some (.int (if some0 then 1 else 0))) S 35 [(1, .int (nI c)), (2, .int (if bb then 1 else 0)), (3, .int (nI t))] S := fun hs => by
      refine b_M_isConditioned_35 ?_
      unfold wp_M_isConditioned_35
      rw [nI_1]
      exact MC_isCond hc h33 h34 hnp r (t + 1) true (by omega) (Or.inl rfl) (fun _ => Or.inl rfl) (fun q => by rw [hs] at q; cases q)
    refine ⟨vc, fun hn => absurd hn (nI_ge (by omega) (by omega)), fun _ => ⟨fun hb => ?_, fun hb => ?_⟩⟩
    · cases bb with
      | false => exact absurd rfl hb
      | true => exact go1 (by cases some0 with | true => rfl | false => exact absurd (h3 rfl).1 (by decide))
    · cases bb with
      | true => exact absurd hb (by decide)
      | false =>
        refine ⟨vc, vp_in_nI (show sp + t < 180 by omega) (by decide), fun h44 => ?_, fun h44 => ?_⟩
        · refine MC_isCond hc h33 h34 hnp r (t + 1) false (by omega) (Or.inr ⟨rfl, fun x hx => ?_⟩) (fun hs => ?_) (fun hs => ⟨rfl, fun x x1 x2 => (h3 hs).2 x (by omega) x2⟩)
          · by_cases hxt : x = t
            · rw [hxt]; exact h44
            · rcases h1 with q | q
              · cases q
              · exact q.2 x (by omega)
          · rcases h2 hs with q | ⟨x, q1, q2, q3⟩
            · cases q
            · refine Or.inr ⟨x, ?_, q2, q3⟩
              by_cases hxt : x = t
              · rw [hxt] at q3; exact absurd q3 h44
              · omega
        · refine go1 ?_
          cases some0 with
          | true => rfl
          | false => exact absurd h44 ((h3 rfl).2 t (by omega) (by omega))
theorem MC_begin_ok {nv nc F sp np : Nat} (hi : i < 2720) (hl : lev ≤ 9) (h40 : S.2 40 i = nI c) (hc : c < 26) (h41 : S.2 41 i = nI m) (h30 : S.2 30 c = 1) (h31 : S.2 31 c = nI m) (h33 : S.2 33 c = nI sp) (h34 : S.2 34 c = nI np) (hnp : sp + np ≤ 180) (hd : S.1 58 = 0 ∨ ∀ x, x < np → ¬ S.2 44 (sp + x) = 2) (s35 : S.1 35 = nI nv) (s40 : S.1 40 = nI nc) (s42 : S.1 42 = nI F) : ∃ T, BGN S T lev i nv nc F ∧ MC 1 m_M_begin [.int (nI i), .int (nI lev)] S (some (.int 1)) T := by
  have vi : vp_in (nI i) (cp_ml 40) := vp_in_nI (show i < 2720 by omega) (by decide)
  have vc : vp_in (nI c) (cp_ml 30) := vp_in_nI (show c < 26 by omega) (by decide)
  have vl : vp_in (nI lev) (cp_ml 65) := vp_in_nI (show lev < 10 by omega) (by decide)
  obtain ⟨T, t1, t2, t3, t4⟩ := bg_names (lev := lev) (x1 := nI i) (x3 := nI c) hl 26 0 (S.1, (va_up (va_up (va_up (va_up (va_up (va_up S.2 65 (upd (S.2 65) lev (nI i))) 66 (upd (S.2 66) lev 0)) 67 (upd (S.2 67) lev (nI (i + 1)))) 68 (upd (S.2 68) lev (nI nv))) 69 (upd (S.2 69) lev (nI nc))) 70 (upd (S.2 70) lev (nI F)))) (by omega)
  have g64 : JJ 1 m_M_begin (some (.int 1)) T 64 [(1, .int (nI i)), (2, .int (nI lev)), (3, .int (nI c))] S := by
    refine b_M_begin_64 ?_
    unfold wp_M_begin_64
    rw [nI_clamp (show lev < 2 ^ 31 by omega), nI_1, s35, s40, s42]
    exact ⟨vl, vl, vl, vl, vl, vl, t4⟩
  refine ⟨T, ⟨t1, fun p hp => ?_, fun x hx => ?_, fun p p1 p2 x hx => ?_, ?_, ?_, ?_, ?_, ?_, ?_⟩, c_M_begin (b_M_begin_0 ?_)⟩
  · rw [t2 p (by omega)]
    simp only [cp_up_ne (show p ≠ 70 by omega), cp_up_ne (show p ≠ 69 by omega), cp_up_ne (show p ≠ 68 by omega), cp_up_ne (show p ≠ 67 by omega), cp_up_ne (show p ≠ 66 by omega), cp_up_ne (show p ≠ 65 by omega)]
  · rw [t3 x hx]
    simp only [cp_up_ne (show (63 : Nat) ≠ 70 by decide), cp_up_ne (show (63 : Nat) ≠ 69 by decide), cp_up_ne (show (63 : Nat) ≠ 68 by decide), cp_up_ne (show (63 : Nat) ≠ 67 by decide), cp_up_ne (show (63 : Nat) ≠ 66 by decide), cp_up_ne (show (63 : Nat) ≠ 65 by decide)]
  · rw [t2 p (by omega)]
    have hp : p = 65 ∨ p = 66 ∨ p = 67 ∨ p = 68 ∨ p = 69 ∨ p = 70 := by omega
    rcases hp with rfl | rfl | rfl | rfl | rfl | rfl <;> simp [va_up, pk_un hx]
  · rw [t2 65 (by decide)]; simp [va_up, pk_us]
  · rw [t2 66 (by decide)]; simp [va_up, pk_us]; rfl
  · rw [t2 67 (by decide)]; simp [va_up, pk_us]
  · rw [t2 68 (by decide)]; simp [va_up, pk_us]
  · rw [t2 69 (by decide)]; simp [va_up, pk_us]
  · rw [t2 70 (by decide)]; simp [va_up, pk_us]
  · unfold wp_M_begin_0
    rw [nI_clamp (show i < 2 ^ 31 by omega), h40, nI_clamp (show c < 2 ^ 31 by omega), h30, h31, h41]
    refine ⟨vi, vc, fun hn => absurd rfl hn, fun _ => ⟨vc, vi, fun hn => absurd rfl hn, fun _ => ⟨fun _ => g64, fun h58 => ?_⟩⟩⟩
    have hno := hd.resolve_left h58
    exact ⟨_, S, c_M_isConditioned (b_M_isConditioned_0 (MC_isCond (some0 := false) hc h33 h34 hnp np 0 false (by omega) (Or.inr ⟨rfl, fun x hx => by omega⟩) (fun q => by cases q) (fun _ => ⟨rfl, fun x _ x2 => hno x x2⟩))), fun _ => g64, fun hn => absurd rfl hn⟩
theorem MC_begin_bad {rf : Nat} {y : Int32} (hi : i < 2720) (h40 : S.2 40 i = nI c) (hc : c < 26) (h20 : S.1 20 = nI rf) (hrf : rf ≤ i) (hrf2 : i - rf < 82) (hy : S.2 42 (i - rf) = y) (hbad : ¬ S.2 30 c = 1 ∨ ¬ S.2 31 c = S.2 41 i ∨ (¬ S.1 58 = 0 ∧ ∃ sp np, S.2 33 c = nI sp ∧ S.2 34 c = nI np ∧ sp + np ≤ 180 ∧ ∃ x, x < np ∧ S.2 44 (sp + x) = 2)) : MC 1 m_M_begin [.int (nI i), .int (nI lev)] S (some (.int 0)) (va_up S.1 59 y, S.2) := by
  have vi : vp_in (nI i) (cp_ml 40) := vp_in_nI (show i < 2720 by omega) (by decide)
  have vc : vp_in (nI c) (cp_ml 30) := vp_in_nI (show c < 26 by omega) (by decide)
  have g47 : JJ 1 m_M_begin (some (.int 0)) (va_up S.1 59 y, S.2) 47 [(1, .int (nI i)), (2, .int (nI lev)), (3, .int (nI c))] S := by
    refine b_M_begin_47 ?_
    unfold wp_M_begin_47
    rw [h20, pk_sub hrf, nI_clamp (show i - rf < 2 ^ 31 by omega), hy]
    exact ⟨vp_in_nI (show i - rf < 82 by omega) (by decide), rfl, rfl, rfl⟩
  refine c_M_begin (b_M_begin_0 ?_)
  unfold wp_M_begin_0
  rw [nI_clamp (show i < 2 ^ 31 by omega), h40, nI_clamp (show c < 2 ^ 31 by omega)]
  refine ⟨vi, vc, fun _ => g47, fun h1 => ⟨vc, vi, fun _ => g47, fun h2 => ⟨fun h58 => ?_, fun h58 => ?_⟩⟩⟩
  · rcases hbad with q | q | q
    · exact absurd h1 q
    · exact absurd h2 q
    · exact absurd h58 q.1
  · rcases hbad with q | q | ⟨-, sp, np, q1, q2, q3, x, q4, q5⟩
    · exact absurd h1 q
    · exact absurd h2 q
    · exact ⟨_, S, c_M_isConditioned (b_M_isConditioned_0 (MC_isCond (some0 := true) hc q1 q2 q3 np 0 false (by omega) (Or.inr ⟨rfl, fun x hx => by omega⟩) (fun _ => Or.inr ⟨x, by omega, q4, q5⟩) (fun q => by cases q))), fun hn => absurd hn (by decide), fun _ => g47⟩
end CPBG
