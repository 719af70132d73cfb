/-! ===== running: { }, both sides ===== -/
section CPMC
variable {e i s : Nat} {y : Int32}
theorem mb_loop {B ip tt i8 : Nat} {x3 x7 x9 : Int32} {vs : List Nat} (hm : vs.length ≤ 6) (hB : B + vs.length ≤ 620) (hip : ip + 1 + vs.length ≤ 2720) (hs : s < 6000) (b : Nat → Nat → Int32) (h41 : b 41 ip = nI vs.length) (h40 : ∀ x (h : x < vs.length), b 40 (ip + 1 + x) = nI vs[x]) (h54 : 0 < vs.length → b 54 s = nI tt ∧ tt + vs.length ≤ 6000) : ∀ (k t : Nat) (S : cp_S), t + k = vs.length → S.1 70 = nI (B + t) → (∀ p, p < 76 → S.2 p = b p) → ∃ T : cp_S, (∀ k, k ≠ 70 → T.1 k = S.1 k) ∧ T.1 70 = nI (B + vs.length) ∧ (∀ p, p < 76 ∨ 78 < p → T.2 p = S.2 p) ∧ (∀ p, 76 ≤ p → p ≤ 78 → ∀ x, x < B + t → T.2 p x = S.2 p x) ∧ (∀ x, t ≤ x → (h : x < vs.length) → T.2 76 (B + x) = nI vs[x] ∧ T.2 77 (B + x) = b 56 (tt + x) ∧ T.2 78 (B + x) = zf y B x) ∧ ∀ S', MC 0 m_M_enter [.int (nI i8), .int (zf y B vs.length)] T none S' → JJ 2 m_M_match none S' 210 [(1, .int (nI e)), (2, .int (nI i)), (3, .int x3), (4, .int (nI s)), (5, .int (zf y B t)), (6, .int (nI ip)), (7, .int x7), (8, .int (nI i8)), (9, .int x9), (10, .int (nI t))] S
  | 0, t, S, ht, h70, hlo => by
    have : t = vs.length := by omega
    subst this
    refine ⟨S, fun _ _ => rfl, h70, fun _ _ => rfl, fun _ _ _ _ _ => rfl, fun x x1 x2 => by omega, fun S' mm => b_M_match_210 ?_⟩
    unfold wp_M_match_210
    rw [nI_clamp (show ip < 2 ^ 31 by omega), hlo 41 (by omega), h41]
    exact ⟨vp_in_nI (show ip < 2720 by omega) (by decide), fun _ => ⟨S', mm, rfl, rfl⟩, fun hn => absurd (nI_le (by omega) (by omega)) hn⟩
  | k + 1, t, S, ht, h70, hlo => by
    have hlt : t < vs.length := by omega
    obtain ⟨g54, g54'⟩ := h54 (by omega)
    have blo : ∀ p, p < 76 ∨ 78 < p → (bnd S (B + t) (nI vs[t]) (b 56 (tt + t)) (zf y B t)).2 p = S.2 p := fun p hp => by
      unfold bnd
      simp only [cp_up_ne (show p ≠ 78 by omega), cp_up_ne (show p ≠ 77 by omega), cp_up_ne (show p ≠ 76 by omega)]
    obtain ⟨T, t1, t2, t3, t4, t5, t6⟩ := mb_loop (x3 := x3) (x7 := x7) (x9 := x9) (i8 := i8) hm hB hip hs b h41 h40 h54 k (t + 1) (bnd S (B + t) (nI vs[t]) (b 56 (tt + t)) (zf y B t)) (by omega) rfl (fun p hp => (blo p (by omega)).trans (hlo p hp))
    have b76 : ∀ x, (bnd S (B + t) (nI vs[t]) (b 56 (tt + t)) (zf y B t)).2 76 x = if x = B + t then nI vs[t] else S.2 76 x := fun x => by
      unfold bnd
      simp only [cp_up_ne (show (76 : Nat) ≠ 78 by decide), cp_up_ne (show (76 : Nat) ≠ 77 by decide), va_up_at]
      by_cases hx : x = B + t
      · rw [if_pos hx, hx, pk_us]
      · rw [if_neg hx, pk_un hx]
    have b77 : ∀ x, (bnd S (B + t) (nI vs[t]) (b 56 (tt + t)) (zf y B t)).2 77 x = if x = B + t then b 56 (tt + t) else S.2 77 x := fun x => by
      unfold bnd
      simp only [cp_up_ne (show (77 : Nat) ≠ 78 by decide), va_up_at, cp_up_ne (show (77 : Nat) ≠ 76 by decide)]
      by_cases hx : x = B + t
      · rw [if_pos hx, hx, pk_us]
      · rw [if_neg hx, pk_un hx]
    have b78 : ∀ x, (bnd S (B + t) (nI vs[t]) (b 56 (tt + t)) (zf y B t)).2 78 x = if x = B + t then zf y B t else S.2 78 x := fun x => by
      unfold bnd
      simp only [va_up_at, cp_up_ne (show (78 : Nat) ≠ 77 by decide), cp_up_ne (show (78 : Nat) ≠ 76 by decide)]
      by_cases hx : x = B + t
      · rw [if_pos hx, hx, pk_us]
      · rw [if_neg hx, pk_un hx]
    refine ⟨T, fun k hk => (t1 k hk).trans (by unfold bnd; exact cp_up_ne hk), t2, fun p hp => (t3 p hp).trans (blo p hp), fun p p1 p2 x hx => ?_, fun x x1 x2 => ?_, fun S' mm => b_M_match_210 ?_⟩
    · rw [t4 p p1 p2 x (by omega)]
      have hp : p = 76 ∨ p = 77 ∨ p = 78 := by omega
      rcases hp with rfl | rfl | rfl
      · rw [b76, if_neg (by omega)]
      · rw [b77, if_neg (by omega)]
      · rw [b78, if_neg (by omega)]
    · by_cases hx : x = t
      · subst hx
        rw [t4 76 (by omega) (by omega) _ (by omega), t4 77 (by omega) (by omega) _ (by omega), t4 78 (by omega) (by omega) _ (by omega), b76, b77, b78, if_pos rfl, if_pos rfl, if_pos rfl]
        exact ⟨rfl, rfl, rfl⟩
      · exact t5 x (by omega) x2
    · unfold wp_M_match_210
      rw [nI_clamp (show ip < 2 ^ 31 by omega), nI_clamp (show s < 2 ^ 31 by omega), nI_1, nI_add, hlo 41 (by omega), h41, hlo 54 (by omega), g54, nI_add, nI_clamp (show ip + 1 + t < 2 ^ 31 by omega), nI_clamp (show tt + t < 2 ^ 31 by omega), hlo 40 (by omega), hlo 56 (by omega), h40 t hlt, nI_1]
      refine ⟨vp_in_nI (show ip < 2720 by omega) (by decide), fun hn => absurd hn (nI_ge (by omega) (by omega)), fun _ => ⟨vp_in_nI (show ip + 1 + t < 2720 by omega) (by decide), vp_in_nI (show s < 6000 by omega) (by decide), vp_in_nI (show tt + t < 6000 by omega) (by decide), _, MC_bind h70 (by omega), ?_⟩⟩
      rw [show (bnd S (B + t) (nI vs[t]) (b 56 (tt + t)) (zf y B t)).1 70 - 1 = zf y B (t + 1) from nI_pred _]
      exact t6 S' mm
end CPMC
/-- the names of a pattern's variables lie over the others -/
theorem ENV_match {K K' : cp_K} {b b' : Nat → Nat → Int32} {B n frame : Nat} {vs : List Nat} {sc : Nat → Prop} {ρ : Nat → Nat → Prop} {y : Int32} (hE : ENV K b B frame y sc ρ) (hf : frame ≤ n) (hB : BS K n) (hB' : BS K' (n + vs.length)) (hr : ∀ q, q = 15 ∨ q = 17 ∨ q = 19 → ∀ z, z < n → rat K' q z = rat K q z) (hb : ∀ p, 76 ≤ p → p ≤ 78 → ∀ x, x < B → b' p x = b p x) (hk : ∀ x (h : x < vs.length), vs[x] < 26 ∧ rat K' 15 (n + x) = nI (97 + vs[x]) ∧ b' 76 (B + x) = nI vs[x] ∧ b' 78 (B + x) = zf y B x ∧ ∃ v r, rat K' 17 (n + x) = nI v ∧ v < 2 ^ 31 ∧ b' 77 (B + x) = nI r ∧ ρ v r) : ENV K' b' (B + vs.length) frame (zf y B vs.length) (fun c => sc c ∨ c ∈ vs) ρ := by
  have up : ∀ (c r d0 : Nat), c < 26 → (∃ nf X, zf y B d0 = nI X ∧ MN b' (B + vs.length) nf X c r) → (∀ z (hz : z < vs.length), d0 ≤ z → ¬ vs[z] = c) → ∀ d, d0 + d ≤ vs.length → ∃ nf X, zf y B (d0 + d) = nI X ∧ MN b' (B + vs.length) nf X c r := by
    intro c r d0 hc h0 hne d
    induction d with
    | zero => intro _; exact h0
    | succ d ih =>
      intro hd
      obtain ⟨nf, X, z1, z2⟩ := ih (by omega)
      obtain ⟨g0, g1, g2, g3, -⟩ := hk (d0 + d) (by omega)
      refine ⟨nf + 1, B + (d0 + d), rfl, by omega, Or.inr ⟨?_, X, by rw [g3, z1], z2⟩⟩
      rw [g2]
      intro e
      exact hne (d0 + d) (by omega) (by omega) ((nI_eq (by omega) (by omega)).mp e)
  intro c hc hm
  by_cases hv : c ∈ vs
  · obtain ⟨x, h1, h2, h3⟩ := last_of vs hv
    obtain ⟨g0, g1, g2, g3, v, r, g4, g5, g6, g7⟩ := hk x h1
    refine ⟨v, r, g5, ⟨n + x, ⟨by omega, by rw [hB'.1]; omega, by rw [g1, h2], fun j j1 j2 e => ?_⟩, g4⟩, ?_, g7⟩
    · rw [hB'.1] at j2
      obtain ⟨z, rfl⟩ : ∃ z, j = n + z := ⟨j - n, by omega⟩
      have hz : z < vs.length := by omega
      obtain ⟨z0, z1, -⟩ := hk z hz
      rw [z1] at e
      have := (nI_eq (by omega) (by omega)).mp e
      exact h3 z hz (by omega) (by omega)
    · obtain ⟨nf, X, z1, z2⟩ := up c r (x + 1) hc ⟨1, B + x, rfl, by omega, Or.inl ⟨by rw [g2, h2], g6⟩⟩ (fun z hz hx => h3 z hz (by omega)) (vs.length - (x + 1)) (by omega)
      rw [show x + 1 + (vs.length - (x + 1)) = vs.length by omega] at z1
      exact ⟨nf, X, z1, z2⟩
  · have hs : sc c := by
      rcases hm with h | h
      · exact h
      · exact absurd h hv
    obtain ⟨v, r, v1, ⟨ix, ⟨i1, i2, i3, i4⟩, i5⟩, ⟨nf, x, v3, v4⟩, v5⟩ := hE c hc hs
    rw [hB.1] at i2 i4
    have nov : ∀ z (hz : z < vs.length), ¬ vs[z] = c := fun z hz e => hv (e ▸ List.getElem_mem hz)
    refine ⟨v, r, v1, ⟨ix, ⟨i1, by rw [hB'.1]; omega, by rw [hr 15 (by omega) ix i2]; exact i3, fun j j1 j2 e => ?_⟩, by rw [hr 17 (by omega) ix i2]; exact i5⟩, ?_, v5⟩
    · rw [hB'.1] at j2
      by_cases hj : j < n
      · rw [hr 15 (by omega) j hj] at e
        exact i4 j j1 hj e
      · obtain ⟨z, rfl⟩ : ∃ z, j = n + z := ⟨j - n, by omega⟩
        have hz : z < vs.length := by omega
        obtain ⟨z0, z1, -⟩ := hk z hz
        rw [z1] at e
        have := (nI_eq (by omega) (by omega)).mp e
        exact nov z hz (by omega)
    · have := up c r 0 hc ⟨nf, x, v3, MN.mv hb (by omega) nf x c r v4⟩ (fun z hz _ => nov z hz) vs.length (by omega)
      rw [Nat.zero_add] at this
      exact this
