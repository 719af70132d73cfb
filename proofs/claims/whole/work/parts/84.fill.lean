/-! ===== a hole is filled on both sides; heads ===== -/
theorem countP_lt {p p' : Nat → Bool} {h : Nat} (hp : ∀ v, p' v = true → p v = true) (h1 : p h = true) (h2 : p' h = false) : ∀ l : List Nat, l.countP p' ≤ l.countP p ∧ (h ∈ l → l.countP p' + 1 ≤ l.countP p)
  | [] => ⟨Nat.le_refl _, fun hm => by cases hm⟩
  | x :: l => by
    obtain ⟨i1, i2⟩ := countP_lt hp h1 h2 l
    rw [List.countP_cons, List.countP_cons]
    have hx : (if p' x = true then 1 else 0) ≤ (if p x = true then 1 else 0) := by
      by_cases hb : p' x = true
      · rw [if_pos hb, if_pos (hp x hb)]; exact Nat.le_refl _
      · rw [if_neg hb]; exact Nat.zero_le _
    refine ⟨by omega, fun hm => ?_⟩
    rcases List.mem_cons.mp hm with e | hm
    · subst e
      rw [if_pos h1, if_neg (by rw [h2]; decide)]
      omega
    · have := i2 hm
      omega
section CPFL
variable {f : Nat → Int32} {N : Nat} {a : Nat → Nat → Int32} {nv nc C : Nat} {ρ : Nat → Nat → Prop} {hl : List Nat}
/-- hole and form -/
theorem VI.h4 (V : VI f N a nv nc ρ hl C) {v r : Nat} (h : ρ v r) : f v = 4 ↔ a 52 r = 2 := by
  obtain ⟨-, -, h3⟩ := V.1.1 v r h
  rcases h3 with h3 | h3 | h3 | h3 | h3
  · rw [h3.1, h3.2.1]; decide
  · rw [h3.1, h3.2.1]; decide
  · rw [h3.1, h3.2.1]; decide
  · rw [h3.1, h3.2.1]; decide
  · rw [h3.1, h3.2.1]; decide
theorem VI.h6 (V : VI f N a nv nc ρ hl C) {v r : Nat} (h : ρ v r) : f v = 6 ↔ a 52 r = 3 := by
  obtain ⟨-, -, h3⟩ := V.1.1 v r h
  rcases h3 with h3 | h3 | h3 | h3 | h3
  · rw [h3.1, h3.2.1]; decide
  · rw [h3.1, h3.2.1]; decide
  · rw [h3.1, h3.2.1]; decide
  · rw [h3.1, h3.2.1]; decide
  · rw [h3.1, h3.2.1]; decide
theorem VI.h1 (V : VI f N a nv nc ρ hl C) {v r : Nat} (h : ρ v r) : f v = 1 ↔ a 52 r = 0 := by
  obtain ⟨-, -, h3⟩ := V.1.1 v r h
  rcases h3 with h3 | h3 | h3 | h3 | h3
  · rw [h3.1, h3.2.1]; decide
  · rw [h3.1, h3.2.1]; decide
  · rw [h3.1, h3.2.1]; decide
  · rw [h3.1, h3.2.1]; decide
  · rw [h3.1, h3.2.1]; decide
/-- the same hole -/
theorem VI.inj (V : VI f N a nv nc ρ hl C) {h rh : Nat} (hρ : ρ h rh) (h4 : f h = 4) : ∀ u s, ρ u s → (u = h ↔ s = rh) := by
  intro u s hus
  constructor
  · intro e
    subst e
    exact (V.1.2.1 _ _ _ _ hus hρ h4 h4).mp rfl
  · intro e
    subst e
    exact (V.1.2.1 _ _ _ _ hus hρ ((V.h4 hus).mpr ((V.h4 hρ).mp h4)) h4).mpr rfl
theorem VI.injI (V : VI f N a nv nc ρ hl C) {h rh : Nat} (hρ : ρ h rh) (h4 : f h = 4) : ∀ u s, ρ u s → stl f u → (nI u = nI h ↔ nI s = nI rh) := by
  intro u s hus _
  have b1 := V.1.1 u s hus
  have b2 := V.1.1 h rh hρ
  have hnv := V.2.2.2.2.2.1
  have hN := V.2.2.2.2.2.2.2
  rw [nI_eq (by omega) (by omega), nI_eq (by omega) (by omega)]
  exact V.inj hρ h4 u s hus
theorem ext_of (V : VI f N a nv nc ρ hl C) {v r : Nat} (h : ρ v r) : ∃ m, m ≤ 6 ∧ f (v + 2) = nI m ∧ ext f v = v + 3 + m := by
  obtain ⟨t, A, h1, h2, -⟩ := args_of V h
  exact ⟨A.length, h1, h2, by unfold ext; rw [h2, nI_clamp (by omega)]⟩
theorem VI.fill (V : VI f N a nv nc ρ hl C) {h rh x rx : Nat} (hρ : ρ h rh) (hx : ρ x rx) (h4 : f h = 4) (ho : f (h + 1) = -1) (hxs : stl f x) (hne : x ≠ h) : VI (va_up f (h + 1) (nI x)) N (va_up a 53 (upd (a 53) rh (nI rx))) nv nc ρ hl (C + 1) := by
  have V0 := V
  obtain ⟨⟨B1, B2, B3⟩, c2, ⟨c3, c4⟩, c5, c6, c7, c8, c9⟩ := V0
  have hh := c3 h rh hρ h4 ho
  have hrh := B1 h rh hρ
  -- the places of a value are not the one that is put, but for the hole itself
  have keep : ∀ v r, ρ v r → (∀ j, v ≤ j → j < ext f v → (j = h + 1 → v = h)) := by
    intro v r hv j j1 j2 e
    rcases c4 v r hv h hh with q | q | q
    · exact q
    · omega
    · omega
  have hv0 : ∀ v r, ρ v r → va_up f (h + 1) (nI x) v = f v := fun v r hv => by
    obtain ⟨m, -, -, e⟩ := ext_of V hv
    refine cp_up_ne (fun e2 => ?_)
    have := keep v r hv v (Nat.le_refl _) (by omega) e2
    omega
  have hv2 : ∀ v r, ρ v r → va_up f (h + 1) (nI x) (v + 2) = f (v + 2) := fun v r hv => by
    obtain ⟨m, -, -, e⟩ := ext_of V hv
    refine cp_up_ne (fun e2 => ?_)
    have := keep v r hv (v + 2) (by omega) (by omega) e2
    omega
  have hv1 : ∀ v r, ρ v r → v ≠ h → va_up f (h + 1) (nI x) (v + 1) = f (v + 1) := fun v r hv hne2 => cp_up_ne (by omega)
  have hva : ∀ v r, ρ v r → ∀ m i, f (v + 2) = nI m → m ≤ 6 → i < m → va_up f (h + 1) (nI x) (v + 3 + i) = f (v + 3 + i) := fun v r hv m i e1 hm hi => by
    have e : ext f v = v + 3 + m := by unfold ext; rw [e1, nI_clamp (by omega)]
    refine cp_up_ne (fun e2 => ?_)
    have := keep v r hv (v + 3 + i) (by omega) (by omega) e2
    omega
  have ha53 : ∀ r, r ≠ rh → va_up a 53 (upd (a 53) rh (nI rx)) 53 r = a 53 r := fun r hr => by rw [va_up_at, pk_un hr]
  have ha : ∀ p, p ≠ 53 → va_up a 53 (upd (a 53) rh (nI rx)) p = a p := fun p hp => cp_up_ne hp
  have hrne : ∀ v r, ρ v r → v ≠ h → r ≠ rh := fun v r hv hn e => hn ((V.inj hρ h4 v r hv).mpr e)
  refine ⟨⟨fun v r hv => ?_, fun v r v' r' hv hv' e1 e2 => ?_, fun v r v' r' hv hv' e1 e2 => ?_⟩, ?_, ⟨fun v r hv e1 e2 => ?_, fun v r hv k hk => ?_⟩, ?_, c6, c7, c8, c9⟩
  · obtain ⟨b1, b2, b3⟩ := B1 v r hv
    refine ⟨b1, b2, ?_⟩
    unfold VCase
    rw [hv0 v r hv, hv2 v r hv, ha 52 (by decide), ha 54 (by decide), ha 55 (by decide), ha 56 (by decide)]
    by_cases hvh : v = h
    · have hrr : r = rh := (V.inj hρ h4 v r hv).mp hvh
      subst hvh
      subst hrr
      rw [va_up_at, va_up_at, pk_us]
      rcases b3 with b3 | b3 | b3 | b3 | b3
      · rw [h4] at b3; exact absurd b3.1 (by decide)
      · rw [h4] at b3; exact absurd b3.1 (by decide)
      · rw [h4] at b3; exact absurd b3.1 (by decide)
      · exact Or.inr (Or.inr (Or.inr (Or.inl ⟨b3.1, b3.2.1, b3.2.2.1, b3.2.2.2.1, Or.inr ⟨x, rx, rfl, rfl, hx⟩⟩)))
      · rw [h4] at b3; exact absurd b3.1 (by decide)
    · rw [hv1 v r hv hvh, ha53 r (hrne v r hv hvh)]
      rcases b3 with b3 | b3 | b3 | b3 | b3
      · exact Or.inl b3
      · exact Or.inr (Or.inl b3)
      · exact Or.inr (Or.inr (Or.inl b3))
      · exact Or.inr (Or.inr (Or.inr (Or.inl b3)))
      · obtain ⟨q1, q2, l, m, t, w1, w2, w3, w4, w5, w6, w7, w8, w9, w10⟩ := b3
        refine Or.inr (Or.inr (Or.inr (Or.inr ⟨q1, q2, l, m, t, w1, w2, w3, w4, w5, w6, w7, w8, w9, fun i hi => ?_⟩)))
        rw [hva v r hv m i w5 w2 hi]
        exact w10 i hi
  · rw [hv0 v r hv] at e1
    rw [hv0 v' r' hv'] at e2
    exact B2 v r v' r' hv hv' e1 e2
  · rw [hv0 v r hv] at e1
    rw [hv0 v' r' hv'] at e2
    have n1 : v ≠ h := fun e => by rw [e, h4] at e1; exact absurd e1 (by decide)
    have n2 : v' ≠ h := fun e => by rw [e, h4] at e2; exact absurd e2 (by decide)
    rw [ha53 r (hrne v r hv n1), ha53 r' (hrne v' r' hv' n2)]
    exact B3 v r v' r' hv hv' e1 e2
  · -- chains
    have hxst : ∀ c, chn (va_up f (h + 1) (nI x)) c x := by
      have q : ¬ (va_up f (h + 1) (nI x) x = 4 ∧ ¬ va_up f (h + 1) (nI x) (x + 1) = -1) := by
        rw [hv0 x rx hx, hv1 x rx hx hne]; exact hxs
      intro c
      cases c with
      | zero => exact q
      | succ c => exact fun q1 q2 => absurd ⟨q1, q2⟩ q
    have key : ∀ c v r, ρ v r → chn f c v → chn (va_up f (h + 1) (nI x)) (c + 1) v := by
      intro c
      induction c with
      | zero =>
        intro v r hv hc q1 q2
        rw [hv0 v r hv] at q1
        by_cases hvh : v = h
        · subst hvh
          exact ⟨x, va_up_at, by have := (B1 x rx hx).1; omega, hxst 0⟩
        · rw [hv1 v r hv hvh] at q2
          exact absurd ⟨q1, q2⟩ hc
      | succ c ih =>
        intro v r hv hc q1 q2
        rw [hv0 v r hv] at q1
        by_cases hvh : v = h
        · subst hvh
          exact ⟨x, va_up_at, by have := (B1 x rx hx).1; omega, hxst _⟩
        · rw [hv1 v r hv hvh] at q2 ⊢
          obtain ⟨v', e1, e2, e3⟩ := hc q1 q2
          obtain ⟨-, -, b3⟩ := B1 v r hv
          have : ∃ r', ρ v' r' := by
            rcases b3 with b3 | b3 | b3 | b3 | b3
            · rw [q1] at b3; exact absurd b3.1 (by decide)
            · rw [q1] at b3; exact absurd b3.1 (by decide)
            · rw [q1] at b3; exact absurd b3.1 (by decide)
            · rcases b3.2.2.2.2 with b4 | ⟨v2, r2, b4, b5, b6⟩
              · exact absurd b4.1 q2
              · rw [e1] at b4
                have := (nI_eq e2 (by have := (B1 v2 r2 b6).1; omega)).mp b4
                subst this
                exact ⟨r2, b6⟩
            · rw [q1] at b3; exact absurd b3.1 (by decide)
          obtain ⟨r', hr'⟩ := this
          exact ⟨v', e1, e2, ih v' r' hr' e3⟩
    exact fun v r hv => key C v r hv (c2 v r hv)
  · rw [hv0 v r hv] at e1
    by_cases hvh : v = h
    · rw [hvh]; exact hh
    · rw [hv1 v r hv hvh] at e2
      exact c3 v r hv e1 e2
  · have : ext (va_up f (h + 1) (nI x)) v = ext f v := by unfold ext; rw [hv2 v r hv]
    rw [this]
    exact c4 v r hv k hk
  · have hxm : ¬ nI x = -1 := nI_m1 (by have := (B1 x rx hx).1; omega)
    have := (countP_lt (p := fun v => decide (f (v + 1) = -1)) (p' := fun v => decide (va_up f (h + 1) (nI x) (v + 1) = -1)) (h := h) (fun v hv => by
      simp only [decide_eq_true_eq] at hv ⊢
      by_cases hvh : v + 1 = h + 1
      · rw [hvh, va_up_at] at hv
        exact absurd hv hxm
      · rw [cp_up_ne hvh] at hv; exact hv) (by simp [ho]) (by simp [va_up_at, hxm]) hl).2 hh
    omega
/-- heads are the same on both sides -/
theorem VI.head (V : VI f N a nv nc ρ hl C) {u1 s1 u2 s2 : Nat} (h1 : ρ u1 s1) (h2 : ρ u2 s2) (n1 : ¬ f u1 = 4) (n2 : ¬ f u2 = 4) : (f u1 = f u2 ∧ f (u1 + 1) = f (u2 + 1) ∧ f (u1 + 2) = f (u2 + 2)) ↔ (a 52 s1 = a 52 s2 ∧ a 53 s1 = a 53 s2 ∧ a 55 s1 = a 55 s2) := by
  obtain ⟨b1, -, c1⟩ := V.1.1 u1 s1 h1
  obtain ⟨b2, -, c2⟩ := V.1.1 u2 s2 h2
  have hN := V.2.2.2.2.2.2.2
  have B3 := V.1.2.2 u1 s1 u2 s2 h1 h2
  rcases c1 with c1 | c1 | c1 | c1 | c1
  · rcases c2 with c2 | c2 | c2 | c2 | c2
    · obtain ⟨p1, p2, p3, p4, p5⟩ := c1
      obtain ⟨q1, q2, q3, q4, q5⟩ := c2
      rw [p1, p2, p3, p4, p5, q1, q2, q3, q4, q5]
      simp
    · rw [c1.1, c1.2.1, c2.1, c2.2.1]; exact ⟨fun h => absurd h.1 (by decide), fun h => absurd h.1 (by decide)⟩
    · rw [c1.1, c1.2.1, c2.1, c2.2.1]; exact ⟨fun h => absurd h.1 (by decide), fun h => absurd h.1 (by decide)⟩
    · exact absurd c2.1 n2
    · rw [c1.1, c1.2.1, c2.1, c2.2.1]; exact ⟨fun h => absurd h.1 (by decide), fun h => absurd h.1 (by decide)⟩
  · rcases c2 with c2 | c2 | c2 | c2 | c2
    · rw [c1.1, c1.2.1, c2.1, c2.2.1]; exact ⟨fun h => absurd h.1 (by decide), fun h => absurd h.1 (by decide)⟩
    · obtain ⟨p1, p2, p3, p4, p5, p6⟩ := c1
      obtain ⟨q1, q2, q3, q4, q5, q6⟩ := c2
      rw [p1, p2, p3, p4, p5, p6, q1, q2, q3, q4, q5, q6]
      simp
    · rw [c1.1, c1.2.1, c2.1, c2.2.1]; exact ⟨fun h => absurd h.1 (by decide), fun h => absurd h.1 (by decide)⟩
    · exact absurd c2.1 n2
    · rw [c1.1, c1.2.1, c2.1, c2.2.1]; exact ⟨fun h => absurd h.1 (by decide), fun h => absurd h.1 (by decide)⟩
  · rcases c2 with c2 | c2 | c2 | c2 | c2
    · rw [c1.1, c1.2.1, c2.1, c2.2.1]; exact ⟨fun h => absurd h.1 (by decide), fun h => absurd h.1 (by decide)⟩
    · rw [c1.1, c1.2.1, c2.1, c2.2.1]; exact ⟨fun h => absurd h.1 (by decide), fun h => absurd h.1 (by decide)⟩
    · have B4 := B3 c1.1 c2.1
      obtain ⟨p1, p2, p3, p4, p5⟩ := c1
      obtain ⟨q1, q2, q3, q4, q5⟩ := c2
      rw [p1, p2, p3, p4, p5, q1, q2, q3, q4, q5, nI_eq (by omega) (by omega), B4]
      simp
    · exact absurd c2.1 n2
    · rw [c1.1, c1.2.1, c2.1, c2.2.1]; exact ⟨fun h => absurd h.1 (by decide), fun h => absurd h.1 (by decide)⟩
  · exact absurd c1.1 n1
  · rcases c2 with c2 | c2 | c2 | c2 | c2
    · rw [c1.1, c1.2.1, c2.1, c2.2.1]; exact ⟨fun h => absurd h.1 (by decide), fun h => absurd h.1 (by decide)⟩
    · rw [c1.1, c1.2.1, c2.1, c2.2.1]; exact ⟨fun h => absurd h.1 (by decide), fun h => absurd h.1 (by decide)⟩
    · rw [c1.1, c1.2.1, c2.1, c2.2.1]; exact ⟨fun h => absurd h.1 (by decide), fun h => absurd h.1 (by decide)⟩
    · exact absurd c2.1 n2
    · obtain ⟨p1, p2, l, m, t, w1, w2, w3, w4, w5, w6, -⟩ := c1
      obtain ⟨q1, q2, l', m', t', y1, y2, y3, y4, y5, y6, -⟩ := c2
      rw [p1, p2, w3, w4, w5, w6, q1, q2, y3, y4, y5, y6, nI_eq (by omega) (by omega), nI_eq (by omega) (by omega), nI_eq (by omega) (by omega)]
      constructor
      · rintro ⟨-, e1, e2⟩; exact ⟨rfl, by omega, e2⟩
      · rintro ⟨-, e1, e2⟩; exact ⟨rfl, by omega, e2⟩
end CPFL
