/-! ===== what both write of a number ===== -/
theorem lg_gt {x y : Int64} : 0 < lg_cmp x y ↔ y < x := by
  unfold lg_cmp
  by_cases h : x > y
  · rw [if_pos h]; exact ⟨fun _ => h, fun _ => by decide⟩
  · rw [if_neg h]
    refine ⟨fun q => ?_, fun q => absurd q h⟩
    by_cases e : x = y
    · rw [if_pos e] at q; exact absurd q (by decide)
    · rw [if_neg e] at q; exact absurd q (by decide)
theorem lg_le0 {x y : Int64} : lg_cmp x y ≤ 0 ↔ ¬ y < x := by
  rw [← lg_gt]
  exact ⟨fun h => Int32.not_lt.mpr h, fun h => Int32.not_lt.mp h⟩
/-- characters put behind one another -/
def wputs : cp_K → List Nat → cp_K
  | K, [] => K
  | K, c :: cs => wputs (wput K (nI c)) cs
def DN (K : cp_K) (n : Nat) : Prop := K.2.1 6 4 = nI n ∧ n ≤ 101
theorem DN.n0 {K : cp_K} {n : Nat} (h : DN K n) : ¬ K.2.1 6 4 < 0 := by rw [h.1]; exact nI_pos (by have := h.2; omega)
theorem nar_ch : ∀ k, k < 128 → vp_nar .char (nI k) = nI k ∧ (Int32.toUInt32 (nI k) % 65536).toInt32 = nI k := by decide
theorem wput_full {K : cp_K} {n : Nat} {x : Int32} (h : DN K n) (hn : 101 ≤ n) : wput K x = K := by
  unfold wput
  rw [if_pos (by rw [h.1, show (101 : Int32) = nI 101 from rfl]; exact nI_le hn (by have := h.2; omega))]
theorem wput_room {K : cp_K} {n c : Nat} (h : DN K n) (hn : n < 101) (hc : c < 128) : wput K (nI c) = kI (kI K 13 n (nI c)) 6 4 (nI (n + 1)) := by
  unfold wput
  rw [if_neg (by rw [h.1, show (101 : Int32) = nI 101 from rfl]; exact nI_ge hn (by omega)), h.1, nI_clamp (by omega), (nar_ch c hc).1, nI_1]
theorem DN.put {K : cp_K} {n c : Nat} (h : DN K n) (hc : c < 128) : DN (wput K (nI c)) (min (n + 1) 101) := by
  by_cases hn : n < 101
  · rw [wput_room h hn hc]
    exact ⟨by rw [kI_i, va_up_at, va_up_at, Nat.min_eq_left (by omega)], by omega⟩
  · rw [wput_full h (by omega), show min (n + 1) 101 = n by have := h.2; omega]
    exact h
/-- what writing leaves as it was -/
def WF (K K' : cp_K) : Prop := (∀ p k, p ≠ 13 → ¬ (p = 6 ∧ k = 4) → K'.2.1 p k = K.2.1 p k) ∧ K'.2.2.1 = K.2.2.1 ∧ (∀ q, q ≠ 9 → rsz K' q = rsz K q ∧ rat K' q = rat K q) ∧ K.1.1 ≤ K'.1.1 ∧ (∀ p, p < K.1.1 → K'.1.2 p = K.1.2 p) ∧ (KO K → KO K' ∧ 64 * K'.1.1 + k_caps K ≤ 64 * K.1.1 + k_caps K')
theorem WF.refl {K : cp_K} : WF K K := ⟨fun _ _ _ _ => rfl, rfl, fun _ _ => ⟨rfl, rfl⟩, Nat.le_refl _, fun _ _ => rfl, fun h => ⟨h, Nat.le_refl _⟩⟩
theorem WF.trans {K K1 K2 : cp_K} (h : WF K K1) (g : WF K1 K2) : WF K K2 := by
  obtain ⟨a1, a2, a3, a4, a5, a6⟩ := h
  obtain ⟨b1, b2, b3, b4, b5, b6⟩ := g
  refine ⟨fun p k x y => (b1 p k x y).trans (a1 p k x y), b2.trans a2, fun q hq => ⟨(b3 q hq).1.trans (a3 q hq).1, (b3 q hq).2.trans (a3 q hq).2⟩, Nat.le_trans a4 b4, fun p hp => (b5 p (by omega)).trans (a5 p hp), fun ko => ?_⟩
  obtain ⟨c1, c2⟩ := a6 ko
  obtain ⟨d1, d2⟩ := b6 c1
  exact ⟨d1, by omega⟩
theorem WF.of {K K' : cp_K} (h : KF [9] K K') : WF K K' := ⟨fun p k _ _ => by rw [h.1], h.2.1, fun q hq => h.2.2.1 q (by simp [hq]), h.2.2.2.1, h.2.2.2.2.1, h.2.2.2.2.2⟩
theorem WF.put {K : cp_K} {n c : Nat} (h : DN K n) (hc : c < 128) : WF K (wput K (nI c)) := by
  by_cases hn : n < 101
  · rw [wput_room h hn hc]
    refine ⟨fun p k h1 h2 => ?_, rfl, fun _ _ => ⟨rfl, rfl⟩, Nat.le_refl _, fun _ _ => rfl, fun h => ⟨h, Nat.le_refl _⟩⟩
    rw [kI_i, kI_i]
    by_cases hp : p = 6
    · subst hp
      rw [va_up_at, cp_up_ne (fun e => h2 ⟨rfl, e⟩), cp_up_ne h1]
    · rw [cp_up_ne hp, cp_up_ne h1]
  · rw [wput_full h (by omega)]
    exact WF.refl
theorem put_ch {K : cp_K} {n c : Nat} (h : DN K n) (hc : c < 128) : (∀ i, i < n → (wput K (nI c)).2.1 13 i = K.2.1 13 i) ∧ (n < 101 → (wput K (nI c)).2.1 13 n = nI c) := by
  by_cases hn : n < 101
  · rw [wput_room h hn hc]
    refine ⟨fun i hi => ?_, fun _ => ?_⟩
    · rw [kI_i, kI_i, cp_up_ne (by decide), va_up_at, cp_up_ne (by omega)]
    · rw [kI_i, kI_i, cp_up_ne (by decide), va_up_at, va_up_at]
  · rw [wput_full h (by omega)]
    exact ⟨fun _ _ => rfl, fun q => absurd q hn⟩
theorem puts_all : ∀ (cs : List Nat) (K : cp_K) (n : Nat), DN K n → (∀ c ∈ cs, c < 128) → DN (wputs K cs) (min (n + cs.length) 101) ∧ WF K (wputs K cs) ∧ (∀ i, i < n → (wputs K cs).2.1 13 i = K.2.1 13 i) ∧ (∀ i (h : i < cs.length), n + i < 101 → (wputs K cs).2.1 13 (n + i) = nI cs[i]) ∧ (wputs K cs).2.2.2 = K.2.2.2
  | [], K, n, h, _ => ⟨by rw [List.length_nil, Nat.add_zero, Nat.min_eq_left h.2]; exact h, WF.refl, fun _ _ => rfl, fun i hi => absurd hi (by simp), rfl⟩
  | c :: cs, K, n, h, hc => by
    have c1 := hc c List.mem_cons_self
    obtain ⟨a1, a2, a3, a4, a5⟩ := puts_all cs (wput K (nI c)) _ (h.put c1) (fun x hx => hc x (List.mem_cons_of_mem _ hx))
    obtain ⟨p1, p2⟩ := put_ch h c1
    have hw : (wput K (nI c)).2.2.2 = K.2.2.2 := by unfold wput; split <;> rfl
    refine ⟨?_, (WF.put h c1).trans a2, fun i hi => (a3 i (by have := h.2; omega)).trans (p1 i hi), fun i hi h1 => ?_, a5.trans hw⟩
    · rw [List.length_cons, show min (n + (cs.length + 1)) 101 = min (min (n + 1) 101 + cs.length) 101 by omega]
      exact a1
    · cases i with
      | zero => exact (a3 n (by omega)).trans (p2 (by omega))
      | succ i =>
        have := a4 i (by simpa using hi) (by omega)
        rw [show min (n + 1) 101 + i = n + (i + 1) by omega] at this
        exact this
theorem s29_un {a : Nat → Nat → Int32} {n i : Nat} {x : Int32} (h : i ≠ n) : va_up a 29 (upd (a 29) n x) 29 i = a 29 i := by rw [va_up_at, pk_un h]
theorem s29_at {a : Nat → Nat → Int32} {n : Nat} {x : Int32} : va_up a 29 (upd (a 29) n x) 29 n = x := by rw [va_up_at, pk_us]
/-- characters laid behind one another by the reference -/
def wpd : cp_S → Nat → List Nat → cp_S
  | S, _, [] => S
  | S, n, c :: cs => wpd (S.1, va_up S.2 29 (upd (S.2 29) n (nI c))) (n + 1) cs
theorem wpd_all : ∀ (cs : List Nat) (S : cp_S) (n : Nat), (wpd S n cs).1 = S.1 ∧ (∀ p, p ≠ 29 → (wpd S n cs).2 p = S.2 p) ∧ (∀ i, i < n → (wpd S n cs).2 29 i = S.2 29 i) ∧ (∀ i (h : i < cs.length), (wpd S n cs).2 29 (n + i) = nI cs[i])
  | [], S, n => ⟨rfl, fun _ _ => rfl, fun _ _ => rfl, fun i hi => absurd hi (by simp)⟩
  | c :: cs, S, n => by
    obtain ⟨a1, a2, a3, a4⟩ := wpd_all cs (S.1, va_up S.2 29 (upd (S.2 29) n (nI c))) (n + 1)
    refine ⟨a1, fun p hp => (a2 p hp).trans (cp_up_ne hp), fun i hi => (a3 i (by omega)).trans ?_, fun i hi => ?_⟩
    · exact s29_un (by omega)
    · cases i with
      | zero => exact (a3 n (by omega)).trans s29_at
      | succ i =>
        have := a4 i (by simpa using hi)
        rw [show n + 1 + i = n + (i + 1) by omega] at this
        exact this
/-- the digits from the one of 10 ^ e on -/
def dgs (R : Nat) : Nat → List Nat
  | 0 => [48 + R / 10 ^ 0 % 10]
  | e + 1 => (48 + R / 10 ^ (e + 1) % 10) :: dgs R e
theorem dgs_len {R : Nat} : ∀ e, (dgs R e).length = e + 1
  | 0 => rfl
  | e + 1 => by rw [dgs, List.length_cons, dgs_len e]
theorem dgs_ch {R : Nat} : ∀ e, ∀ c ∈ dgs R e, 48 ≤ c ∧ c ≤ 57
  | 0, c, h => by
    rw [dgs, List.mem_singleton] at h
    omega
  | e + 1, c, h => by
    rw [dgs] at h
    rcases List.mem_cons.mp h with h | h
    · omega
    · exact dgs_ch e c h
theorem ten_lt {e : Nat} (h : e ≤ 11) : 10 ^ e < 2 ^ 63 ∧ 0 < 10 ^ e := ⟨Nat.lt_of_le_of_lt (Nat.pow_le_pow_right (by decide) h) (by decide), Nat.pow_pos (by decide)⟩
theorem ten_up (e : Nat) : lN (10 ^ e) * 10 = lN (10 ^ (e + 1)) := by
  rw [show (10 : Int64) = lN 10 from rfl, lN_mul, Nat.pow_succ]
theorem ten_dn {e : Nat} (h : e ≤ 10) : lN (10 ^ (e + 1)) / 10 = lN (10 ^ e) := by
  rw [show (10 : Int64) = lN 10 from rfl, pk_lDiv (ten_lt (by omega)).1 (by decide) (by decide), Nat.pow_succ, Nat.mul_div_cancel _ (by decide)]
theorem dig {R e : Nat} (hR : R < 2 ^ 63) (he : e ≤ 10) : (lN R / lN (10 ^ e)) - (lN R / lN (10 ^ e)) / 10 * 10 = lN (R / 10 ^ e % 10) := by
  rw [pk_lDiv hR (ten_lt (by omega)).2 (ten_lt (by omega)).1, show (10 : Int64) = lN 10 from rfl, pk_lRem (Nat.lt_of_le_of_lt (Nat.div_le_self _ _) hR) (by decide) (by decide)]
/-- both come to the same unit -/
theorem unit_m {R : Nat} (hR : R ≤ 2 ^ 31) : ∀ t j, j + t = 10 → ∃ e, e ≤ 10 ∧ (∀ (o : cp_G → cp_O) (K' K : cp_K) (x1 : Int32), JC 8 m_V_writeNumber o K' 48 (fun G => [(0, .ref (cp_b G + 6)), (1, .int x1), (2, .long (lN R)), (4, .long (lN (10 ^ e))), (6, .long (lN (10 ^ (e + 1))))]) (fun _ => []) K → JC 8 m_V_writeNumber o K' 26 (fun G => [(0, .ref (cp_b G + 6)), (1, .int x1), (2, .long (lN R)), (4, .long (lN (10 ^ j))), (6, .long (lN (10 ^ (j + 1))))]) (fun _ => []) K) ∧
    (∀ (o : Option Value) (S' S : cp_S) (x1 x2 x3 : Int32), JJ 0 m_M_drawOne o S' 262 [(1, .int x1), (2, .int x2), (3, .int x3), (4, .long (lN R)), (6, .long (lN (10 ^ e)))] S → JJ 0 m_M_drawOne o S' 239 [(1, .int x1), (2, .int x2), (3, .int x3), (4, .long (lN R)), (6, .long (lN (10 ^ j)))] S) := by
  intro t
  induction t with
  | zero =>
    intro j hj
    have h10 : lN R < lN (10 ^ (j + 1)) := (pk_lLT (by omega) (ten_lt (by omega)).1).mpr (by rw [show j = 10 by omega]; omega)
    refine ⟨j, by omega, fun o K' K x1 w => b_V_writeNumber_26 (D := 0) ⟨fun _ => w, fun hn => absurd (lg_gt.mpr h10) hn⟩, fun o S' S x1 x2 x3 w => b_M_drawOne_239 ⟨fun _ => w, fun hn => absurd (lg_gt.mpr (by rw [ten_up]; exact h10)) hn⟩⟩
  | succ t ih =>
    intro j hj
    by_cases h10 : lN R < lN (10 ^ (j + 1))
    · refine ⟨j, by omega, fun o K' K x1 w => b_V_writeNumber_26 (D := 0) ⟨fun _ => w, fun hn => absurd (lg_gt.mpr h10) hn⟩, fun o S' S x1 x2 x3 w => b_M_drawOne_239 ⟨fun _ => w, fun hn => absurd (lg_gt.mpr (by rw [ten_up]; exact h10)) hn⟩⟩
    · obtain ⟨e, e1, e2, e3⟩ := ih (j + 1) (by omega)
      refine ⟨e, e1, fun o K' K x1 w => b_V_writeNumber_26 (D := 0) ⟨fun hn => absurd (lg_gt.mp hn) h10, fun _ => ?_⟩, fun o S' S x1 x2 x3 w => b_M_drawOne_239 ⟨fun hn => absurd (by rw [← ten_up]; exact lg_gt.mp hn) h10, fun _ => ?_⟩⟩
      · rw [ten_up]; exact e2 o K' K x1 w
      · rw [ten_up]; exact e3 o S' S x1 x2 x3 w
/-- the class writes the digits -/
theorem dgs_c {R : Nat} (hR : R ≤ 2 ^ 31) {x1 : Int32} {x6 : Int64} : ∀ (e n : Nat) (K : cp_K), e ≤ 10 → DN K n → JC 8 m_V_writeNumber (fun _ => .inl none) (wputs K (dgs R e)) 48 (fun G => [(0, .ref (cp_b G + 6)), (1, .int x1), (2, .long (lN R)), (4, .long (lN (10 ^ e))), (6, .long x6)]) (fun _ => []) K := by
  intro e
  have ch : ∀ e, e ≤ 10 → (Int32.toUInt32 (Int64.toInt32 (48 + ((lN R / lN (10 ^ e)) - (lN R / lN (10 ^ e)) / 10 * 10))) % 65536).toInt32 = nI (48 + R / 10 ^ e % 10) := fun e he => by
    rw [dig (by omega) he, show (48 : Int64) = lN 48 from rfl, lN_add, lN_i]
    exact (nar_ch _ (by omega)).2
  have p0 : ∀ e, e ≤ 10 → (0 : Int64) < lN (10 ^ e) := fun e he => (pk_lLT (a := 0) (by decide) (ten_lt (by omega)).1).mpr (ten_lt (by omega)).2
  induction e with
  | zero =>
    intro n K he hd
    refine b_V_writeNumber_48 (D := 0) ⟨fun hn => absurd (p0 0 he) (lg_le0.mp hn), fun _ => ⟨fun e => absurd (p0 0 he) (by rw [e]; decide), hd.n0, ?_⟩⟩
    rw [ch 0 he, show lN (10 ^ 0) / 10 = 0 from by decide]
    exact b_V_writeNumber_48 (D := 0) ⟨fun _ => ⟨rfl, rfl⟩, fun hn => absurd (lg_le0.mpr (by decide)) hn⟩
  | succ e ih =>
    intro n K he hd
    refine b_V_writeNumber_48 (D := 0) ⟨fun hn => absurd (p0 _ he) (lg_le0.mp hn), fun _ => ⟨fun e' => absurd (p0 _ he) (by rw [e']; decide), hd.n0, ?_⟩⟩
    rw [ch _ he, ten_dn (by omega)]
    exact ih _ _ (by omega) (hd.put (by omega))
/-- and the reference -/
theorem dgs_r {R : Nat} (hR : R ≤ 2 ^ 31) {x1 x2 : Int32} : ∀ (e n : Nat) (S : cp_S), e ≤ 10 → n ≤ 108 → JJ 0 m_M_drawOne (some (.int (nI (min (n + e + 1) 108)))) (wpd S n ((dgs R e).take (108 - n))) 262 [(1, .int x1), (2, .int x2), (3, .int (nI n)), (4, .long (lN R)), (6, .long (lN (10 ^ e)))] S := by
  intro e
  have ch : ∀ e, e ≤ 10 → 48 + Int64.toInt32 ((lN R / lN (10 ^ e)) - (lN R / lN (10 ^ e)) / 10 * 10) = nI (48 + R / 10 ^ e % 10) := fun e he => by
    rw [dig (by omega) he, lN_i, show (48 : Int32) = nI 48 from rfl, nI_add]
  have p0 : ∀ e, e ≤ 10 → (0 : Int64) < lN (10 ^ e) := fun e he => (pk_lLT (a := 0) (by decide) (ten_lt (by omega)).1).mpr (ten_lt (by omega)).2
  have nz : ∀ e, e ≤ 10 → ¬ lN (10 ^ e) = 0 := fun e he e' => absurd (p0 _ he) (by rw [e']; decide)
  induction e with
  | zero =>
    intro n S he hn
    by_cases h : n = 108
    · subst h
      exact b_M_drawOne_262 ⟨fun q => absurd (p0 0 he) (lg_le0.mp q), fun _ => ⟨fun _ => ⟨rfl, rfl⟩, fun q => absurd (by decide) q⟩⟩
    · refine b_M_drawOne_262 ⟨fun q => absurd (p0 0 he) (lg_le0.mp q), fun _ => ⟨fun q => absurd q (nI_ge (b := 108) (by omega) (by omega)), fun _ => ⟨nz 0 he, vp_in_nI (show n < 110 by omega) (by decide), ?_⟩⟩⟩
      rw [ch 0 he, show lN (10 ^ 0) / 10 = 0 from by decide, nI_clamp (by omega), nI_1, show 108 - n = (108 - (n + 1)) + 1 by omega, Nat.min_eq_left (by omega)]
      exact b_M_drawOne_262 ⟨fun _ => ⟨rfl, by rw [dgs, List.take_succ_cons, List.take_nil]; rfl⟩, fun q => absurd (lg_le0.mpr (by decide)) q⟩
  | succ e ih =>
    intro n S he hn
    by_cases h : n = 108
    · subst h
      refine b_M_drawOne_262 ⟨fun q => absurd (p0 _ he) (lg_le0.mp q), fun _ => ⟨fun _ => ⟨by rw [Nat.min_eq_right (by omega)], by rw [Nat.sub_self, List.take_zero]; rfl⟩, fun q => absurd (by decide) q⟩⟩
    · refine b_M_drawOne_262 ⟨fun q => absurd (p0 _ he) (lg_le0.mp q), fun _ => ⟨fun q => absurd q (nI_ge (b := 108) (by omega) (by omega)), fun _ => ⟨nz _ he, vp_in_nI (show n < 110 by omega) (by decide), ?_⟩⟩⟩
      rw [ch _ he, ten_dn (by omega), nI_clamp (by omega), nI_1, show 108 - n = (108 - (n + 1)) + 1 by omega, dgs, List.take_succ_cons, show n + (e + 1) + 1 = (n + 1) + e + 1 by omega]
      exact ih (n + 1) _ (by omega) (by omega)
/-- a number's characters -/
theorem num_ch (z : Int32) : ∃ cs : List Nat, 1 ≤ cs.length ∧ cs.length ≤ 12 ∧ (∀ c ∈ cs, c < 128 ∧ c ≠ 95) ∧ (∀ (K : cp_K) (n : Nat), DN K n → KC 8 m_V_writeNumber (fun G => [.ref (cp_b G + 6), .int z]) K (fun _ => none) (wputs K cs)) ∧
    (∀ (S : cp_S) (n x : Nat) (x2 y1 : Int32), n ≤ 100 → x < 6000 → S.2 52 x = 0 → S.2 53 x = z → (y1 = 0 ∨ y1 = 1) → ∃ n' S', (n + cs.length ≤ 100 → n' = n + cs.length) ∧ (100 < n + cs.length → 100 < n') ∧ n' ≤ 112 ∧ JK 0 m_M_drawOne (some (.int (nI n'))) S' 118 [(1, .int (nI x)), (2, .int x2), (3, .int (nI n))] (fun G => [.int y1, .ref (cp_b G + 26)]) S ∧ S'.1 = va_up S.1 74 y1 ∧ (∀ p, p ≠ 29 → S'.2 p = S.2 p) ∧ (∀ i, i < n → S'.2 29 i = S.2 29 i) ∧ (n + cs.length ≤ 100 → ∀ i (h : i < cs.length), S'.2 29 (n + i) = nI cs[i])) := by
  have fit : ∀ y1 : Int32, (y1 = 0 ∨ y1 = 1) → narrow (cp_ty 11 74) (.int y1) = .int y1 ∧ fits (cp_ty 11 74) (.int y1) = true := fun y1 h => by
    rcases h with rfl | rfl <;> exact ⟨rfl, rfl⟩
  by_cases hz : z < 0
  · -- below nought
    obtain ⟨R, hR, hRz⟩ : ∃ R, R ≤ 2 ^ 31 ∧ -(Int32.toInt64 z) = lN R := by
      have h1 := Int32.lt_iff_toInt_lt.mp hz
      have h0 : (0 : Int32).toInt = 0 := rfl
      rw [h0] at h1
      have h2 := Int32.le_toInt z
      have h3 : (Int32.toInt64 z).toInt = z.toInt := Int32.toInt_toInt64 z
      refine ⟨(-z.toInt).toNat, by omega, ?_⟩
      apply Int64.toInt_inj.mp
      have h4 : (-z.toInt).bmod (2 ^ 64) = -z.toInt := Int.bmod_eq_of_le (by omega) (by omega)
      rw [Int64.toInt_neg, h3, pk_lT (by omega), Int.toNat_of_nonneg (by omega)]
      exact h4
    have hneg : ¬ 0 ≤ lg_cmp (Int32.toInt64 z) 0 := by
      have h1 := Int32.lt_iff_toInt_lt.mp hz
      have h3 : (Int32.toInt64 z).toInt = z.toInt := Int32.toInt_toInt64 z
      have h4 : Int32.toInt64 z < 0 := Int64.lt_iff_toInt_lt.mpr (by rw [h3]; exact h1)
      unfold lg_cmp
      rw [if_neg (fun q => Int64.lt_irrefl (Int64.lt_trans h4 q)), if_neg (fun q => Int64.lt_irrefl (q ▸ h4))]
      decide
    obtain ⟨e, e1, e2, e3⟩ := unit_m hR 10 0 rfl
    refine ⟨45 :: dgs R e, by simp, by rw [List.length_cons, dgs_len]; omega, fun c hc => ?_, fun K n hd => c_V_writeNumber (D := 0) ⟨fun q => absurd q hneg, fun _ => ⟨hd.n0, b_V_writeNumber_18 (D := 0) ?_⟩⟩, fun S n x x2 y1 hn hx s52 s53 hy => ?_⟩
    · rcases List.mem_cons.mp hc with h | h
      · omega
      · have := dgs_ch e c h; omega
    · rw [hRz]
      exact e2 _ _ _ _ (dgs_c hR e _ _ e1 (hd.put (c := 45) (by decide)))
    · have xi : vp_in (nI x) 6000 := vp_in_nI hx (by decide)
      obtain ⟨S0, hS0⟩ : ∃ S0 : cp_S, S0 = (va_up S.1 74 y1, va_up S.2 29 (upd (S.2 29) n (nI 45))) := ⟨_, rfl⟩
      obtain ⟨w1, w2, w3, w4⟩ := wpd_all ((dgs R e).take (108 - (n + 1))) S0 (n + 1)
      refine ⟨min (n + 1 + e + 1) 108, wpd S0 (n + 1) ((dgs R e).take (108 - (n + 1))), fun h => ?_, fun h => ?_, by omega, b_M_drawOne_118 ⟨fit y1 hy, xi, fun _ => ⟨xi, fun q => ?_, fun _ => ?_⟩, fun q => absurd (by rw [nI_clamp (by omega)]; exact s52) q⟩, ?_, fun p hp => ?_, fun i hi => ?_, fun h i hi => ?_⟩
      · rw [List.length_cons, dgs_len] at *; omega
      · rw [List.length_cons, dgs_len] at h; omega
      · rw [nI_clamp (by omega), s53] at q; exact absurd q hneg
      · refine ⟨vp_in_nI (show n < 110 by omega) (by decide), b_M_drawOne_236 ?_⟩
        rw [nI_clamp (show x < 2 ^ 31 by omega), s53, hRz, nI_1, nI_clamp (show n < 2 ^ 31 by omega)]
        have := dgs_r hR (x1 := nI x) (x2 := x2) e (n + 1) S0 e1 (by omega)
        rw [hS0] at this ⊢
        exact e3 _ _ _ _ _ _ this
      · rw [w1, hS0]
      · rw [w2 p hp, hS0]; exact cp_up_ne hp
      · rw [w3 i (by omega), hS0]
        exact s29_un (by omega)
      · rw [List.length_cons, dgs_len] at h
        cases i with
        | zero =>
          refine (w3 n (by omega)).trans ?_
          rw [hS0]
          exact s29_at
        | succ i =>
          have hi' : i < (dgs R e).length := by simpa using hi
          have := w4 i (by rw [List.length_take]; rw [dgs_len] at hi' ⊢; omega)
          rw [show n + 1 + i = n + (i + 1) by omega] at this
          rw [this, List.getElem_take]
          rfl
  · obtain ⟨R, hR, hRz⟩ := nI_of hz
    have hl : Int32.toInt64 z = lN R := by rw [hRz]; exact nI_l hR
    have hpos : 0 ≤ lg_cmp (Int32.toInt64 z) 0 := by
      rw [hl]
      unfold lg_cmp
      by_cases h0 : R = 0
      · rw [h0]; decide
      · rw [if_pos (show (0 : Int64) < lN R from (pk_lLT (a := 0) (by decide) (by omega)).mpr (by omega))]; decide
    obtain ⟨e, e1, e2, e3⟩ := unit_m (R := R) (by omega) 10 0 rfl
    refine ⟨dgs R e, by rw [dgs_len]; omega, by rw [dgs_len]; omega, fun c hc => by have := dgs_ch e c hc; omega, fun K n hd => c_V_writeNumber (D := 0) ⟨fun _ => b_V_writeNumber_18 (D := 0) ?_, fun q => absurd hpos q⟩, fun S n x x2 y1 hn hx s52 s53 hy => ?_⟩
    · rw [hl]
      exact e2 _ _ _ _ (dgs_c (by omega) e _ _ e1 hd)
    · have xi : vp_in (nI x) 6000 := vp_in_nI hx (by decide)
      obtain ⟨S0, hS0⟩ : ∃ S0 : cp_S, S0 = (va_up S.1 74 y1, S.2) := ⟨_, rfl⟩
      obtain ⟨w1, w2, w3, w4⟩ := wpd_all ((dgs R e).take (108 - n)) S0 n
      refine ⟨min (n + e + 1) 108, wpd S0 n ((dgs R e).take (108 - n)), fun h => ?_, fun h => ?_, by omega, b_M_drawOne_118 ⟨fit y1 hy, xi, fun _ => ⟨xi, fun _ => ?_, fun q => ?_⟩, fun q => absurd (by rw [nI_clamp (by omega)]; exact s52) q⟩, ?_, fun p hp => ?_, fun i hi => ?_, fun h i hi => ?_⟩
      · rw [dgs_len] at *; omega
      · rw [dgs_len] at h; omega
      · refine b_M_drawOne_236 ?_
        rw [nI_clamp (show x < 2 ^ 31 by omega), s53, hl]
        have := dgs_r (R := R) (by omega) (x1 := nI x) (x2 := x2) e n S0 e1 (by omega)
        rw [hS0] at this ⊢
        exact e3 _ _ _ _ _ _ this
      · rw [nI_clamp (by omega), s53] at q; exact absurd hpos q
      · rw [w1, hS0]
      · rw [w2 p hp, hS0]
      · rw [w3 i hi, hS0]
      · rw [dgs_len] at h
        have := w4 i (by rw [List.length_take]; rw [dgs_len] at hi ⊢; omega)
        rw [this, List.getElem_take]
