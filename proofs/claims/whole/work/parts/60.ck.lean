/-! ===== the class's state: number of places and their tags, ints, references, Rows; the heap that holds it ===== -/
/-- ((n, tags), ints by place and number, references by place and number (0: null), Rows by place: size, room, items) -/
abbrev cp_K : Type := (Nat × (Nat → Nat)) × (Nat → Nat → Int32) × (Nat → Nat → Nat) × (Nat → Nat × Nat × (Nat → Int32))
def kr (G : cp_G) (p : Nat) : Option Nat := if p = 0 then none else some (cp_b G + p)
/-- tags of the first places: a class's number, 100 + r for the items of the Row r at the start, 99 for the rest -/
def k_tab (p : Nat) : Nat := ([0, 99, 99, 1, 99, 99, 2, 99, 107, 99, 109, 99, 111, 99, 4, 99, 115, 99, 117, 99, 119, 5, 99, 6, 7, 8] : List Nat).getD p 99
def kt (K : cp_K) (p : Nat) : Nat := if p < 86 then k_tab p else K.1.2 p
/-- fields that never change: the place they hold; 0 for the others -/
def k_fx (c k : Nat) : Nat := (([[1, 0, 2, 0, 3, 6, 14, 21, 23, 24, 25], [4, 5], [7, 9, 11, 13], [], [15, 17, 19], [], [3, 6, 14], [3, 6, 14, 23], [3, 14]] : List (List Nat)).getD c []).getD k 0
/-- 1: a reference that changes -/
def k_ir (c k : Nat) : Nat := (([[0, 0, 0, 0, 0, 0, 0, 0, 0, 0, 0, 1], [], [], [], [], [1], [], [], [], [0, 0, 0, 0, 1, 1, 1], [0, 0, 0, 0, 1]] : List (List Nat)).getD c []).getD k 0
def kg (G : cp_G) (K : cp_K) (p c : Nat) : Nat → Value := fun k => if k_fx c k = 0 then (if k_ir c k = 0 then .int (K.2.1 p k) else va_rf (kr G (K.2.2.1 p k))) else .ref (cp_b G + k_fx c k)
def k_rows : List Nat := [7, 9, 11, 15, 17, 19]
def k_lim (r : Nat) : Nat := if r = 7 then 1048576 else 16384
def k_row (G : cp_G) (h : Nat → cp_E) (K : cp_K) (r : Nat) : Prop := (∃ g a f, cp_row G h K.1.1 r g a (K.2.2.2 r).2.1 (K.2.2.2 r).1 f ∧ kt K a = 100 + r ∧ ∀ j, j < (K.2.2.2 r).1 → f j = (K.2.2.2 r).2.2 j) ∧ (K.2.2.2 r).2.1 ≤ 2 * k_lim r
def k_ent (G : cp_G) (K : cp_K) : cp_E := .inl (cp_cE G, 26, .inr (.inr (.inr (.inr (fun j => kr G (K.2.2.1 4 j))))))
def k_cs : List (Nat × Nat) := [(1, 80), (2, 100), (5, 26), (13, 101), (22, 0)]
def k_caps (K : cp_K) : Nat := (K.2.2.2 7).2.1 + ((K.2.2.2 9).2.1 + ((K.2.2.2 11).2.1 + ((K.2.2.2 15).2.1 + ((K.2.2.2 17).2.1 + (K.2.2.2 19).2.1))))
/-- the heap h holds the state K; what lies in the places 26 to 85 is H's -/
def CK (G : cp_G) (H h : Nat → cp_E) (z : Nat) (K : cp_K) : Prop :=
  86 ≤ K.1.1 ∧ (∀ i, 26 ≤ i → i < 86 → h i = H i) ∧ (∀ p, p < K.1.1 → kt K p < 14 → h p = .inr (kt K p, kg G K p (kt K p))) ∧ (∀ q ∈ k_cs, h q.1 = .inl (cp_cC G, q.2, .inl (K.2.1 q.1))) ∧ h 4 = k_ent G K ∧ (∀ r ∈ k_rows, k_row G h K r) ∧ z ≤ 49035 + 7 * (K.1.1 - 86) + 2 * k_caps K
/-- an object stands at p: one of the first, or a later one -/
def nd (K : cp_K) (p c : Nat) : Prop := 86 ≤ p ∧ p < K.1.1 ∧ K.1.2 p = c
def ko (K : cp_K) (p c : Nat) : Prop := (p < 86 ∧ k_tab p = c) ∨ nd K p c
theorem ko.tg {K : cp_K} {p c : Nat} (h : ko K p c) : kt K p = c := by
  unfold kt
  rcases h with h | h
  · rw [if_pos h.1]; exact h.2
  · rw [if_neg (by have := h.1; omega)]; exact h.2.2
theorem ko.lt {K : cp_K} {p c : Nat} (h : ko K p c) (hn : 86 ≤ K.1.1) : p < K.1.1 := by
  rcases h with h | h
  · omega
  · exact h.2.1
theorem nd.rf {G : cp_G} {K : cp_K} {p c : Nat} (h : nd K p c) : va_rf (kr G p) = .ref (cp_b G + p) := by
  unfold kr
  rw [if_neg (by have := h.1; omega)]
  rfl
def kI (K : cp_K) (p k : Nat) (x : Int32) : cp_K := (K.1, va_up K.2.1 p (va_up (K.2.1 p) k x), K.2.2)
def kP (K : cp_K) (p k q : Nat) : cp_K := (K.1, K.2.1, va_up K.2.2.1 p (va_up (K.2.2.1 p) k q), K.2.2.2)
def kN (K : cp_K) (c : Nat) : cp_K := ((K.1.1 + 1, va_up K.1.2 K.1.1 c), va_up K.2.1 K.1.1 (fun _ => 0), va_up K.2.2.1 K.1.1 (fun _ => 0), K.2.2.2)
def kS (K : cp_K) (r : Nat) (x : Nat × Nat × (Nat → Int32)) : cp_K := (K.1, K.2.1, K.2.2.1, va_up K.2.2.2 r x)
theorem upd_up {f : Nat → Int32} {j : Nat} {x : Int32} : upd f j x = va_up f j x := by
  funext q
  by_cases h : q = j
  · subst h; rw [pk_us, va_up_at]
  · rw [pk_un h, cp_up_ne h]
/-- a Row stays when the heap stays at its places, and the state's tags and size grow -/
theorem k_row.mv {G : cp_G} {h h' : Nat → cp_E} {K K' : cp_K} {r : Nat} (R : k_row G h K r) (hn : K.1.1 ≤ K'.1.1) (ht : ∀ p, p < K.1.1 → kt K' p = kt K p) (hr : K'.2.2.2 r = K.2.2.2 r) (hk : r ∈ k_rows) (hh : ∀ p, p < K.1.1 → (p = r ∨ kt K p = 100 + r) → h' p = h p) : k_row G h' K' r := by
  obtain ⟨⟨g, a, f, ⟨q1, q2, ⟨q3, q4, q5⟩, q6, q7⟩, q8, q9⟩, q10⟩ := R
  refine ⟨⟨g, a, f, ?_, ?_, ?_⟩, ?_⟩
  · rw [hr]
    exact ⟨by omega, by omega, ⟨by rw [hh r q1 (Or.inl rfl)]; exact q3, q4, q5⟩, by rw [hh a q2 (Or.inr q8)]; exact q6, q7⟩
  · rw [ht a q2]; exact q8
  · rw [hr]; exact q9
  · rw [hr]; exact q10
theorem k_rt {r : Nat} (h : r ∈ k_rows) : k_tab r = 99 ∧ r < 26 := by
  simp only [k_rows, List.mem_cons, List.not_mem_nil, or_false] at h
  rcases h with rfl | rfl | rfl | rfl | rfl | rfl <;> exact ⟨rfl, by decide⟩
theorem k_ct {q : Nat × Nat} (h : q ∈ k_cs) : k_tab q.1 = 99 ∧ q.1 < 26 ∧ q.1 ≠ 4 ∧ q.1 ∉ k_rows := by
  simp only [k_cs, List.mem_cons, List.not_mem_nil, or_false] at h
  rcases h with rfl | rfl | rfl | rfl | rfl <;> exact ⟨rfl, by decide, by decide, by decide⟩
theorem kt_lo {K : cp_K} {p : Nat} (h : p < 86) : kt K p = k_tab p := if_pos h
/-- a put into an object -/
theorem CK.obj {G : cp_G} {H h : Nat → cp_E} {z : Nat} {K K' : cp_K} {p c : Nat} (C : CK G H h z K) (hp : ko K p c) (hc : c < 14) (h26 : p < 26 ∨ 86 ≤ p) (e1 : K'.1 = K.1) (e2 : ∀ q, q ≠ p → K'.2.1 q = K.2.1 q) (e3 : ∀ q, q ≠ p → K'.2.2.1 q = K.2.2.1 q) (e4 : K'.2.2.2 = K.2.2.2) :
    CK G H (va_up h p (.inr (c, kg G K' p c))) z K' := by
  obtain ⟨c1, c2, c3, c4, c5, c6, c7⟩ := C
  have hkt := hp.tg
  have hlt := hp.lt c1
  have et : ∀ q, kt K' q = kt K q := fun q => by unfold kt; rw [e1]
  refine ⟨by rw [e1]; exact c1, fun i h1 h2 => ?_, fun q h1 h2 => ?_, fun q hq => ?_, ?_, fun r hr => ?_, ?_⟩
  · rw [cp_up_ne (by omega)]; exact c2 i h1 h2
  · rw [et] at h2 ⊢
    rw [e1] at h1
    by_cases hq : q = p
    · subst hq
      rw [va_up_at, hkt]
    · rw [cp_up_ne hq, c3 q h1 h2]
      congr 2
      funext k
      unfold kg
      rw [e2 q hq, e3 q hq]
  · have h3 := k_ct hq
    have hne : q.1 ≠ p := by
      intro e
      rw [← e, kt_lo (by omega)] at hkt
      omega
    rw [cp_up_ne hne, e2 _ hne]
    exact c4 q hq
  · have hne : 4 ≠ p := by
      intro e
      rw [← e, kt_lo (by omega)] at hkt
      have : k_tab 4 = 99 := rfl
      omega
    rw [cp_up_ne hne, c5]
    unfold k_ent
    rw [e3 4 hne]
  · refine (c6 r hr).mv (by rw [e1]; exact Nat.le_refl _) (fun q _ => et q) (by rw [e4]) hr (fun q h1 h2 => ?_)
    have hne : q ≠ p := by
      intro e
      subst e
      rcases h2 with h2 | h2
      · rw [h2] at hkt
        have := k_rt hr
        rw [kt_lo (by omega)] at hkt
        omega
      · omega
    rw [cp_up_ne hne]
  · unfold k_caps
    rw [e1, e4]
    exact c7
/-- a put into an array of characters -/
theorem CK.chr {G : cp_G} {H h : Nat → cp_E} {z : Nat} {K : cp_K} {p len j : Nat} {x : Int32} (C : CK G H h z K) (hp : (p, len) ∈ k_cs) :
    CK G H (va_up h p (.inl (cp_cC G, len, .inl (upd (K.2.1 p) j x)))) z (kI K p j x) := by
  obtain ⟨c1, c2, c3, c4, c5, c6, c7⟩ := C
  have h3 : k_tab p = 99 ∧ p < 26 ∧ p ≠ 4 ∧ p ∉ k_rows := k_ct hp
  have et : ∀ q, kt (kI K p j x) q = kt K q := fun q => rfl
  refine ⟨c1, fun i h1 h2 => ?_, fun q h1 h2 => ?_, fun q hq => ?_, ?_, fun r hr => ?_, c7⟩
  · rw [cp_up_ne (by omega)]; exact c2 i h1 h2
  · rw [et] at h2 ⊢
    have hne : q ≠ p := by
      intro e
      subst e
      rw [kt_lo (by omega)] at h2
      omega
    rw [cp_up_ne hne, c3 q h1 h2]
    congr 2
    funext k
    unfold kg kI
    simp only [cp_up_ne hne]
  · by_cases hne : q.1 = p
    · have hl : q.2 = len := by
        obtain ⟨q1, q2⟩ := q
        simp only at hne
        subst hne
        simp only [k_cs, List.mem_cons, List.not_mem_nil, or_false, Prod.mk.injEq] at hq hp
        omega
      rw [hne, hl, va_up_at]
      unfold kI
      simp only [va_up_at, upd_up]
    · rw [cp_up_ne hne]
      unfold kI
      simp only [cp_up_ne hne]
      exact c4 q hq
  · rw [cp_up_ne (by omega)]
    exact c5
  · refine (c6 r hr).mv (Nat.le_refl _) (fun q _ => rfl) rfl hr (fun q h1 h2 => ?_)
    have hne : q ≠ p := by
      intro e
      subst e
      rcases h2 with h2 | h2
      · exact h3.2.2.2 (h2 ▸ hr)
      · rw [kt_lo (by omega)] at h2; omega
    rw [cp_up_ne hne]
/-- a put into the table of letters -/
theorem CK.ent {G : cp_G} {H h : Nat → cp_E} {z : Nat} {K : cp_K} {j q : Nat} (C : CK G H h z K) :
    CK G H (va_up h 4 (.inl (cp_cE G, 26, .inr (.inr (.inr (.inr (va_up (fun j => kr G (K.2.2.1 4 j)) j (kr G q)))))))) z (kP K 4 j q) := by
  obtain ⟨c1, c2, c3, c4, c5, c6, c7⟩ := C
  have h4 : k_tab 4 = 99 := rfl
  refine ⟨c1, fun i h1 h2 => ?_, fun p h1 h2 => ?_, fun p hp => ?_, ?_, fun r hr => ?_, c7⟩
  · rw [cp_up_ne (by omega)]; exact c2 i h1 h2
  · have h2' : kt K p < 14 := h2
    have hne : p ≠ 4 := by
      intro e
      subst e
      rw [kt_lo (by omega)] at h2'
      omega
    rw [cp_up_ne hne, c3 p h1 h2']
    congr 2
    funext k
    unfold kg kP
    simp only [cp_up_ne hne]
    rfl
  · rw [cp_up_ne (k_ct hp).2.2.1]
    exact c4 p hp
  · rw [va_up_at]
    unfold k_ent kP
    simp only [va_up_at]
    congr 7
    funext k
    by_cases hk : k = j
    · subst hk; rw [va_up_at, va_up_at]
    · rw [cp_up_ne hk, cp_up_ne hk]
  · refine (c6 r hr).mv (Nat.le_refl _) (fun q _ => rfl) rfl hr (fun p h1 h2 => ?_)
    have hne : p ≠ 4 := by
      intro e
      subst e
      rcases h2 with h2 | h2
      · rw [← h2] at hr; revert hr; decide
      · rw [kt_lo (by omega)] at h2; omega
    rw [cp_up_ne hne]
/-- a new object -/
theorem CK.new {G : cp_G} {H h : Nat → cp_E} {z N : Nat} {K : cp_K} {c : Nat} (C : CK G H h z K) (hc : c < 14 → ∀ k, kg G (kN K c) K.1.1 c k = defaultValue (cp_ty c k)) (hN : N ≤ 7) :
    CK G H (va_up h K.1.1 (.inr (c, fun k => defaultValue (cp_ty c k)))) (z + N) (kN K c) := by
  obtain ⟨c1, c2, c3, c4, c5, c6, c7⟩ := C
  have et : ∀ q, q < K.1.1 → kt (kN K c) q = kt K q := fun q hq => by
    unfold kt kN
    simp only [cp_up_ne (Nat.ne_of_lt hq)]
  refine ⟨by show 86 ≤ K.1.1 + 1; omega, fun i h1 h2 => ?_, fun p h1 h2 => ?_, fun p hp => ?_, ?_, fun r hr => ?_, ?_⟩
  · rw [cp_up_ne (by omega)]; exact c2 i h1 h2
  · by_cases hp : p = K.1.1
    · subst hp
      have e1 : kt (kN K c) K.1.1 = c := by
        unfold kt kN
        rw [if_neg (by omega)]
        simp only [va_up_at]
      rw [e1] at h2 ⊢
      rw [va_up_at]
      congr 2
      funext k
      exact (hc h2 k).symm
    · have h3 : p < K.1.1 := by
        have : p < K.1.1 + 1 := h1
        omega
      rw [et p h3] at h2 ⊢
      rw [cp_up_ne hp, c3 p h3 h2]
      congr 2
      funext k
      unfold kg kN
      simp only [cp_up_ne hp]
  · have := (k_ct hp).2.1
    rw [cp_up_ne (by omega), c4 p hp]
    unfold kN
    simp only [cp_up_ne (show p.1 ≠ K.1.1 by omega)]
  · rw [cp_up_ne (by omega), c5]
    unfold k_ent kN
    simp only [cp_up_ne (show 4 ≠ K.1.1 by omega)]
  · exact (c6 r hr).mv (Nat.le_succ _) et rfl hr (fun p h1 _ => cp_up_ne (by omega))
  · have e1 : k_caps (kN K c) = k_caps K := rfl
    have e2 : (kN K c).1.1 = K.1.1 + 1 := rfl
    rw [e1, e2]
    omega
