/-! ===== the law's loop: both objects on one heap ===== -/
def HH (G : cp_G) (S : cp_S) (u : Nat → Int64) : Nat → cp_E := mm G (fun _ => .inl (cp_cL G, 1, .inr (.inl u))) S
abbrev LH (G : cp_G) (bb i : Nat) : List (Nat × Value) := [(4, .int (nI i)), (3, .ref (cp_b G + 85)), (2, .ref (cp_b G + 26)), (1, .ref (cp_b G + 0)), (0, .ref bb)]
section CPLL
variable {G : cp_G} {H H' h h' : Nat → cp_E} {z : Nat} {K : cp_K} {S S' : cp_S} {u u' : Nat → Int64}
theorem CK.cg (C : CK G H h z K) (h1 : ∀ i, i < 26 ∨ 86 ≤ i → h' i = h i) (h2 : ∀ i, 26 ≤ i → i < 86 → h' i = H' i) : CK G H' h' z K := by
  obtain ⟨a1, -, a3, a4, a5, a6, a7⟩ := C
  have lo : ∀ p, kt K p ≠ 99 → p < 26 ∨ 86 ≤ p := fun p hp => by
    by_cases q : p < 26
    · exact Or.inl q
    · by_cases q' : p < 86
      · exfalso
        unfold kt at hp
        rw [if_pos q', k_tab_hi (by omega)] at hp
        exact hp rfl
      · exact Or.inr (by omega)
  refine ⟨a1, h2, fun p hp ht => ?_, fun q hq => ?_, ?_, fun r hr => ?_, a7⟩
  · rw [h1 p (lo p (by omega))]; exact a3 p hp ht
  · rw [h1 q.1 (Or.inl (k_ct hq).2.1)]; exact a4 q hq
  · rw [h1 4 (Or.inl (by decide))]; exact a5
  · refine (a6 r hr).mv (Nat.le_refl _) (fun _ _ => rfl) rfl hr (fun p hp q => h1 p ?_)
    rcases q with q | q
    · rw [q]; exact Or.inl (k_rt hr).2
    · exact lo p (by
        have : 7 ≤ r := by
          simp only [k_rows, List.mem_cons, List.not_mem_nil, or_false] at hr
          omega
        omega)
theorem HH_at {i : Nat} (h1 : 26 ≤ i) (h2 : i < 85) : HH G S u i = mm G h S i := by
  unfold HH mm
  by_cases q : i = 26
  · rw [if_pos q, if_pos q]
  · rw [if_neg q, if_neg q, if_pos ⟨by omega, h2⟩, if_pos ⟨by omega, h2⟩]
theorem HH_85 : HH G S u 85 = .inl (cp_cL G, 1, .inr (.inl u)) := by
  unfold HH
  rw [mm_o (Or.inr (by decide))]
theorem CK.mme (C : CK G (HH G S u) h z K) : mm G h S = h := by
  funext i
  by_cases q : 26 ≤ i ∧ i < 85
  · rw [C.2.1 i q.1 (by omega), HH_at (h := h) q.1 q.2]
  · rw [mm_o (by omega)]
theorem CK.st (C : CK G (HH G S u) h z K) : CK G (HH G S' u) (mm G h S') z K := C.cg (fun i hi => mm_o (by omega)) (fun i h1 h2 => by
  by_cases q : i < 85
  · rw [HH_at (h := h) h1 q]
  · have : i = 85 := by omega
    subst this
    rw [mm_o (Or.inr (by decide)), C.2.1 85 (by decide) (by decide), HH_85, HH_85])
theorem CK.out (C : CK G (HH G S u) h z K) : CK G (HH G S u') (va_up h 85 (.inl (cp_cL G, 1, .inr (.inl u')))) z K := C.cg (fun i hi => cp_up_ne (by omega)) (fun i h1 h2 => by
  by_cases q : i = 85
  · subst q
    rw [va_up_at, HH_85]
  · rw [cp_up_ne q, C.2.1 i h1 h2, HH_at (h := h) h1 (by omega), HH_at (h := h) h1 (by omega)])
theorem CK.h0 (C : CK G H h z K) : h 0 = .inr (0, kg G K 0 0) := C.2.2.1 0 (by have := C.1; omega) (show 0 < 14 by decide)
theorem CK.h26 (C : CK G (HH G S u) h z K) : h 26 = .inr (11, mg G S.1) := by
  rw [C.2.1 26 (by decide) (by decide)]
  exact mm_26
theorem CK.h85 (C : CK G (HH G S u) h z K) : h 85 = .inl (cp_cL G, 1, .inr (.inl u)) := by
  rw [C.2.1 85 (by decide) (by decide), HH_85]
theorem CK.caps (C : CK G H h z K) : k_caps K ≤ 2260992 := by
  have r := C.2.2.2.2.2.1
  have a1 : (K.2.2.2 7).2.1 ≤ 2097152 := (r 7 (by decide)).2
  have a2 : (K.2.2.2 9).2.1 ≤ 32768 := (r 9 (by decide)).2
  have a3 : (K.2.2.2 11).2.1 ≤ 32768 := (r 11 (by decide)).2
  have a4 : (K.2.2.2 15).2.1 ≤ 32768 := (r 15 (by decide)).2
  have a5 : (K.2.2.2 17).2.1 ≤ 32768 := (r 17 (by decide)).2
  have a6 : (K.2.2.2 19).2.1 ≤ 32768 := (r 19 (by decide)).2
  unfold k_caps
  omega
end CPLL
theorem q_end {L i : Nat} (hL : L ≤ 1024) (hi : i ≤ 1026) : (i + 2 > L → Int32.ofNat L - 2 < nI i) ∧ (i + 2 ≤ L → ¬ Int32.ofNat L - 2 < nI i) := by
  have e : (nI L - 2).toInt = (L : Int) - 2 := pk_sub_toInt (a := L) (b := 2) (by omega) (by omega)
  have e2 : (nI i).toInt = (i : Int) := by
    have := pk_sub_toInt (a := i) (b := 0) (by omega) (by omega)
    have h0 : nI i - nI 0 = nI i := by
      have := pk_sub (a := i) (b := 0) (Nat.zero_le _)
      exact this
    rw [h0] at this
    omega
  have e' : (Int32.ofNat L - 2).toInt = (L : Int) - 2 := e
  refine ⟨fun q => Int32.lt_iff_toInt_lt.mpr (by rw [e', e2]; omega), fun q g => ?_⟩
  have := Int32.lt_iff_toInt_lt.mp g
  rw [e', e2] at this
  omega
theorem q_cmp {x y : Int64} (h : x = y) : lg_cmp x y = 0 := by
  rw [h]
  unfold lg_cmp
  simp
