section CPMo
variable {G : cp_G} {mt : cp_M} {d n0 z0 : Nat} {o : cp_O} {h' : Nat → cp_E} {n' z' pc : Nat} {lv : List (Nat × Value)} {rest : List Value} {h : Nat → cp_E} {n z : Nat}
theorem vv_topi {x y : Int32} (e : x = y) (k : cp_V G mt d n0 z0 o h' n' z' pc lv (.int y :: rest) h n z) : cp_V G mt d n0 z0 o h' n' z' pc lv (.int x :: rest) h n z := e ▸ k
theorem vv_topv {x y : Value} (e : x = y) (k : cp_V G mt d n0 z0 o h' n' z' pc lv (y :: rest) h n z) : cp_V G mt d n0 z0 o h' n' z' pc lv (x :: rest) h n z := e ▸ k
end CPMo
theorem cp_thr12 : ∀ w ∈ Bundle.ownAtoms "ConditionedProofs" 180 (cp_R 12) cp_up, w ∈ cp_thr := fun _ h => List.mem_append_left _ h
theorem cp_thr13 : ∀ w ∈ Bundle.ownAtoms "ConditionedProofs" 148 (cp_R 13) cp_up, w ∈ cp_thr := fun _ h => List.mem_append_right _ h
theorem cp_fit12 : Bundle.fit (cp_R 12) = true := by decide +kernel
theorem cp_fit13 : Bundle.fit (cp_R 13) = true := by decide +kernel
/-- a place among the 26 letters, or none -/
theorem cp_letter {k : Nat} (hk : k < 65536) : (nI k < 65 ∧ nI k - 65 < 0) ∨ (¬ nI k < 65 ∧ 90 < nI k ∧ ¬ nI k - 65 < 0 ∧ 26 ≤ nI k - 65) ∨ (¬ nI k < 65 ∧ ¬ 90 < nI k ∧ ¬ nI k - 65 < 0 ∧ ¬ 26 ≤ nI k - 65 ∧ vp_in (nI k - 65) 26) := by
  have e65 : (65 : Int32) = nI 65 := rfl
  have e90 : (90 : Int32) = nI 90 := rfl
  have e26 : (26 : Int32) = nI 26 := rfl
  by_cases h1 : k < 65
  · left
    refine ⟨by rw [e65, nI_ltI (by omega) (by omega)]; exact h1, by rw [e65]; exact pk_sneg (by omega) h1⟩
  · have hs : nI k - 65 = nI (k - 65) := by rw [e65]; exact pk_sub (by omega)
    right
    by_cases h2 : 90 < k
    · left
      refine ⟨by rw [e65, nI_ltI (by omega) (by omega)]; exact h1, by rw [e90, nI_ltI (by omega) (by omega)]; exact h2, by rw [hs]; exact nI_pos (by omega), by rw [hs, e26]; exact nI_le (by omega) (by omega)⟩
    · right
      refine ⟨by rw [e65, nI_ltI (by omega) (by omega)]; exact h1, by rw [e90, nI_ltI (by omega) (by omega)]; exact h2, by rw [hs]; exact nI_pos (by omega), by rw [hs, e26, nI_leI (by omega) (by omega)]; omega, by rw [hs]; exact vp_in_nI (by omega) (by omega)⟩
