/-! ===== the law's loop ===== -/
theorem law_loop {G : cp_G} {d bb L : Nat} {xs : Nat → Int32} (hS : cp_scr G bb L xs) (hL : L ≤ 1024) (hd : 400 ≤ d) : ∀ (m j : Nat) (K : cp_K) (S : cp_S) (Ls : List Nat) (rf P : Nat), L ≤ 2 * j + 2 * m + 1 → 2 * j ≤ L + 1 → INV K S Ls rf P → 64 * K.1.1 ≤ 64 * (86 + 200 * j) + k_caps K → LPP G d bb 23 (2 * j) K S := by
  have stop : ∀ (j : Nat) (K : cp_K) (S : cp_S), 2 * j + 2 > L → 2 * j ≤ L + 1 → 64 * K.1.1 ≤ 64 * (86 + 200 * j) + k_caps K → LPP G d bb 23 (2 * j) K S := fun j K S h1 h2 h3 h z u C => by
    have hc := C.caps
    have hz := C.2.2.2.2.2.2
    exact ⟨h, K.1.1, z, by omega, by omega, q_stop hS hL (by omega) h1⟩
  intro m
  induction m with
  | zero =>
    intro j K S Ls rf P h1 h2 _ h3
    exact stop j K S (by omega) h2 h3
  | succ m ih =>
    intro j K S Ls rf P h1 h2 inv h3
    by_cases hi : 2 * j + 2 ≤ L
    rotate_left
    · exact stop j K S (by omega) h2 h3
    have nx : ∀ (K' : cp_K) (S' : cp_S) (Ls' : List Nat) (rf' P' : Nat), INV K' S' Ls' rf' P' → GRW 200 K K' → LPP G d bb 23 (2 * j + 2) K' S' := fun K' S' Ls' rf' P' i1 g => by
      have := ih (j + 1) K' S' Ls' rf' P' (by omega) (by omega) i1 (by have := g.2; omega)
      rw [show 2 * (j + 1) = 2 * j + 2 by omega] at this
      exact this
    obtain ⟨q, hq1, hq⟩ := pk_andE (xs (2 * j)) (m := 15) 4 (by decide +kernel)
    obtain ⟨c, hc, hcx⟩ : ∃ k : Nat, k < 65536 ∧ ((xs (2 * j + 1)).toUInt32 % 65536).toInt32 = nI k := ⟨_, Nat.mod_lt _ (by decide), pk_char (xs (2 * j + 1))⟩
    have thr : ∀ (S' : cp_S), INV K S' Ls rf P → LPP G d bb 23 (2 * j + 2) (kN K 99) S' := fun S' i1 => nx _ _ _ _ _ i1.kn (GRW.kN.le (by omega))
    have hj2 : q = 0 ∨ q = 1 ∨ q = 2 ∨ q = 3 ∨ q = 4 ∨ q = 5 ∨ q = 6 ∨ q = 7 ∨ q = 8 ∨ q = 9 ∨ q = 10 ∨ q = 11 ∨ q = 12 ∨ q = 13 ∨ q = 14 ∨ q = 15 := by omega
    rcases hj2 with rfl | rfl | rfl | rfl | rfl | rfl | rfl | rfl | rfl | rfl | rfl | rfl | rfl | rfl | rfl | rfl
    · obtain ⟨r, K', S', a1, a2, a3, -, a5⟩ := f_type inv hc
      exact t_disp_0 hS hL hi hq (s_law_0 hS hL hi hcx a1 a2 (by omega) (by omega) (nx _ _ _ _ _ a3 (a5.le (by omega))))
    · obtain ⟨r, K', S', a1, a2, a3, -, a5⟩ := f_wipe inv
      exact t_disp_1 hS hL hi hq (s_law_1 hS hL hi a1 a2 (by omega) (by omega) (nx _ _ _ _ _ a3 (a5.le (by omega))))
    · rcases f_declare inv hc with ⟨ci, x, S', a1, a2, a3, a4, a5⟩ | ⟨r, K', S', Ls', rf', P', a1, a2, a3, a4, a5⟩
      · rcases a5 with ⟨rfl, rfl⟩ | ⟨rfl, rfl⟩
        · exact t_disp_2 hS hL hi hq (s_law_2_12 hS hL hi hcx a1 a2 a4 (by omega) (by omega) (thr S' a3))
        · exact t_disp_2 hS hL hi hq (s_law_2_13 hS hL hi hcx a1 a2 a4 (by omega) (by omega) (thr S' a3))
      · exact t_disp_2 hS hL hi hq (s_law_2 hS hL hi hcx a1 a2 a4 (by omega) (by omega) (nx _ _ _ _ _ a3 (a5.le (by omega))))
    · rcases f_program inv hc with ⟨ci, x, S', a1, a2, a3, a4, a5⟩ | ⟨r, K', S', Ls', rf', P', a1, a2, a3, a4, a5⟩
      · rcases a5 with ⟨rfl, rfl⟩ | ⟨rfl, rfl⟩
        · exact t_disp_3 hS hL hi hq (s_law_3_12 hS hL hi hcx a1 a2 a4 (by omega) (by omega) (thr S' a3))
        · exact t_disp_3 hS hL hi hq (s_law_3_13 hS hL hi hcx a1 a2 a4 (by omega) (by omega) (thr S' a3))
      · exact t_disp_3 hS hL hi hq (s_law_3 hS hL hi hcx a1 a2 a4 (by omega) (by omega) (nx _ _ _ _ _ a3 (a5.le (by omega))))
    · obtain ⟨r, K', S', a1, a2, a3, -, a5⟩ := f_check inv
      exact t_disp_4 hS hL hi hq (s_law_4 hS hL hi a1 a2 (by omega) (by omega) (nx _ _ _ _ _ a3 a5))
    · rcases f_lemma inv hc with ⟨ci, x, S', a1, a2, a3, a4, a5⟩ | ⟨K', S', Ls', rf', P', a1, a2, a3, a4, a5⟩
      · rcases a5 with ⟨rfl, rfl⟩ | ⟨rfl, rfl⟩
        · exact t_disp_5 hS hL hi hq (s_law_5_12 hS hL hi hcx a1 a2 a4 (by omega) (by omega) (thr S' a3))
        · exact t_disp_5 hS hL hi hq (s_law_5_13 hS hL hi hcx a1 a2 a4 (by omega) (by omega) (thr S' a3))
      · exact t_disp_5 hS hL hi hq (s_law_5 hS hL hi hcx a1 a2 a4 (by omega) (by omega) (nx _ _ _ _ _ a3 (a5.le (by omega))))
    · rcases f_retract inv with ⟨a1, a2⟩ | ⟨r, K', S', Ls', rf', P', a1, a2, a3, a4, a5⟩
      · exact t_disp_6 hS hL hi hq (s_law_6_13 hS hL hi a1 a2 rfl (by omega) (by omega) (thr _ (inv.f0 (x := 1))))
      · exact t_disp_6 hS hL hi hq (s_law_6 hS hL hi a1 a2 a4 (by omega) (by omega) (nx _ _ _ _ _ a3 (a5.le (by omega))))
    · rcases f_run inv hc with ⟨a1, a2⟩ | ⟨r, K', S', a1, a2, a3, a4, a5⟩
      · exact t_disp_7 hS hL hi hq (s_law_7_12 hS hL hi hcx a1 a2 rfl (by omega) (by omega) (thr _ (inv.f0 (x := 1))))
      · exact t_disp_7 hS hL hi hq (s_law_7 hS hL hi hcx a1 a2 a4 (by omega) (by omega) (nx _ _ _ _ _ a3 a5))
    · obtain ⟨a1, a2⟩ := f_steps inv
      exact t_disp_8 hS hL hi hq (s_law_8 hS hL hi a1 a2 (by omega) (by omega) (nx _ _ _ _ _ inv.f0 GRW.refl))
    · obtain ⟨r, a1, a2⟩ := f_kind inv hc
      exact t_disp_9 hS hL hi hq (s_law_9 hS hL hi hcx a1 a2 (by omega) (by omega) (nx _ _ _ _ _ inv.f0 GRW.refl))
    · obtain ⟨r, a1, a2⟩ := f_parameters inv hc
      exact t_disp_10 hS hL hi hq (s_law_10 hS hL hi hcx a1 a2 (by omega) (by omega) (nx _ _ _ _ _ inv.f0 GRW.refl))
    · obtain ⟨a1, a2⟩ := f_length inv
      exact t_disp_11 hS hL hi hq (s_law_11 hS hL hi a1 a2 (by omega) (by omega) (nx _ _ _ _ _ inv.f0 GRW.refl))
    · obtain ⟨r, a1, a2⟩ := f_charAt inv (xs (2 * j + 1))
      exact t_disp_12 hS hL hi hq (s_law_12 hS hL hi rfl a1 a2 (by omega) (by omega) (nx _ _ _ _ _ inv.f0 GRW.refl))
    · exact t_disp_13 hS hL hi hq (s_law_13 (nx _ _ _ _ _ inv GRW.refl))
    · exact t_disp_14 hS hL hi hq (s_law_13 (nx _ _ _ _ _ inv GRW.refl))
    · exact t_disp_15 hS hL hi hq (s_law_13 (nx _ _ _ _ _ inv GRW.refl))
