/-! ===== the start: both objects are new ===== -/
def K0s : cp_K := ((86, fun _ => 0), fun p k => if p = 24 ∧ (k = 6 ∨ k = 7) then -1 else 0, fun p k => if p = 21 ∧ k = 0 then 22 else 0, fun r => (0, if r = 7 then 512 else 64, fun _ => 0))
def S0s : cp_S := (fun _ => 0, fun _ _ => 0)
def FRS (G : cp_G) (h : Nat → cp_E) : Prop := (∃ g, h 0 = .inr (0, g) ∧ ∀ k, g k = kg G K0s 0 0 k) ∧ (∃ g, h 3 = .inr (1, g) ∧ ∀ k, g k = kg G K0s 3 1 k) ∧ (∃ g, h 6 = .inr (2, g) ∧ ∀ k, g k = kg G K0s 6 2 k) ∧ (∃ g, h 14 = .inr (4, g) ∧ ∀ k, g k = kg G K0s 14 4 k) ∧ (∃ g, h 21 = .inr (5, g) ∧ ∀ k, g k = kg G K0s 21 5 k) ∧ (∃ g, h 23 = .inr (6, g) ∧ ∀ k, g k = kg G K0s 23 6 k) ∧ (∃ g, h 24 = .inr (7, g) ∧ ∀ k, g k = kg G K0s 24 7 k) ∧ (∃ g, h 25 = .inr (8, g) ∧ ∀ k, g k = kg G K0s 25 8 k) ∧ (∃ g, h 26 = .inr (11, g) ∧ ∀ k, g k = mg G S0s.1 k) ∧ (∃ g, h 7 = .inr (3, g) ∧ g 0 = .ref (cp_b G + 8) ∧ g 1 = .int 0) ∧ (∃ g, h 9 = .inr (3, g) ∧ g 0 = .ref (cp_b G + 10) ∧ g 1 = .int 0) ∧ (∃ g, h 11 = .inr (3, g) ∧ g 0 = .ref (cp_b G + 12) ∧ g 1 = .int 0) ∧ (∃ g, h 15 = .inr (3, g) ∧ g 0 = .ref (cp_b G + 16) ∧ g 1 = .int 0) ∧ (∃ g, h 17 = .inr (3, g) ∧ g 0 = .ref (cp_b G + 18) ∧ g 1 = .int 0) ∧ (∃ g, h 19 = .inr (3, g) ∧ g 0 = .ref (cp_b G + 20) ∧ g 1 = .int 0) ∧ h 8 = .inl (cp_cI G, 512, .inl (fun _ => 0)) ∧ h 10 = .inl (cp_cI G, 64, .inl (fun _ => 0)) ∧ h 12 = .inl (cp_cI G, 64, .inl (fun _ => 0)) ∧ h 16 = .inl (cp_cI G, 64, .inl (fun _ => 0)) ∧ h 18 = .inl (cp_cI G, 64, .inl (fun _ => 0)) ∧ h 20 = .inl (cp_cI G, 64, .inl (fun _ => 0)) ∧ h 1 = .inl (cp_cC G, 80, .inl (fun _ => 0)) ∧ h 2 = .inl (cp_cC G, 100, .inl (fun _ => 0)) ∧ h 5 = .inl (cp_cC G, 26, .inl (fun _ => 0)) ∧ h 13 = .inl (cp_cC G, 101, .inl (fun _ => 0)) ∧ h 22 = .inl (cp_cC G, 0, .inl (fun _ => 0)) ∧ h 4 = .inl (cp_cE G, 26, .inr (.inr (.inr (.inr (fun _ => none))))) ∧ h 27 = .inl (cp_cI G, 80, .inl (fun _ => 0)) ∧ h 28 = .inl (cp_cI G, 100, .inl (fun _ => 0)) ∧ h 29 = .inl (cp_cI G, 110, .inl (fun _ => 0)) ∧ h 30 = .inl (cp_cI G, 26, .inl (fun _ => 0)) ∧ h 31 = .inl (cp_cI G, 26, .inl (fun _ => 0)) ∧ h 32 = .inl (cp_cI G, 26, .inl (fun _ => 0)) ∧ h 33 = .inl (cp_cI G, 26, .inl (fun _ => 0)) ∧ h 34 = .inl (cp_cI G, 26, .inl (fun _ => 0)) ∧ h 35 = .inl (cp_cI G, 26, .inl (fun _ => 0)) ∧ h 36 = .inl (cp_cI G, 26, .inl (fun _ => 0)) ∧ h 37 = .inl (cp_cI G, 104, .inl (fun _ => 0)) ∧ h 38 = .inl (cp_cI G, 26, .inl (fun _ => 0)) ∧ h 39 = .inl (cp_cI G, 2720, .inl (fun _ => 0)) ∧ h 40 = .inl (cp_cI G, 2720, .inl (fun _ => 0)) ∧ h 41 = .inl (cp_cI G, 2720, .inl (fun _ => 0)) ∧ h 42 = .inl (cp_cI G, 82, .inl (fun _ => 0)) ∧ h 43 = .inl (cp_cI G, 82, .inl (fun _ => 0)) ∧ h 44 = .inl (cp_cI G, 180, .inl (fun _ => 0)) ∧ h 45 = .inl (cp_cI G, 180, .inl (fun _ => 0)) ∧ h 46 = .inl (cp_cI G, 180, .inl (fun _ => 0)) ∧ h 47 = .inl (cp_cI G, 180, .inl (fun _ => 0)) ∧ h 48 = .inl (cp_cI G, 180, .inl (fun _ => 0)) ∧ h 49 = .inl (cp_cI G, 400, .inl (fun _ => 0)) ∧ h 50 = .inl (cp_cI G, 400, .inl (fun _ => 0)) ∧ h 51 = .inl (cp_cI G, 400, .inl (fun _ => 0)) ∧ h 52 = .inl (cp_cI G, 6000, .inl (fun _ => 0)) ∧ h 53 = .inl (cp_cI G, 6000, .inl (fun _ => 0)) ∧ h 54 = .inl (cp_cI G, 6000, .inl (fun _ => 0)) ∧ h 55 = .inl (cp_cI G, 6000, .inl (fun _ => 0)) ∧ h 56 = .inl (cp_cI G, 6000, .inl (fun _ => 0)) ∧ h 57 = .inl (cp_cI G, 110, .inl (fun _ => 0)) ∧ h 58 = .inl (cp_cI G, 1001, .inl (fun _ => 0)) ∧ h 59 = .inl (cp_cI G, 1001, .inl (fun _ => 0)) ∧ h 60 = .inl (cp_cI G, 1001, .inl (fun _ => 0)) ∧ h 61 = .inl (cp_cI G, 210, .inl (fun _ => 0)) ∧ h 62 = .inl (cp_cI G, 210, .inl (fun _ => 0)) ∧ h 63 = .inl (cp_cI G, 260, .inl (fun _ => 0)) ∧ h 64 = .inl (cp_cI G, 26, .inl (fun _ => 0)) ∧ h 65 = .inl (cp_cI G, 10, .inl (fun _ => 0)) ∧ h 66 = .inl (cp_cI G, 10, .inl (fun _ => 0)) ∧ h 67 = .inl (cp_cI G, 10, .inl (fun _ => 0)) ∧ h 68 = .inl (cp_cI G, 10, .inl (fun _ => 0)) ∧ h 69 = .inl (cp_cI G, 10, .inl (fun _ => 0)) ∧ h 70 = .inl (cp_cI G, 10, .inl (fun _ => 0)) ∧ h 71 = .inl (cp_cI G, 6, .inl (fun _ => 0)) ∧ h 72 = .inl (cp_cI G, 32, .inl (fun _ => 0)) ∧ h 73 = .inl (cp_cI G, 32, .inl (fun _ => 0)) ∧ h 74 = .inl (cp_cI G, 32, .inl (fun _ => 0)) ∧ h 75 = .inl (cp_cI G, 256, .inl (fun _ => 0)) ∧ h 76 = .inl (cp_cI G, 620, .inl (fun _ => 0)) ∧ h 77 = .inl (cp_cI G, 620, .inl (fun _ => 0)) ∧ h 78 = .inl (cp_cI G, 620, .inl (fun _ => 0)) ∧ h 79 = .inl (cp_cI G, 101, .inl (fun _ => 0)) ∧ h 80 = .inl (cp_cI G, 101, .inl (fun _ => 0)) ∧ h 81 = .inl (cp_cI G, 101, .inl (fun _ => 0)) ∧ h 82 = .inl (cp_cI G, 101, .inl (fun _ => 0)) ∧ h 83 = .inl (cp_cI G, 101, .inl (fun _ => 0)) ∧ h 84 = .inl (cp_cI G, 101, .inl (fun _ => 0)) ∧ h 85 = .inl (cp_cL G, 1, .inr (.inl (fun _ => 0)))
set_option maxRecDepth 1000000 in
set_option maxHeartbeats 8000000 in
theorem p_ini2 {G : cp_G} {d bb : Nat} (hd : 9 ≤ d) : ∃ hF, FRS G hF ∧ ∀ (o : cp_O) (h' : Nat → cp_E) (n' z' : Nat), cp_V G m_law d 0 0 o h' n' z' 23 [(4, .int 0), (3, .ref (cp_b G + 85)), (2, .ref (cp_b G + 26)), (1, .ref (cp_b G + 0)), (0, .ref bb)] [] hF 86 49035 → cp_V G m_law d 0 0 o h' n' z' 0 [(0, .ref bb)] [] (fun _ => cp_junk) 0 0 := by
  refine Exists.intro ?hF (And.intro ?f ?w)
  case w =>
    intro o h' n' z' k
    refine vv_new (pc := 0) (N := 13) d_law_0 cp_ok0 cl_L_8 rfl ?_
    refine vv_dup (pc := 3) d_law_3 rfl ?_
    refine vv_callI (pc := 4) (As := []) d_law_4 (x_P_init (d := d - 1) (by omega) rfl) k_P_init ml_L_31.1 ml_L_31.2.1 ml_L_31.2.2.1 ml_L_31.2.2.2 (by omega) (Nat.le_of_ble_eq_true rfl) ?_
    refine vv_astore_n (pc := 7) d_law_7 cp_isr_r (Nat.le_of_ble_eq_true rfl) ?_
    refine vv_new (pc := 8) (N := 86) d_law_8 cp_ok11 cl_L_32 rfl ?_
    refine vv_dup (pc := 11) d_law_11 rfl ?_
    refine vv_callI (pc := 12) (As := []) d_law_12 (x_M_init (d := d - 1) (by omega) rfl) k_M_init ml_L_34.1 ml_L_34.2.1 ml_L_34.2.2.1 ml_L_34.2.2.2 (by omega) (Nat.le_of_ble_eq_true rfl) ?_
    refine vv_astore_n (pc := 15) d_law_15 cp_isr_r (Nat.le_of_ble_eq_true rfl) ?_
    refine vv_iconst (pc := 16) (v := 1) d_law_16 rfl ?_
    refine vv_newaL (pc := 17) (N := 1) d_law_17 cp_arL (by decide +kernel) (by decide +kernel) (by decide +kernel) ?_
    refine vv_astore_n (pc := 19) d_law_19 cp_isr_r (Nat.le_of_ble_eq_true rfl) ?_
    refine vv_iconst (pc := 20) (v := 0) d_law_20 rfl ?_
    refine vv_istore (pc := 21) d_law_21 (Nat.le_of_ble_eq_true rfl) ?_
    exact k
  case f =>
    refine ⟨⟨_, rfl, ?_⟩, ⟨_, rfl, ?_⟩, ⟨_, rfl, ?_⟩, ⟨_, rfl, ?_⟩, ⟨_, rfl, ?_⟩, ⟨_, rfl, ?_⟩, ⟨_, rfl, ?_⟩, ⟨_, rfl, ?_⟩, ⟨_, rfl, ?_⟩, ⟨_, rfl, rfl, rfl⟩, ⟨_, rfl, rfl, rfl⟩, ⟨_, rfl, rfl, rfl⟩, ⟨_, rfl, rfl, rfl⟩, ⟨_, rfl, rfl, rfl⟩, ⟨_, rfl, rfl, rfl⟩, rfl, rfl, rfl, rfl, rfl, rfl, rfl, rfl, rfl, rfl, rfl, rfl, rfl, rfl, rfl, rfl, rfl, rfl, rfl, rfl, rfl, rfl, rfl, rfl, rfl, rfl, rfl, rfl, rfl, rfl, rfl, rfl, rfl, rfl, rfl, rfl, rfl, rfl, rfl, rfl, rfl, rfl, rfl, rfl, rfl, rfl, rfl, rfl, rfl, rfl, rfl, rfl, rfl, rfl, rfl, rfl, rfl, rfl, rfl, rfl, rfl, rfl, rfl, rfl, rfl, rfl, rfl, rfl, rfl, rfl, rfl⟩
    · intro k
      rcases k with _ | _ | _ | _ | _ | _ | _ | _ | _ | _ | _ | _ | _ | k <;> rfl
    · intro k
      rcases k with _ | _ | _ | k <;> rfl
    · intro k
      rcases k with _ | _ | _ | _ | _ | k <;> rfl
    · intro k
      rcases k with _ | _ | _ | k <;> rfl
    · intro k
      rcases k with _ | _ | _ | k <;> rfl
    · intro k
      rcases k with _ | _ | _ | _ | _ | k <;> rfl
    · intro k
      rcases k with _ | _ | _ | _ | _ | _ | _ | _ | k <;> rfl
    · intro k
      rcases k with _ | _ | k <;> rfl
    · intro k
      rcases k with _ | _ | _ | _ | _ | _ | _ | _ | _ | _ | _ | _ | _ | _ | _ | _ | _ | _ | _ | _ | _ | _ | _ | _ | _ | _ | _ | _ | _ | _ | _ | _ | _ | _ | _ | _ | _ | _ | _ | _ | _ | _ | _ | _ | _ | _ | _ | _ | _ | _ | _ | _ | _ | _ | _ | _ | _ | _ | _ | _ | _ | _ | _ | _ | _ | _ | _ | _ | _ | _ | _ | _ | _ | _ | _ | _ | _ | _ | _ | _ | _ | _ | _ | _ | _ | _ | k <;> rfl
theorem HH_m {G : cp_G} {S : cp_S} {u : Nat → Int64} {p : Nat} (h : 27 ≤ p ∧ p < 85) : HH G S u p = .inl (cp_cI G, cp_ml p, .inl (S.2 p)) := mm_a p h
theorem FRS.ck {G : cp_G} {h : Nat → cp_E} (H : FRS G h) : CK G (HH G S0s (fun _ => 0)) h 49035 K0s := by
  obtain ⟨⟨g0, o0, e0⟩, ⟨g3, o3, e3⟩, ⟨g6, o6, e6⟩, ⟨g14, o14, e14⟩, ⟨g21, o21, e21⟩, ⟨g23, o23, e23⟩, ⟨g24, o24, e24⟩, ⟨g25, o25, e25⟩, ⟨g26, o26, e26⟩, ⟨g7, o7, a7, b7⟩, ⟨g9, o9, a9, b9⟩, ⟨g11, o11, a11, b11⟩, ⟨g15, o15, a15, b15⟩, ⟨g17, o17, a17, b17⟩, ⟨g19, o19, a19, b19⟩, i8, i10, i12, i16, i18, i20, c1, c2, c5, c13, c22, c4, m27, m28, m29, m30, m31, m32, m33, m34, m35, m36, m37, m38, m39, m40, m41, m42, m43, m44, m45, m46, m47, m48, m49, m50, m51, m52, m53, m54, m55, m56, m57, m58, m59, m60, m61, m62, m63, m64, m65, m66, m67, m68, m69, m70, m71, m72, m73, m74, m75, m76, m77, m78, m79, m80, m81, m82, m83, m84, m85⟩ := H
  refine ⟨Nat.le_refl _, fun i h1 h2 => ?_, fun p hp ht => ?_, fun q hq => ?_, c4, fun r hr => ?_, by decide⟩
  · have hi : i = 26 ∨ i = 27 ∨ i = 28 ∨ i = 29 ∨ i = 30 ∨ i = 31 ∨ i = 32 ∨ i = 33 ∨ i = 34 ∨ i = 35 ∨ i = 36 ∨ i = 37 ∨ i = 38 ∨ i = 39 ∨ i = 40 ∨ i = 41 ∨ i = 42 ∨ i = 43 ∨ i = 44 ∨ i = 45 ∨ i = 46 ∨ i = 47 ∨ i = 48 ∨ i = 49 ∨ i = 50 ∨ i = 51 ∨ i = 52 ∨ i = 53 ∨ i = 54 ∨ i = 55 ∨ i = 56 ∨ i = 57 ∨ i = 58 ∨ i = 59 ∨ i = 60 ∨ i = 61 ∨ i = 62 ∨ i = 63 ∨ i = 64 ∨ i = 65 ∨ i = 66 ∨ i = 67 ∨ i = 68 ∨ i = 69 ∨ i = 70 ∨ i = 71 ∨ i = 72 ∨ i = 73 ∨ i = 74 ∨ i = 75 ∨ i = 76 ∨ i = 77 ∨ i = 78 ∨ i = 79 ∨ i = 80 ∨ i = 81 ∨ i = 82 ∨ i = 83 ∨ i = 84 ∨ i = 85 := by omega
    rcases hi with rfl | rfl | rfl | rfl | rfl | rfl | rfl | rfl | rfl | rfl | rfl | rfl | rfl | rfl | rfl | rfl | rfl | rfl | rfl | rfl | rfl | rfl | rfl | rfl | rfl | rfl | rfl | rfl | rfl | rfl | rfl | rfl | rfl | rfl | rfl | rfl | rfl | rfl | rfl | rfl | rfl | rfl | rfl | rfl | rfl | rfl | rfl | rfl | rfl | rfl | rfl | rfl | rfl | rfl | rfl | rfl | rfl | rfl | rfl | rfl
    · rw [o26, show g26 = mg G S0s.1 from funext e26]; exact mm_26.symm
    · exact m27.trans (HH_m (G := G) (S := S0s) (u := fun _ => 0) (p := 27) (by decide)).symm
    · exact m28.trans (HH_m (G := G) (S := S0s) (u := fun _ => 0) (p := 28) (by decide)).symm
    · exact m29.trans (HH_m (G := G) (S := S0s) (u := fun _ => 0) (p := 29) (by decide)).symm
    · exact m30.trans (HH_m (G := G) (S := S0s) (u := fun _ => 0) (p := 30) (by decide)).symm
    · exact m31.trans (HH_m (G := G) (S := S0s) (u := fun _ => 0) (p := 31) (by decide)).symm
    · exact m32.trans (HH_m (G := G) (S := S0s) (u := fun _ => 0) (p := 32) (by decide)).symm
    · exact m33.trans (HH_m (G := G) (S := S0s) (u := fun _ => 0) (p := 33) (by decide)).symm
    · exact m34.trans (HH_m (G := G) (S := S0s) (u := fun _ => 0) (p := 34) (by decide)).symm
    · exact m35.trans (HH_m (G := G) (S := S0s) (u := fun _ => 0) (p := 35) (by decide)).symm
    · exact m36.trans (HH_m (G := G) (S := S0s) (u := fun _ => 0) (p := 36) (by decide)).symm
    · exact m37.trans (HH_m (G := G) (S := S0s) (u := fun _ => 0) (p := 37) (by decide)).symm
    · exact m38.trans (HH_m (G := G) (S := S0s) (u := fun _ => 0) (p := 38) (by decide)).symm
    · exact m39.trans (HH_m (G := G) (S := S0s) (u := fun _ => 0) (p := 39) (by decide)).symm
    · exact m40.trans (HH_m (G := G) (S := S0s) (u := fun _ => 0) (p := 40) (by decide)).symm
    · exact m41.trans (HH_m (G := G) (S := S0s) (u := fun _ => 0) (p := 41) (by decide)).symm
    · exact m42.trans (HH_m (G := G) (S := S0s) (u := fun _ => 0) (p := 42) (by decide)).symm
    · exact m43.trans (HH_m (G := G) (S := S0s) (u := fun _ => 0) (p := 43) (by decide)).symm
    · exact m44.trans (HH_m (G := G) (S := S0s) (u := fun _ => 0) (p := 44) (by decide)).symm
    · exact m45.trans (HH_m (G := G) (S := S0s) (u := fun _ => 0) (p := 45) (by decide)).symm
    · exact m46.trans (HH_m (G := G) (S := S0s) (u := fun _ => 0) (p := 46) (by decide)).symm
    · exact m47.trans (HH_m (G := G) (S := S0s) (u := fun _ => 0) (p := 47) (by decide)).symm
    · exact m48.trans (HH_m (G := G) (S := S0s) (u := fun _ => 0) (p := 48) (by decide)).symm
    · exact m49.trans (HH_m (G := G) (S := S0s) (u := fun _ => 0) (p := 49) (by decide)).symm
    · exact m50.trans (HH_m (G := G) (S := S0s) (u := fun _ => 0) (p := 50) (by decide)).symm
    · exact m51.trans (HH_m (G := G) (S := S0s) (u := fun _ => 0) (p := 51) (by decide)).symm
    · exact m52.trans (HH_m (G := G) (S := S0s) (u := fun _ => 0) (p := 52) (by decide)).symm
    · exact m53.trans (HH_m (G := G) (S := S0s) (u := fun _ => 0) (p := 53) (by decide)).symm
    · exact m54.trans (HH_m (G := G) (S := S0s) (u := fun _ => 0) (p := 54) (by decide)).symm
    · exact m55.trans (HH_m (G := G) (S := S0s) (u := fun _ => 0) (p := 55) (by decide)).symm
    · exact m56.trans (HH_m (G := G) (S := S0s) (u := fun _ => 0) (p := 56) (by decide)).symm
    · exact m57.trans (HH_m (G := G) (S := S0s) (u := fun _ => 0) (p := 57) (by decide)).symm
    · exact m58.trans (HH_m (G := G) (S := S0s) (u := fun _ => 0) (p := 58) (by decide)).symm
    · exact m59.trans (HH_m (G := G) (S := S0s) (u := fun _ => 0) (p := 59) (by decide)).symm
    · exact m60.trans (HH_m (G := G) (S := S0s) (u := fun _ => 0) (p := 60) (by decide)).symm
    · exact m61.trans (HH_m (G := G) (S := S0s) (u := fun _ => 0) (p := 61) (by decide)).symm
    · exact m62.trans (HH_m (G := G) (S := S0s) (u := fun _ => 0) (p := 62) (by decide)).symm
    · exact m63.trans (HH_m (G := G) (S := S0s) (u := fun _ => 0) (p := 63) (by decide)).symm
    · exact m64.trans (HH_m (G := G) (S := S0s) (u := fun _ => 0) (p := 64) (by decide)).symm
    · exact m65.trans (HH_m (G := G) (S := S0s) (u := fun _ => 0) (p := 65) (by decide)).symm
    · exact m66.trans (HH_m (G := G) (S := S0s) (u := fun _ => 0) (p := 66) (by decide)).symm
    · exact m67.trans (HH_m (G := G) (S := S0s) (u := fun _ => 0) (p := 67) (by decide)).symm
    · exact m68.trans (HH_m (G := G) (S := S0s) (u := fun _ => 0) (p := 68) (by decide)).symm
    · exact m69.trans (HH_m (G := G) (S := S0s) (u := fun _ => 0) (p := 69) (by decide)).symm
    · exact m70.trans (HH_m (G := G) (S := S0s) (u := fun _ => 0) (p := 70) (by decide)).symm
    · exact m71.trans (HH_m (G := G) (S := S0s) (u := fun _ => 0) (p := 71) (by decide)).symm
    · exact m72.trans (HH_m (G := G) (S := S0s) (u := fun _ => 0) (p := 72) (by decide)).symm
    · exact m73.trans (HH_m (G := G) (S := S0s) (u := fun _ => 0) (p := 73) (by decide)).symm
    · exact m74.trans (HH_m (G := G) (S := S0s) (u := fun _ => 0) (p := 74) (by decide)).symm
    · exact m75.trans (HH_m (G := G) (S := S0s) (u := fun _ => 0) (p := 75) (by decide)).symm
    · exact m76.trans (HH_m (G := G) (S := S0s) (u := fun _ => 0) (p := 76) (by decide)).symm
    · exact m77.trans (HH_m (G := G) (S := S0s) (u := fun _ => 0) (p := 77) (by decide)).symm
    · exact m78.trans (HH_m (G := G) (S := S0s) (u := fun _ => 0) (p := 78) (by decide)).symm
    · exact m79.trans (HH_m (G := G) (S := S0s) (u := fun _ => 0) (p := 79) (by decide)).symm
    · exact m80.trans (HH_m (G := G) (S := S0s) (u := fun _ => 0) (p := 80) (by decide)).symm
    · exact m81.trans (HH_m (G := G) (S := S0s) (u := fun _ => 0) (p := 81) (by decide)).symm
    · exact m82.trans (HH_m (G := G) (S := S0s) (u := fun _ => 0) (p := 82) (by decide)).symm
    · exact m83.trans (HH_m (G := G) (S := S0s) (u := fun _ => 0) (p := 83) (by decide)).symm
    · exact m84.trans (HH_m (G := G) (S := S0s) (u := fun _ => 0) (p := 84) (by decide)).symm
    · exact m85.trans HH_85.symm
  · have hp86 : p < 86 := hp
    have hk : kt K0s p = k_tab p := if_pos hp86
    rw [hk] at ht ⊢
    have hp26 : p < 26 := Nat.lt_of_not_le fun q => by rw [k_tab_hi q] at ht; exact absurd ht (by decide)
    have hi : p = 0 ∨ p = 1 ∨ p = 2 ∨ p = 3 ∨ p = 4 ∨ p = 5 ∨ p = 6 ∨ p = 7 ∨ p = 8 ∨ p = 9 ∨ p = 10 ∨ p = 11 ∨ p = 12 ∨ p = 13 ∨ p = 14 ∨ p = 15 ∨ p = 16 ∨ p = 17 ∨ p = 18 ∨ p = 19 ∨ p = 20 ∨ p = 21 ∨ p = 22 ∨ p = 23 ∨ p = 24 ∨ p = 25 := by omega
    rcases hi with rfl | rfl | rfl | rfl | rfl | rfl | rfl | rfl | rfl | rfl | rfl | rfl | rfl | rfl | rfl | rfl | rfl | rfl | rfl | rfl | rfl | rfl | rfl | rfl | rfl | rfl
    · exact o0.trans (congrArg (fun g => Sum.inr (0, g)) (funext e0))
    · exact absurd ht (by decide)
    · exact absurd ht (by decide)
    · exact o3.trans (congrArg (fun g => Sum.inr (1, g)) (funext e3))
    · exact absurd ht (by decide)
    · exact absurd ht (by decide)
    · exact o6.trans (congrArg (fun g => Sum.inr (2, g)) (funext e6))
    · exact absurd ht (by decide)
    · exact absurd ht (by decide)
    · exact absurd ht (by decide)
    · exact absurd ht (by decide)
    · exact absurd ht (by decide)
    · exact absurd ht (by decide)
    · exact absurd ht (by decide)
    · exact o14.trans (congrArg (fun g => Sum.inr (4, g)) (funext e14))
    · exact absurd ht (by decide)
    · exact absurd ht (by decide)
    · exact absurd ht (by decide)
    · exact absurd ht (by decide)
    · exact absurd ht (by decide)
    · exact absurd ht (by decide)
    · exact o21.trans (congrArg (fun g => Sum.inr (5, g)) (funext e21))
    · exact absurd ht (by decide)
    · exact o23.trans (congrArg (fun g => Sum.inr (6, g)) (funext e23))
    · exact o24.trans (congrArg (fun g => Sum.inr (7, g)) (funext e24))
    · exact o25.trans (congrArg (fun g => Sum.inr (8, g)) (funext e25))
  · simp only [k_cs, List.mem_cons, List.not_mem_nil, or_false] at hq
    rcases hq with rfl | rfl | rfl | rfl | rfl
    · exact c1
    · exact c2
    · exact c5
    · exact c13
    · exact c22
  · simp only [k_rows, List.mem_cons, List.not_mem_nil, or_false] at hr
    rcases hr with rfl | rfl | rfl | rfl | rfl | rfl
    · exact ⟨⟨g7, 8, fun _ => 0, ⟨by decide, by decide, ⟨o7, a7, b7⟩, i8, by decide, by decide, by decide⟩, rfl, fun j hj => rfl⟩, by decide⟩
    · exact ⟨⟨g9, 10, fun _ => 0, ⟨by decide, by decide, ⟨o9, a9, b9⟩, i10, by decide, by decide, by decide⟩, rfl, fun j hj => rfl⟩, by decide⟩
    · exact ⟨⟨g11, 12, fun _ => 0, ⟨by decide, by decide, ⟨o11, a11, b11⟩, i12, by decide, by decide, by decide⟩, rfl, fun j hj => rfl⟩, by decide⟩
    · exact ⟨⟨g15, 16, fun _ => 0, ⟨by decide, by decide, ⟨o15, a15, b15⟩, i16, by decide, by decide, by decide⟩, rfl, fun j hj => rfl⟩, by decide⟩
    · exact ⟨⟨g17, 18, fun _ => 0, ⟨by decide, by decide, ⟨o17, a17, b17⟩, i18, by decide, by decide, by decide⟩, rfl, fun j hj => rfl⟩, by decide⟩
    · exact ⟨⟨g19, 20, fun _ => 0, ⟨by decide, by decide, ⟨o19, a19, b19⟩, i20, by decide, by decide, by decide⟩, rfl, fun j hj => rfl⟩, by decide⟩
theorem inv_0 : INV K0s S0s [] 0 0 := by
  refine ⟨⟨fun j _ => rfl, 0, by omega, rfl, rfl, fun _ => 32, fun x hx => absurd hx (by omega)⟩, ⟨0, by omega, rfl, rfl, fun x hx => absurd hx (by omega)⟩, ⟨⟨rfl, rfl⟩, fun c _ _ => ⟨rfl, rfl⟩, ⟨rfl, rfl⟩, ⟨rfl, rfl⟩, trivial⟩, Or.inl ⟨rfl, rfl⟩, ⟨rfl, ⟨⟨0, by omega, rfl⟩, rfl⟩, ⟨by decide, by decide, by decide, 0, by omega, rfl, rfl, rfl⟩, fun r hr => ?_, Nat.le_refl _⟩⟩
  show 64 ≤ if r = 7 then 512 else 64
  split <;> decide
/-- THE LAW -/
theorem cp_law : cp_LAW := by
  intro G b L xs hK hS hL
  obtain ⟨hF, hfr, hst⟩ := p_ini2 (G := G) (d := 400) (bb := b) (by decide)
  have ck := hfr.ck
  obtain ⟨h', n', z', b1, b2, b3⟩ := law_loop hS hL (Nat.le_refl 400) 512 0 K0s S0s [] 0 0 (by omega) (by omega) inv_0 (by decide) hF 49035 (fun _ => 0) ck
  exact ⟨400, h', n', z', by decide, b1, b2, hst _ _ _ _ b3⟩
