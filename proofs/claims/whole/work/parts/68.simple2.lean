/-! ===== the second group as functions of the state ===== -/
def qlf (K : cp_K) (x y : Int32) : cp_K := kI (ninit (kN K 9) K.1.1 x y (K.2.1 21 2)) 21 2 (K.2.1 21 2 + 1)
def qtk (K : cp_K) (x : Int32) : cp_K := if qpk K = x then kI K 21 2 (K.2.1 21 2 + 1) else K
def arn (K : cp_K) (x y : Int32) : Int32 := if ¬ x = -1 ∧ ¬ y = -1 ∧ rget K 7 x = 1 ∧ rget K 7 y = 1 then 1 else 0
def ufit (K : cp_K) (p : Nat) (x : Int32) : Int32 := if K.2.1 p 0 = 4 ∨ (K.2.1 p 0 = rget K 7 x ∧ K.2.1 p 1 = rget K 7 (x + 1)) then 1 else 0
def dfc (K : cp_K) (p : Nat) : Nat := if K.2.1 (dfind K (K.2.1 p 1)) 1 = 0 ∧ K.2.1 (dfind K (K.2.1 p 1)) 2 = K.2.1 p 3 then dfind K (K.2.1 p 1) else 0
def ffp (K : cp_K) (p : Nat) : Int32 := if ¬ dfind K (K.2.1 p 1) = 0 ∧ ¬ K.2.1 (dfind K (K.2.1 p 1)) 1 = 0 ∧ K.2.1 (dfind K (K.2.1 p 1)) 2 = K.2.1 p 3 - 1 then 1 else 0
def tlearn (K : cp_K) (x : Int32) : cp_K := kI (bpush (mks K 5 (nI (rsz K 7))) x (nI (rsz K 7)) (K.2.1 24 7)) 24 5 (nI (rsz K 15 + 1))
section CPS2
variable {K : cp_K} {p q k c : Nat} {x y a b i : Int32}
theorem nd_kI (h : nd K p c) : nd (kI K q k x) p c := h
theorem nd_kP {s : Nat} (h : nd K p c) : nd (kP K q k s) p c := h
theorem nd_ninit {z : Int32} (h : nd K p c) : nd (ninit K q x y z) p c := h
theorem nd_qlf (h : nd K p c) : nd (qlf K x y) p c := nd_kI (nd_ninit (nd_new h))
theorem nd_qlf_self (h : 86 ≤ K.1.1) : nd (qlf K x y) K.1.1 9 := nd_kI (nd_ninit (nd_self h))
theorem nd_qtk (h : nd K p c) : nd (qtk K x) p c := by unfold qtk; split <;> exact h
theorem nd_tlearn (h : nd K p c) : nd (tlearn K x) p c := nd_kI (nd_bpush (nd_mks h))
theorem mks_i : (mks K x y).2.1 = K.2.1 := by unfold mks; rw [kpush_i, kpush_i, kpush_i]
theorem mks_r : (mks K x y).2.2.1 = K.2.2.1 := by unfold mks; rw [kpush_r, kpush_r, kpush_r]
theorem bpush_i {z : Int32} : (bpush K x y z).2.1 = K.2.1 := by unfold bpush; rw [kpush_i, kpush_i, kpush_i]
theorem bpush_r {z : Int32} : (bpush K x y z).2.2.1 = K.2.2.1 := by unfold bpush; rw [kpush_r, kpush_r, kpush_r]
theorem bcut_i : (bcut K i).2.1 = K.2.1 := by unfold bcut; rw [kcut_i, kcut_i, kcut_i]
theorem bcut_r : (bcut K i).2.2.1 = K.2.2.1 := by unfold bcut; rw [kcut_r, kcut_r, kcut_r]
theorem mks_sz : rsz (mks K x y) q = if q = 7 then rsz K 7 + 3 else rsz K q := by
  unfold mks
  by_cases h : q = 7
  · subst h; simp [kpush_sz]
  · simp [kpush_sz, h]
theorem bpush_sz {z : Int32} (h : q ≠ 15 ∧ q ≠ 17 ∧ q ≠ 19) : rsz (bpush K x y z) q = rsz K q := by
  unfold bpush
  simp [kpush_sz, h]
theorem bpush_sz15 {z : Int32} : rsz (bpush K x y z) 15 = rsz K 15 + 1 := by unfold bpush; simp [kpush_sz]
theorem bpush_sz17 {z : Int32} : rsz (bpush K x y z) 17 = rsz K 17 + 1 := by unfold bpush; simp [kpush_sz]
theorem bpush_sz19 {z : Int32} : rsz (bpush K x y z) 19 = rsz K 19 + 1 := by unfold bpush; simp [kpush_sz]
theorem qok_qtk (h : qok K) : qok (qtk K x) := by
  unfold qtk
  split
  · exact h
  · exact h
theorem qlf_i (hq : q ≠ K.1.1) (h21 : q ≠ 21) : (qlf K x y).2.1 q = K.2.1 q := by
  unfold qlf
  rw [kI_i, cp_up_ne h21, ninit_i hq]
  exact cp_up_ne hq
theorem qok_qlf (h : qok K) (h86 : 86 ≤ K.1.1) : qok (qlf K x y) := by
  refine qok_of h ?_ ?_ ?_
  · unfold qlf
    rw [kI_r, ninit_r (by omega)]
    exact cp_up_ne (by omega)
  · unfold qlf
    rw [kI_i, va_up_at, cp_up_ne (by omega), ninit_i (by omega)]
    show va_up K.2.1 K.1.1 _ 21 1 = _
    rw [cp_up_ne (by omega)]
  · exact qlf_i (by omega) (by omega)
theorem C_Bpu (h : rsz K 15 < k_lim 15 ∧ rsz K 17 < k_lim 17 ∧ rsz K 19 < k_lim 19) : KC 7 m_B_pushUnnamed (fun G => [.ref (cp_b G + 14), .int x]) K (fun _ => none) (bpush K 0 x (-1)) := c_B_pushUnnamed (D := 0) ⟨h, rfl, rfl⟩
theorem C_VmakeHole (h : rsz K 7 + 2 < k_lim 7) : KC 7 m_V_makeHole (fun G => [.ref (cp_b G + 6)]) K (fun _ => some (.int (nI (rsz K 7)))) (mks K 4 (-1)) := c_V_makeHole (D := 0) ⟨h, rfl, rfl⟩
theorem C_VmakeName (h : rsz K 7 + 2 < k_lim 7) : KC 7 m_V_makeName (fun G => [.ref (cp_b G + 6)]) K (fun _ => some (.int (nI (rsz K 7)))) (mks K 5 (nI (rsz K 7))) := c_V_makeName (D := 0) ⟨h, rfl, rfl⟩
theorem C_Qleaf (h86 : 86 ≤ K.1.1) : KC 7 m_Q_leaf (fun G => [.ref (cp_b G + 21), .int x, .int y]) K (fun G => some (va_rf (kr G K.1.1))) (qlf K x y) := by
  refine c_Q_leaf (D := 0) ⟨rfl, ?_⟩
  have e1 : (kN K 9).2.1 21 2 = K.2.1 21 2 := by
    show va_up K.2.1 K.1.1 _ 21 2 = _
    rw [cp_up_ne (by omega)]
  unfold qlf
  rw [ninit_i (show 21 ≠ K.1.1 by omega), e1]
theorem C_Qtake (h : qok K) : KC 7 m_Q_take (fun G => [.ref (cp_b G + 21), .int x]) K (fun _ => some (.int (if qpk K = x then 1 else 0))) (qtk K x) := by
  refine c_Q_take (D := 0) ⟨h, ?_⟩
  unfold qtk
  by_cases h1 : qpk K = x <;> simp [h1]
theorem C_UareNumbers : KC 7 m_U_areNumbers (fun G => [.ref (cp_b G + 23), .int x, .int y]) K (fun _ => some (.int (arn K x y))) K := by
  refine c_U_areNumbers (D := 0) ?_
  unfold wp_U_areNumbers_0 arn
  by_cases h1 : x = -1
  · simp [h1]
  · by_cases h2 : y = -1
    · simp [h1, h2]
    · by_cases h3 : rget K 7 x = 1
      · by_cases h4 : rget K 7 y = 1 <;> simp [h1, h2, h3, h4]
      · simp [h1, h2, h3]
theorem C_UisLess : KC 7 m_U_isLess (fun G => [.ref (cp_b G + 23), .int x, .int y]) K (fun _ => some (.int (if rget K 7 (y + 1) ≤ rget K 7 (x + 1) then 0 else 1))) K := by
  refine c_U_isLess (D := 0) ?_
  unfold wp_U_isLess_0
  by_cases h1 : rget K 7 (y + 1) ≤ rget K 7 (x + 1) <;> simp only [h1, if_true, if_false, not_true, not_false_iff, false_implies, true_implies, and_true, true_and, implies_true]
theorem C_Ufits (h : nd K p 9) : KC 7 m_U_fits (fun G => [.ref (cp_b G + 23), va_rf (kr G p), .int x]) K (fun _ => some (.int (ufit K p x))) K := by
  refine c_U_fits (D := 0) ⟨h, ?_⟩
  unfold ufit
  by_cases h1 : K.2.1 p 0 = 4
  · simp [h1]
  · by_cases h2 : K.2.1 p 0 = rget K 7 x
    · by_cases h3 : K.2.1 p 1 = rget K 7 (x + 1)
      · rw [h2] at h1; simp [h1, h2, h3]
      · rw [h2] at h1; simp [h1, h2, h3]
    · simp [h1, h2]
theorem C_TisStar : KC 7 m_T_isStar (fun G => [.ref (cp_b G + 24), .int x]) K (fun _ => some (.int (if rget K 7 x = 3 then 1 else 0))) K := by
  refine c_T_isStar (D := 0) ?_
  unfold wp_T_isStar_0
  by_cases h1 : rget K 7 x = 3 <;> simp [h1]
theorem C_TnoType : KC 7 m_T_noType (fun G => [.ref (cp_b G + 24), .int x]) K (fun _ => some (.int (-1))) (kI K 24 6 x) := c_T_noType (D := 0) ⟨rfl, rfl⟩
theorem C_Iknow (h : nd K p 9) (h2 : rsz K 15 < k_lim 15 ∧ rsz K 17 < k_lim 17 ∧ rsz K 19 < k_lim 19) : KC 7 m_I_know (fun G => [.ref (cp_b G + 25), va_rf (kr G p)]) K (fun _ => none) (bpush K (K.2.1 p 1) (-1) (-1)) := c_I_know (D := 0) ⟨h, h2, rfl, rfl⟩
theorem C_Pfault : KC 7 m_P_fault (fun G => [.ref (cp_b G + 0)]) K (fun _ => some (.int (-1 - K.2.1 21 2))) K := c_P_fault (D := 0) ⟨rfl, rfl⟩
theorem C_DfindConstant (h : nd K p 9) (h2 : ¬ dfind K (K.2.1 p 1) = 0 → nd K (dfind K (K.2.1 p 1)) 10) : KC 7 m_D_findConstant (fun G => [.ref (cp_b G + 3), va_rf (kr G p)]) K (fun G => some (va_rf (kr G (dfc K p)))) K := by
  refine c_D_findConstant (D := 0) ⟨h, ?_⟩
  unfold dfc
  by_cases h1 : dfind K (K.2.1 p 1) = 0
  · simp [h1]
  · refine ⟨fun hn => absurd hn h1, fun _ => ⟨h2 h1, ?_⟩⟩
    by_cases h3 : K.2.1 (dfind K (K.2.1 p 1)) 1 = 0
    · by_cases h4 : K.2.1 (dfind K (K.2.1 p 1)) 2 = K.2.1 p 3 <;> simp [h3, h4]
    · simp [h3]
theorem C_TfitsItsProgram (h : nd K p 9) (h2 : ¬ dfind K (K.2.1 p 1) = 0 → nd K (dfind K (K.2.1 p 1)) 10) : KC 7 m_T_fitsItsProgram (fun G => [.ref (cp_b G + 24), va_rf (kr G p)]) K (fun _ => some (.int (ffp K p))) K := by
  refine c_T_fitsItsProgram (D := 0) ⟨h, ?_⟩
  unfold ffp
  by_cases h1 : dfind K (K.2.1 p 1) = 0
  · simp [h1]
  · refine ⟨fun hn => absurd hn h1, fun _ => ⟨h2 h1, ?_⟩⟩
    by_cases h3 : K.2.1 (dfind K (K.2.1 p 1)) 1 = 0
    · simp [h1, h3]
    · by_cases h4 : K.2.1 (dfind K (K.2.1 p 1)) 2 = K.2.1 p 3 - 1 <;> simp [h1, h3, h4]
end CPS2
