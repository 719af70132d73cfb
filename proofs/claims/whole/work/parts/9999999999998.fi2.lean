/-! ===== the law's loop: one turn (printed by wip/whole/lw2.py) ===== -/
theorem q_2 {i : Nat} : nI i + Int32.ofInt 2 = nI (i + 2) := by
  show nI i + nI 2 = nI (i + 2)
  exact nI_add _ _
section CPLN
variable {G : cp_G} {h : Nat → cp_E} {n z d bb i L : Nat} {xs : Nat → Int32} {o : cp_O} {h' : Nat → cp_E} {n' z' : Nat} {v w : Int32}
theorem q_n0 (k : cp_V G m_law d 0 0 o h' n' z' 23 (LH G bb (i + 2)) [] h n z) : cp_V G m_law d 0 0 o h' n' z' 518 (LH G bb i) [] h n z := by
  refine vv_iinc (pc := 518) (v := nI (i + 2)) d_law_518 rfl q_2 (Nat.le_of_ble_eq_true rfl) ?_
  refine vv_goto (pc := 521) (tgt := 23) d_law_521 rfl ?_
  exact vv_sub [0, 1, 2, 3, 4] rfl k
theorem q_n5 (k : cp_V G m_law d 0 0 o h' n' z' 23 (LH G bb (i + 2)) [] h n z) : cp_V G m_law d 0 0 o h' n' z' 518 ((5, .int v) :: LH G bb i) [] h n z := by
  refine vv_iinc (pc := 518) (v := nI (i + 2)) d_law_518 rfl q_2 (Nat.le_of_ble_eq_true rfl) ?_
  refine vv_goto (pc := 521) (tgt := 23) d_law_521 rfl ?_
  exact vv_sub [0, 2, 3, 4, 5] rfl k
theorem q_n6 (k : cp_V G m_law d 0 0 o h' n' z' 23 (LH G bb (i + 2)) [] h n z) : cp_V G m_law d 0 0 o h' n' z' 518 ((6, .int w) :: (5, .int v) :: LH G bb i) [] h n z := by
  refine vv_iinc (pc := 518) (v := nI (i + 2)) d_law_518 rfl q_2 (Nat.le_of_ble_eq_true rfl) ?_
  refine vv_goto (pc := 521) (tgt := 23) d_law_521 rfl ?_
  exact vv_sub [0, 3, 4, 5, 6] rfl k
theorem q_stop (hS : cp_scr G bb L xs) (hL : L ≤ 1024) (hi : i ≤ 1026) (hs : i + 2 > L) : cp_V G m_law d 0 0 (.inl (some (.int 1))) h n z 23 (LH G bb i) [] h n z := by
  refine vv_iload (pc := 23) d_law_23 rfl ?_
  refine vv_aload_n (pc := 25) d_law_25 rfl ?_
  refine vv_slen (pc := 26) hS d_law_26 ?_
  refine vv_iconst (pc := 27) (v := 2) d_law_27 rfl ?_
  refine vv_isub (pc := 28) d_law_28 ?_
  refine vv_icmp_gt (pc := 29) (tgt := 524) d_law_29 rfl (fun _ => ?_) (fun hc => absurd ((q_end hL hi).1 hs) hc)
  refine vv_iconst (pc := 524) (v := 1) d_law_524 rfl ?_
  exact vv_zret (pc := 525) d_law_525 rfl rfl
end CPLN
/-- from here the law comes to its end with 1, within the room -/
def LPP (G : cp_G) (d bb pc i : Nat) (K : cp_K) (S : cp_S) : Prop := ∀ (h : Nat → cp_E) (z : Nat) (u : Nat → Int64), CK G (HH G S u) h z K → ∃ (h' : Nat → cp_E) (n' z' : Nat), n' ≤ 601024 ∧ z' ≤ 7293034 ∧ cp_V G m_law d 0 0 (.inl (some (.int 1))) h' n' z' pc (LH G bb i) [] h K.1.1 z
section CPLO
variable {G : cp_G} {d bb i L : Nat} {xs : Nat → Int32} {c r x : Int32} {K K' : cp_K} {S S' : cp_S} {D D' : Nat}
theorem MC_thrown : MC 0 m_M_thrown [] S (some (.int (S.1 0))) S := c_M_thrown (b_M_thrown_0 ⟨rfl, rfl⟩)
theorem s_law_0 (hS : cp_scr G bb L xs) (hL : L ≤ 1024) (hi : i + 2 ≤ L) (hcx : ((xs (i + 1)).toUInt32 % 65536).toInt32 = c) (hK : KC D m_P_type (fun G => [.ref (cp_b G + 0), .int c]) K (fun _ => some (.int r)) K') (hM : MC D' m_M_type [.int c] S (some (.int r)) S') (hD : D + 2 ≤ d) (hD' : D' + 2 ≤ d) (nx : LPP G d bb 23 (i + 2) K' S') : LPP G d bb 104 i K S := by
  intro h z u C
  obtain ⟨h1, z1, C1, c1⟩ := hK G (HH G S u) h z (d - 1) (by omega) C
  have c2 := hM G h1 K'.1.1 z1 (d - 1) C1.1 (by omega)
  rw [C1.mme] at c2
  obtain ⟨h', n', z', b1, b2, b3⟩ := nx (mm G h1 S') z1 u C1.st
  exact ⟨h', n', z', b1, b2, q_law_0 hS hL hi (by omega) hcx c1 c2 C.h0 C1.h26 C.1 C1.1 (q_n0 b3)⟩
theorem s_law_1 (hS : cp_scr G bb L xs) (hL : L ≤ 1024) (hi : i + 2 ≤ L) (hK : KC D m_P_wipe (fun G => [.ref (cp_b G + 0)]) K (fun _ => some (.int r)) K') (hM : MC D' m_M_wipe [] S (some (.int r)) S') (hD : D + 2 ≤ d) (hD' : D' + 2 ≤ d) (nx : LPP G d bb 23 (i + 2) K' S') : LPP G d bb 131 i K S := by
  intro h z u C
  obtain ⟨h1, z1, C1, c1⟩ := hK G (HH G S u) h z (d - 1) (by omega) C
  have c2 := hM G h1 K'.1.1 z1 (d - 1) C1.1 (by omega)
  rw [C1.mme] at c2
  obtain ⟨h', n', z', b1, b2, b3⟩ := nx (mm G h1 S') z1 u C1.st
  exact ⟨h', n', z', b1, b2, q_law_1 (c := 0) hS hL hi (by omega) c1 c2 C.h0 C1.h26 C.1 C1.1 (q_n0 b3)⟩
theorem s_law_4 (hS : cp_scr G bb L xs) (hL : L ≤ 1024) (hi : i + 2 ≤ L) (hK : KC D m_P_check (fun G => [.ref (cp_b G + 0)]) K (fun _ => some (.int r)) K') (hM : MC D' m_M_check [] S (some (.int r)) S') (hD : D + 2 ≤ d) (hD' : D' + 2 ≤ d) (nx : LPP G d bb 23 (i + 2) K' S') : LPP G d bb 260 i K S := by
  intro h z u C
  obtain ⟨h1, z1, C1, c1⟩ := hK G (HH G S u) h z (d - 1) (by omega) C
  have c2 := hM G h1 K'.1.1 z1 (d - 1) C1.1 (by omega)
  rw [C1.mme] at c2
  obtain ⟨h', n', z', b1, b2, b3⟩ := nx (mm G h1 S') z1 u C1.st
  exact ⟨h', n', z', b1, b2, q_law_4 (c := 0) hS hL hi (by omega) c1 c2 C.h0 C1.h26 C.1 C1.1 (q_n0 b3)⟩
theorem s_law_8 (hS : cp_scr G bb L xs) (hL : L ≤ 1024) (hi : i + 2 ≤ L) (hK : KC D m_P_steps (fun G => [.ref (cp_b G + 0)]) K (fun _ => some (.int r)) K') (hM : MC D' m_M_steps [] S (some (.int r)) S') (hD : D + 2 ≤ d) (hD' : D' + 2 ≤ d) (nx : LPP G d bb 23 (i + 2) K' S') : LPP G d bb 413 i K S := by
  intro h z u C
  obtain ⟨h1, z1, C1, c1⟩ := hK G (HH G S u) h z (d - 1) (by omega) C
  have c2 := hM G h1 K'.1.1 z1 (d - 1) C1.1 (by omega)
  rw [C1.mme] at c2
  obtain ⟨h', n', z', b1, b2, b3⟩ := nx (mm G h1 S') z1 u C1.st
  exact ⟨h', n', z', b1, b2, q_law_8 (c := 0) hS hL hi (by omega) c1 c2 C.h0 C1.h26 C.1 C1.1 (q_n0 b3)⟩
theorem s_law_9 (hS : cp_scr G bb L xs) (hL : L ≤ 1024) (hi : i + 2 ≤ L) (hcx : ((xs (i + 1)).toUInt32 % 65536).toInt32 = c) (hK : KC D m_P_kind (fun G => [.ref (cp_b G + 0), .int c]) K (fun _ => some (.int r)) K') (hM : MC D' m_M_kind [.int c] S (some (.int r)) S') (hD : D + 2 ≤ d) (hD' : D' + 2 ≤ d) (nx : LPP G d bb 23 (i + 2) K' S') : LPP G d bb 426 i K S := by
  intro h z u C
  obtain ⟨h1, z1, C1, c1⟩ := hK G (HH G S u) h z (d - 1) (by omega) C
  have c2 := hM G h1 K'.1.1 z1 (d - 1) C1.1 (by omega)
  rw [C1.mme] at c2
  obtain ⟨h', n', z', b1, b2, b3⟩ := nx (mm G h1 S') z1 u C1.st
  exact ⟨h', n', z', b1, b2, q_law_9 hS hL hi (by omega) hcx c1 c2 C.h0 C1.h26 C.1 C1.1 (q_n0 b3)⟩
theorem s_law_10 (hS : cp_scr G bb L xs) (hL : L ≤ 1024) (hi : i + 2 ≤ L) (hcx : ((xs (i + 1)).toUInt32 % 65536).toInt32 = c) (hK : KC D m_P_parameters (fun G => [.ref (cp_b G + 0), .int c]) K (fun _ => some (.int r)) K') (hM : MC D' m_M_parameters [.int c] S (some (.int r)) S') (hD : D + 2 ≤ d) (hD' : D' + 2 ≤ d) (nx : LPP G d bb 23 (i + 2) K' S') : LPP G d bb 453 i K S := by
  intro h z u C
  obtain ⟨h1, z1, C1, c1⟩ := hK G (HH G S u) h z (d - 1) (by omega) C
  have c2 := hM G h1 K'.1.1 z1 (d - 1) C1.1 (by omega)
  rw [C1.mme] at c2
  obtain ⟨h', n', z', b1, b2, b3⟩ := nx (mm G h1 S') z1 u C1.st
  exact ⟨h', n', z', b1, b2, q_law_10 hS hL hi (by omega) hcx c1 c2 C.h0 C1.h26 C.1 C1.1 (q_n0 b3)⟩
theorem s_law_11 (hS : cp_scr G bb L xs) (hL : L ≤ 1024) (hi : i + 2 ≤ L) (hK : KC D m_P_length (fun G => [.ref (cp_b G + 0)]) K (fun _ => some (.int r)) K') (hM : MC D' m_M_length [] S (some (.int r)) S') (hD : D + 2 ≤ d) (hD' : D' + 2 ≤ d) (nx : LPP G d bb 23 (i + 2) K' S') : LPP G d bb 480 i K S := by
  intro h z u C
  obtain ⟨h1, z1, C1, c1⟩ := hK G (HH G S u) h z (d - 1) (by omega) C
  have c2 := hM G h1 K'.1.1 z1 (d - 1) C1.1 (by omega)
  rw [C1.mme] at c2
  obtain ⟨h', n', z', b1, b2, b3⟩ := nx (mm G h1 S') z1 u C1.st
  exact ⟨h', n', z', b1, b2, q_law_11 (c := 0) hS hL hi (by omega) c1 c2 C.h0 C1.h26 C.1 C1.1 (q_n0 b3)⟩
theorem s_law_12 (hS : cp_scr G bb L xs) (hL : L ≤ 1024) (hi : i + 2 ≤ L) (hcx : xs (i + 1) = c) (hK : KC D m_P_charAt (fun G => [.ref (cp_b G + 0), .int c]) K (fun _ => some (.int r)) K') (hM : MC D' m_M_charAt [.int c] S (some (.int r)) S') (hD : D + 2 ≤ d) (hD' : D' + 2 ≤ d) (nx : LPP G d bb 23 (i + 2) K' S') : LPP G d bb 493 i K S := by
  intro h z u C
  obtain ⟨h1, z1, C1, c1⟩ := hK G (HH G S u) h z (d - 1) (by omega) C
  have c2 := hM G h1 K'.1.1 z1 (d - 1) C1.1 (by omega)
  rw [C1.mme] at c2
  obtain ⟨h', n', z', b1, b2, b3⟩ := nx (mm G h1 S') z1 u C1.st
  exact ⟨h', n', z', b1, b2, q_law_12 hS hL hi (by omega) hcx c1 c2 C.h0 C1.h26 C.1 C1.1 (q_n0 b3)⟩
theorem s_law_2 (hS : cp_scr G bb L xs) (hL : L ≤ 1024) (hi : i + 2 ≤ L) (hcx : ((xs (i + 1)).toUInt32 % 65536).toInt32 = c) (hK : KC D m_P_declare (fun G => [.ref (cp_b G + 0), .int c]) K (fun _ => some (.int r)) K') (hM : MC D' m_M_declare [.int c] S (some (.int r)) S') (h0 : S'.1 0 = 0) (hD : D + 2 ≤ d) (hD' : D' + 2 ≤ d) (nx : LPP G d bb 23 (i + 2) K' S') : LPP G d bb 144 i K S := by
  intro h z u C
  obtain ⟨h1, z1, C1, c1⟩ := hK G (HH G S u) h z (d - 1 - 1) (by omega) C
  have cw := q_L_declare_ok (d := d - 1) (by omega) c1 C.h0 C.1 C1.h85 C1.1
  have C2 := C1.out (u' := vp_updL u 0 r.toInt64)
  have c2 := hM G (va_up h1 85 (.inl (cp_cL G, 1, .inr (.inl (vp_updL u 0 r.toInt64))))) K'.1.1 z1 (d - 1) C1.1 (by omega)
  rw [C2.mme] at c2
  have C3 := C2.st (S' := S')
  have c3 := MC_thrown (S := S') G (mm G (va_up h1 85 (.inl (cp_cL G, 1, .inr (.inl (vp_updL u 0 r.toInt64))))) S') K'.1.1 z1 (d - 1) C1.1 (by omega)
  rw [C3.mme, h0] at c3
  obtain ⟨h', n', z', b1, b2, b3⟩ := nx _ z1 _ C3
  exact ⟨h', n', z', b1, b2, q_law_2_ok (kk := 0) hS hL hi (by omega) hcx cw c2 C2.h26 C.1 C1.1 c3 C3.h26 C1.1 C3.h85 rfl C1.1 (q_n6 b3)⟩
theorem s_law_2_12 (hS : cp_scr G bb L xs) (hL : L ≤ 1024) (hi : i + 2 ≤ L) (hcx : ((xs (i + 1)).toUInt32 % 65536).toInt32 = c) (hK : KT D m_P_declare (fun G => [.ref (cp_b G + 0), .int c]) K 12 K.1.1 K') (hM : MC D' m_M_declare [.int c] S (some (.int r)) S') (h0 : S'.1 0 = 1) (hD : D + 2 ≤ d) (hD' : D' + 2 ≤ d) (nx : LPP G d bb 23 (i + 2) K' S') : LPP G d bb 144 i K S := by
  intro h z u C
  obtain ⟨h1, z1, C1, c1⟩ := hK G (HH G S u) h z (d - 1 - 1) (by omega) C
  have cw := q_L_declare_12 (r := 0) (u := fun _ => 0) (d := d - 1) (by omega) c1 C.h0 C.1
  have c2 := hM G h1 K'.1.1 z1 (d - 1) C1.1 (by omega)
  rw [C1.mme] at c2
  have C3 := C1.st (S' := S')
  have c3 := MC_thrown (S := S') G (mm G h1 S') K'.1.1 z1 (d - 1) C1.1 (by omega)
  rw [C3.mme, h0] at c3
  obtain ⟨h', n', z', b1, b2, b3⟩ := nx _ z1 _ C3
  exact ⟨h', n', z', b1, b2, q_law_2_thr (u := fun _ => 0) hS hL hi (by omega) hcx cw c2 C1.h26 C.1 C1.1 c3 C3.h26 C1.1 (by decide) (q_n6 b3)⟩
theorem s_law_2_13 (hS : cp_scr G bb L xs) (hL : L ≤ 1024) (hi : i + 2 ≤ L) (hcx : ((xs (i + 1)).toUInt32 % 65536).toInt32 = c) (hK : KT D m_P_declare (fun G => [.ref (cp_b G + 0), .int c]) K 13 K.1.1 K') (hM : MC D' m_M_declare [.int c] S (some (.int r)) S') (h0 : S'.1 0 = 2) (hD : D + 2 ≤ d) (hD' : D' + 2 ≤ d) (nx : LPP G d bb 23 (i + 2) K' S') : LPP G d bb 144 i K S := by
  intro h z u C
  obtain ⟨h1, z1, C1, c1⟩ := hK G (HH G S u) h z (d - 1 - 1) (by omega) C
  have cw := q_L_declare_13 (r := 0) (u := fun _ => 0) (d := d - 1) (by omega) c1 C.h0 C.1
  have c2 := hM G h1 K'.1.1 z1 (d - 1) C1.1 (by omega)
  rw [C1.mme] at c2
  have C3 := C1.st (S' := S')
  have c3 := MC_thrown (S := S') G (mm G h1 S') K'.1.1 z1 (d - 1) C1.1 (by omega)
  rw [C3.mme, h0] at c3
  obtain ⟨h', n', z', b1, b2, b3⟩ := nx _ z1 _ C3
  exact ⟨h', n', z', b1, b2, q_law_2_thr (u := fun _ => 0) hS hL hi (by omega) hcx cw c2 C1.h26 C.1 C1.1 c3 C3.h26 C1.1 (by decide) (q_n6 b3)⟩
theorem s_law_3 (hS : cp_scr G bb L xs) (hL : L ≤ 1024) (hi : i + 2 ≤ L) (hcx : ((xs (i + 1)).toUInt32 % 65536).toInt32 = c) (hK : KC D m_P_program (fun G => [.ref (cp_b G + 0), .int c]) K (fun _ => some (.int r)) K') (hM : MC D' m_M_program [.int c] S (some (.int r)) S') (h0 : S'.1 0 = 0) (hD : D + 2 ≤ d) (hD' : D' + 2 ≤ d) (nx : LPP G d bb 23 (i + 2) K' S') : LPP G d bb 202 i K S := by
  intro h z u C
  obtain ⟨h1, z1, C1, c1⟩ := hK G (HH G S u) h z (d - 1 - 1) (by omega) C
  have cw := q_L_program_ok (d := d - 1) (by omega) c1 C.h0 C.1 C1.h85 C1.1
  have C2 := C1.out (u' := vp_updL u 0 r.toInt64)
  have c2 := hM G (va_up h1 85 (.inl (cp_cL G, 1, .inr (.inl (vp_updL u 0 r.toInt64))))) K'.1.1 z1 (d - 1) C1.1 (by omega)
  rw [C2.mme] at c2
  have C3 := C2.st (S' := S')
  have c3 := MC_thrown (S := S') G (mm G (va_up h1 85 (.inl (cp_cL G, 1, .inr (.inl (vp_updL u 0 r.toInt64))))) S') K'.1.1 z1 (d - 1) C1.1 (by omega)
  rw [C3.mme, h0] at c3
  obtain ⟨h', n', z', b1, b2, b3⟩ := nx _ z1 _ C3
  exact ⟨h', n', z', b1, b2, q_law_3_ok (kk := 0) hS hL hi (by omega) hcx cw c2 C2.h26 C.1 C1.1 c3 C3.h26 C1.1 C3.h85 rfl C1.1 (q_n6 b3)⟩
theorem s_law_3_12 (hS : cp_scr G bb L xs) (hL : L ≤ 1024) (hi : i + 2 ≤ L) (hcx : ((xs (i + 1)).toUInt32 % 65536).toInt32 = c) (hK : KT D m_P_program (fun G => [.ref (cp_b G + 0), .int c]) K 12 K.1.1 K') (hM : MC D' m_M_program [.int c] S (some (.int r)) S') (h0 : S'.1 0 = 1) (hD : D + 2 ≤ d) (hD' : D' + 2 ≤ d) (nx : LPP G d bb 23 (i + 2) K' S') : LPP G d bb 202 i K S := by
  intro h z u C
  obtain ⟨h1, z1, C1, c1⟩ := hK G (HH G S u) h z (d - 1 - 1) (by omega) C
  have cw := q_L_program_12 (r := 0) (u := fun _ => 0) (d := d - 1) (by omega) c1 C.h0 C.1
  have c2 := hM G h1 K'.1.1 z1 (d - 1) C1.1 (by omega)
  rw [C1.mme] at c2
  have C3 := C1.st (S' := S')
  have c3 := MC_thrown (S := S') G (mm G h1 S') K'.1.1 z1 (d - 1) C1.1 (by omega)
  rw [C3.mme, h0] at c3
  obtain ⟨h', n', z', b1, b2, b3⟩ := nx _ z1 _ C3
  exact ⟨h', n', z', b1, b2, q_law_3_thr (u := fun _ => 0) hS hL hi (by omega) hcx cw c2 C1.h26 C.1 C1.1 c3 C3.h26 C1.1 (by decide) (q_n6 b3)⟩
theorem s_law_3_13 (hS : cp_scr G bb L xs) (hL : L ≤ 1024) (hi : i + 2 ≤ L) (hcx : ((xs (i + 1)).toUInt32 % 65536).toInt32 = c) (hK : KT D m_P_program (fun G => [.ref (cp_b G + 0), .int c]) K 13 K.1.1 K') (hM : MC D' m_M_program [.int c] S (some (.int r)) S') (h0 : S'.1 0 = 2) (hD : D + 2 ≤ d) (hD' : D' + 2 ≤ d) (nx : LPP G d bb 23 (i + 2) K' S') : LPP G d bb 202 i K S := by
  intro h z u C
  obtain ⟨h1, z1, C1, c1⟩ := hK G (HH G S u) h z (d - 1 - 1) (by omega) C
  have cw := q_L_program_13 (r := 0) (u := fun _ => 0) (d := d - 1) (by omega) c1 C.h0 C.1
  have c2 := hM G h1 K'.1.1 z1 (d - 1) C1.1 (by omega)
  rw [C1.mme] at c2
  have C3 := C1.st (S' := S')
  have c3 := MC_thrown (S := S') G (mm G h1 S') K'.1.1 z1 (d - 1) C1.1 (by omega)
  rw [C3.mme, h0] at c3
  obtain ⟨h', n', z', b1, b2, b3⟩ := nx _ z1 _ C3
  exact ⟨h', n', z', b1, b2, q_law_3_thr (u := fun _ => 0) hS hL hi (by omega) hcx cw c2 C1.h26 C.1 C1.1 c3 C3.h26 C1.1 (by decide) (q_n6 b3)⟩
theorem s_law_6 (hS : cp_scr G bb L xs) (hL : L ≤ 1024) (hi : i + 2 ≤ L) (hK : KC D m_P_retract (fun G => [.ref (cp_b G + 0)]) K (fun _ => some (.int r)) K') (hM : MC D' m_M_retract [] S (some (.int r)) S') (h0 : S'.1 0 = 0) (hD : D + 2 ≤ d) (hD' : D' + 2 ≤ d) (nx : LPP G d bb 23 (i + 2) K' S') : LPP G d bb 311 i K S := by
  intro h z u C
  obtain ⟨h1, z1, C1, c1⟩ := hK G (HH G S u) h z (d - 1 - 1) (by omega) C
  have cw := q_L_retract_ok (c := 0) (d := d - 1) (by omega) c1 C.h0 C.1 C1.h85 C1.1
  have C2 := C1.out (u' := vp_updL u 0 r.toInt64)
  have c2 := hM G (va_up h1 85 (.inl (cp_cL G, 1, .inr (.inl (vp_updL u 0 r.toInt64))))) K'.1.1 z1 (d - 1) C1.1 (by omega)
  rw [C2.mme] at c2
  have C3 := C2.st (S' := S')
  have c3 := MC_thrown (S := S') G (mm G (va_up h1 85 (.inl (cp_cL G, 1, .inr (.inl (vp_updL u 0 r.toInt64))))) S') K'.1.1 z1 (d - 1) C1.1 (by omega)
  rw [C3.mme, h0] at c3
  obtain ⟨h', n', z', b1, b2, b3⟩ := nx _ z1 _ C3
  exact ⟨h', n', z', b1, b2, q_law_6_ok (c := 0) (kk := 0) hS hL hi (by omega) cw c2 C2.h26 C.1 C1.1 c3 C3.h26 C1.1 C3.h85 rfl C1.1 (q_n6 b3)⟩
theorem s_law_6_13 (hS : cp_scr G bb L xs) (hL : L ≤ 1024) (hi : i + 2 ≤ L) (hK : KT D m_P_retract (fun G => [.ref (cp_b G + 0)]) K 13 K.1.1 K') (hM : MC D' m_M_retract [] S (some (.int r)) S') (h0 : S'.1 0 = 1) (hD : D + 2 ≤ d) (hD' : D' + 2 ≤ d) (nx : LPP G d bb 23 (i + 2) K' S') : LPP G d bb 311 i K S := by
  intro h z u C
  obtain ⟨h1, z1, C1, c1⟩ := hK G (HH G S u) h z (d - 1 - 1) (by omega) C
  have cw := q_L_retract_13 (c := 0) (r := 0) (u := fun _ => 0) (d := d - 1) (by omega) c1 C.h0 C.1
  have c2 := hM G h1 K'.1.1 z1 (d - 1) C1.1 (by omega)
  rw [C1.mme] at c2
  have C3 := C1.st (S' := S')
  have c3 := MC_thrown (S := S') G (mm G h1 S') K'.1.1 z1 (d - 1) C1.1 (by omega)
  rw [C3.mme, h0] at c3
  obtain ⟨h', n', z', b1, b2, b3⟩ := nx _ z1 _ C3
  exact ⟨h', n', z', b1, b2, q_law_6_thr (c := 0) (u := fun _ => 0) hS hL hi (by omega) cw c2 C1.h26 C.1 C1.1 c3 C3.h26 C1.1 (by decide) (q_n6 b3)⟩
theorem s_law_7 (hS : cp_scr G bb L xs) (hL : L ≤ 1024) (hi : i + 2 ≤ L) (hcx : ((xs (i + 1)).toUInt32 % 65536).toInt32 = c) (hK : KC D m_P_run (fun G => [.ref (cp_b G + 0), .int c]) K (fun _ => some (.int r)) K') (hM : MC D' m_M_run [.int c] S (some (.int r)) S') (h0 : S'.1 0 = 0) (hD : D + 2 ≤ d) (hD' : D' + 2 ≤ d) (nx : LPP G d bb 23 (i + 2) K' S') : LPP G d bb 355 i K S := by
  intro h z u C
  obtain ⟨h1, z1, C1, c1⟩ := hK G (HH G S u) h z (d - 1 - 1) (by omega) C
  have cw := q_L_run_ok (d := d - 1) (by omega) c1 C.h0 C.1 C1.h85 C1.1
  have C2 := C1.out (u' := vp_updL u 0 r.toInt64)
  have c2 := hM G (va_up h1 85 (.inl (cp_cL G, 1, .inr (.inl (vp_updL u 0 r.toInt64))))) K'.1.1 z1 (d - 1) C1.1 (by omega)
  rw [C2.mme] at c2
  have C3 := C2.st (S' := S')
  have c3 := MC_thrown (S := S') G (mm G (va_up h1 85 (.inl (cp_cL G, 1, .inr (.inl (vp_updL u 0 r.toInt64))))) S') K'.1.1 z1 (d - 1) C1.1 (by omega)
  rw [C3.mme, h0] at c3
  obtain ⟨h', n', z', b1, b2, b3⟩ := nx _ z1 _ C3
  exact ⟨h', n', z', b1, b2, q_law_7_ok (kk := 0) hS hL hi (by omega) hcx cw c2 C2.h26 C.1 C1.1 c3 C3.h26 C1.1 C3.h85 rfl C1.1 (q_n6 b3)⟩
theorem s_law_7_12 (hS : cp_scr G bb L xs) (hL : L ≤ 1024) (hi : i + 2 ≤ L) (hcx : ((xs (i + 1)).toUInt32 % 65536).toInt32 = c) (hK : KT D m_P_run (fun G => [.ref (cp_b G + 0), .int c]) K 12 K.1.1 K') (hM : MC D' m_M_run [.int c] S (some (.int r)) S') (h0 : S'.1 0 = 1) (hD : D + 2 ≤ d) (hD' : D' + 2 ≤ d) (nx : LPP G d bb 23 (i + 2) K' S') : LPP G d bb 355 i K S := by
  intro h z u C
  obtain ⟨h1, z1, C1, c1⟩ := hK G (HH G S u) h z (d - 1 - 1) (by omega) C
  have cw := q_L_run_12 (r := 0) (u := fun _ => 0) (d := d - 1) (by omega) c1 C.h0 C.1
  have c2 := hM G h1 K'.1.1 z1 (d - 1) C1.1 (by omega)
  rw [C1.mme] at c2
  have C3 := C1.st (S' := S')
  have c3 := MC_thrown (S := S') G (mm G h1 S') K'.1.1 z1 (d - 1) C1.1 (by omega)
  rw [C3.mme, h0] at c3
  obtain ⟨h', n', z', b1, b2, b3⟩ := nx _ z1 _ C3
  exact ⟨h', n', z', b1, b2, q_law_7_thr (u := fun _ => 0) hS hL hi (by omega) hcx cw c2 C1.h26 C.1 C1.1 c3 C3.h26 C1.1 (by decide) (q_n6 b3)⟩
theorem s_law_5 (hS : cp_scr G bb L xs) (hL : L ≤ 1024) (hi : i + 2 ≤ L) (hcx : ((xs (i + 1)).toUInt32 % 65536).toInt32 = c) (hK : KC D m_P_lemma (fun G => [.ref (cp_b G + 0), .int c]) K (fun _ => none) K') (hM : MC D' m_M_lemma [.int c] S none S') (h0 : S'.1 0 = 0) (hD : D + 2 ≤ d) (hD' : D' + 2 ≤ d) (nx : LPP G d bb 23 (i + 2) K' S') : LPP G d bb 273 i K S := by
  intro h z u C
  obtain ⟨h1, z1, C1, c1⟩ := hK G (HH G S u) h z (d - 1 - 1) (by omega) C
  have cw := q_L_lemma_ok (r := 0) (u := fun _ => 0) (d := d - 1) (by omega) c1 C.h0 C.1
  have c2 := hM G h1 K'.1.1 z1 (d - 1) C1.1 (by omega)
  rw [C1.mme] at c2
  have C3 := C1.st (S' := S')
  have c3 := MC_thrown (S := S') G (mm G h1 S') K'.1.1 z1 (d - 1) C1.1 (by omega)
  rw [C3.mme, h0] at c3
  obtain ⟨h', n', z', b1, b2, b3⟩ := nx _ z1 _ C3
  exact ⟨h', n', z', b1, b2, q_law_5_all (r := 0) (u := fun _ => 0) hS hL hi (by omega) hcx cw c2 C1.h26 C.1 C1.1 c3 C3.h26 C1.1 (q_n5 b3)⟩
theorem s_law_5_12 (hS : cp_scr G bb L xs) (hL : L ≤ 1024) (hi : i + 2 ≤ L) (hcx : ((xs (i + 1)).toUInt32 % 65536).toInt32 = c) (hK : KT D m_P_lemma (fun G => [.ref (cp_b G + 0), .int c]) K 12 K.1.1 K') (hM : MC D' m_M_lemma [.int c] S none S') (h0 : S'.1 0 = 1) (hD : D + 2 ≤ d) (hD' : D' + 2 ≤ d) (nx : LPP G d bb 23 (i + 2) K' S') : LPP G d bb 273 i K S := by
  intro h z u C
  obtain ⟨h1, z1, C1, c1⟩ := hK G (HH G S u) h z (d - 1 - 1) (by omega) C
  have cw := q_L_lemma_12 (r := 0) (u := fun _ => 0) (d := d - 1) (by omega) c1 C.h0 C.1
  have c2 := hM G h1 K'.1.1 z1 (d - 1) C1.1 (by omega)
  rw [C1.mme] at c2
  have C3 := C1.st (S' := S')
  have c3 := MC_thrown (S := S') G (mm G h1 S') K'.1.1 z1 (d - 1) C1.1 (by omega)
  rw [C3.mme, h0] at c3
  obtain ⟨h', n', z', b1, b2, b3⟩ := nx _ z1 _ C3
  exact ⟨h', n', z', b1, b2, q_law_5_all (r := 0) (u := fun _ => 0) hS hL hi (by omega) hcx cw c2 C1.h26 C.1 C1.1 c3 C3.h26 C1.1 (q_n5 b3)⟩
theorem s_law_5_13 (hS : cp_scr G bb L xs) (hL : L ≤ 1024) (hi : i + 2 ≤ L) (hcx : ((xs (i + 1)).toUInt32 % 65536).toInt32 = c) (hK : KT D m_P_lemma (fun G => [.ref (cp_b G + 0), .int c]) K 13 K.1.1 K') (hM : MC D' m_M_lemma [.int c] S none S') (h0 : S'.1 0 = 2) (hD : D + 2 ≤ d) (hD' : D' + 2 ≤ d) (nx : LPP G d bb 23 (i + 2) K' S') : LPP G d bb 273 i K S := by
  intro h z u C
  obtain ⟨h1, z1, C1, c1⟩ := hK G (HH G S u) h z (d - 1 - 1) (by omega) C
  have cw := q_L_lemma_13 (r := 0) (u := fun _ => 0) (d := d - 1) (by omega) c1 C.h0 C.1
  have c2 := hM G h1 K'.1.1 z1 (d - 1) C1.1 (by omega)
  rw [C1.mme] at c2
  have C3 := C1.st (S' := S')
  have c3 := MC_thrown (S := S') G (mm G h1 S') K'.1.1 z1 (d - 1) C1.1 (by omega)
  rw [C3.mme, h0] at c3
  obtain ⟨h', n', z', b1, b2, b3⟩ := nx _ z1 _ C3
  exact ⟨h', n', z', b1, b2, q_law_5_all (r := 0) (u := fun _ => 0) hS hL hi (by omega) hcx cw c2 C1.h26 C.1 C1.1 c3 C3.h26 C1.1 (q_n5 b3)⟩
theorem t_disp_0 (hS : cp_scr G bb L xs) (hL : L ≤ 1024) (hi : i + 2 ≤ L) (hj : xs i &&& 15 = nI 0) (nx : LPP G d bb 104 i K S) : LPP G d bb 23 i K S := by
  intro h z u C
  obtain ⟨h', n', z', b1, b2, b3⟩ := nx h z u C
  exact ⟨h', n', z', b1, b2, q_disp_0 hS hL hi hj b3⟩
theorem t_disp_1 (hS : cp_scr G bb L xs) (hL : L ≤ 1024) (hi : i + 2 ≤ L) (hj : xs i &&& 15 = nI 1) (nx : LPP G d bb 131 i K S) : LPP G d bb 23 i K S := by
  intro h z u C
  obtain ⟨h', n', z', b1, b2, b3⟩ := nx h z u C
  exact ⟨h', n', z', b1, b2, q_disp_1 hS hL hi hj b3⟩
theorem t_disp_2 (hS : cp_scr G bb L xs) (hL : L ≤ 1024) (hi : i + 2 ≤ L) (hj : xs i &&& 15 = nI 2) (nx : LPP G d bb 144 i K S) : LPP G d bb 23 i K S := by
  intro h z u C
  obtain ⟨h', n', z', b1, b2, b3⟩ := nx h z u C
  exact ⟨h', n', z', b1, b2, q_disp_2 hS hL hi hj b3⟩
theorem t_disp_3 (hS : cp_scr G bb L xs) (hL : L ≤ 1024) (hi : i + 2 ≤ L) (hj : xs i &&& 15 = nI 3) (nx : LPP G d bb 202 i K S) : LPP G d bb 23 i K S := by
  intro h z u C
  obtain ⟨h', n', z', b1, b2, b3⟩ := nx h z u C
  exact ⟨h', n', z', b1, b2, q_disp_3 hS hL hi hj b3⟩
theorem t_disp_4 (hS : cp_scr G bb L xs) (hL : L ≤ 1024) (hi : i + 2 ≤ L) (hj : xs i &&& 15 = nI 4) (nx : LPP G d bb 260 i K S) : LPP G d bb 23 i K S := by
  intro h z u C
  obtain ⟨h', n', z', b1, b2, b3⟩ := nx h z u C
  exact ⟨h', n', z', b1, b2, q_disp_4 hS hL hi hj b3⟩
theorem t_disp_5 (hS : cp_scr G bb L xs) (hL : L ≤ 1024) (hi : i + 2 ≤ L) (hj : xs i &&& 15 = nI 5) (nx : LPP G d bb 273 i K S) : LPP G d bb 23 i K S := by
  intro h z u C
  obtain ⟨h', n', z', b1, b2, b3⟩ := nx h z u C
  exact ⟨h', n', z', b1, b2, q_disp_5 hS hL hi hj b3⟩
theorem t_disp_6 (hS : cp_scr G bb L xs) (hL : L ≤ 1024) (hi : i + 2 ≤ L) (hj : xs i &&& 15 = nI 6) (nx : LPP G d bb 311 i K S) : LPP G d bb 23 i K S := by
  intro h z u C
  obtain ⟨h', n', z', b1, b2, b3⟩ := nx h z u C
  exact ⟨h', n', z', b1, b2, q_disp_6 hS hL hi hj b3⟩
theorem t_disp_7 (hS : cp_scr G bb L xs) (hL : L ≤ 1024) (hi : i + 2 ≤ L) (hj : xs i &&& 15 = nI 7) (nx : LPP G d bb 355 i K S) : LPP G d bb 23 i K S := by
  intro h z u C
  obtain ⟨h', n', z', b1, b2, b3⟩ := nx h z u C
  exact ⟨h', n', z', b1, b2, q_disp_7 hS hL hi hj b3⟩
theorem t_disp_8 (hS : cp_scr G bb L xs) (hL : L ≤ 1024) (hi : i + 2 ≤ L) (hj : xs i &&& 15 = nI 8) (nx : LPP G d bb 413 i K S) : LPP G d bb 23 i K S := by
  intro h z u C
  obtain ⟨h', n', z', b1, b2, b3⟩ := nx h z u C
  exact ⟨h', n', z', b1, b2, q_disp_8 hS hL hi hj b3⟩
theorem t_disp_9 (hS : cp_scr G bb L xs) (hL : L ≤ 1024) (hi : i + 2 ≤ L) (hj : xs i &&& 15 = nI 9) (nx : LPP G d bb 426 i K S) : LPP G d bb 23 i K S := by
  intro h z u C
  obtain ⟨h', n', z', b1, b2, b3⟩ := nx h z u C
  exact ⟨h', n', z', b1, b2, q_disp_9 hS hL hi hj b3⟩
theorem t_disp_10 (hS : cp_scr G bb L xs) (hL : L ≤ 1024) (hi : i + 2 ≤ L) (hj : xs i &&& 15 = nI 10) (nx : LPP G d bb 453 i K S) : LPP G d bb 23 i K S := by
  intro h z u C
  obtain ⟨h', n', z', b1, b2, b3⟩ := nx h z u C
  exact ⟨h', n', z', b1, b2, q_disp_10 hS hL hi hj b3⟩
theorem t_disp_11 (hS : cp_scr G bb L xs) (hL : L ≤ 1024) (hi : i + 2 ≤ L) (hj : xs i &&& 15 = nI 11) (nx : LPP G d bb 480 i K S) : LPP G d bb 23 i K S := by
  intro h z u C
  obtain ⟨h', n', z', b1, b2, b3⟩ := nx h z u C
  exact ⟨h', n', z', b1, b2, q_disp_11 hS hL hi hj b3⟩
theorem t_disp_12 (hS : cp_scr G bb L xs) (hL : L ≤ 1024) (hi : i + 2 ≤ L) (hj : xs i &&& 15 = nI 12) (nx : LPP G d bb 493 i K S) : LPP G d bb 23 i K S := by
  intro h z u C
  obtain ⟨h', n', z', b1, b2, b3⟩ := nx h z u C
  exact ⟨h', n', z', b1, b2, q_disp_12 hS hL hi hj b3⟩
theorem t_disp_13 (hS : cp_scr G bb L xs) (hL : L ≤ 1024) (hi : i + 2 ≤ L) (hj : xs i &&& 15 = nI 13) (nx : LPP G d bb 518 i K S) : LPP G d bb 23 i K S := by
  intro h z u C
  obtain ⟨h', n', z', b1, b2, b3⟩ := nx h z u C
  exact ⟨h', n', z', b1, b2, q_disp_13 hS hL hi hj b3⟩
theorem t_disp_14 (hS : cp_scr G bb L xs) (hL : L ≤ 1024) (hi : i + 2 ≤ L) (hj : xs i &&& 15 = nI 14) (nx : LPP G d bb 518 i K S) : LPP G d bb 23 i K S := by
  intro h z u C
  obtain ⟨h', n', z', b1, b2, b3⟩ := nx h z u C
  exact ⟨h', n', z', b1, b2, q_disp_14 hS hL hi hj b3⟩
theorem t_disp_15 (hS : cp_scr G bb L xs) (hL : L ≤ 1024) (hi : i + 2 ≤ L) (hj : xs i &&& 15 = nI 15) (nx : LPP G d bb 518 i K S) : LPP G d bb 23 i K S := by
  intro h z u C
  obtain ⟨h', n', z', b1, b2, b3⟩ := nx h z u C
  exact ⟨h', n', z', b1, b2, q_disp_15 hS hL hi hj b3⟩
theorem s_law_13 (nx : LPP G d bb 23 (i + 2) K S) : LPP G d bb 518 i K S := by
  intro h z u C
  obtain ⟨h', n', z', b1, b2, b3⟩ := nx h z u C
  exact ⟨h', n', z', b1, b2, q_n0 b3⟩
end CPLO
