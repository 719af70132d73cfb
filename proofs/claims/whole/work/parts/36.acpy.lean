/-! ===== System.arraycopy between two int arrays ===== -/
section CPAc
variable {G : cp_G} {mt : cp_M} {d n0 z0 : Nat} {o : cp_O} {h' : Nat → cp_E} {n' z' pc : Nat} {lv : List (Nat × Value)} {rest : List Value} {h : Nat → cp_E} {n z : Nat}
theorem cp_acw : Cond.native arraycopyName ∈ cp_WS ∧ Cond.static arraycopyName ∈ cp_WS ∧ Cond.initialized "java/lang/System" ∈ cp_WS :=
  ⟨cp_in (List.mem_append_right _ (List.mem_append_left _ (List.mem_of_getElem? (i := 201) rfl))) rfl, cp_in (List.mem_append_right _ (List.mem_append_left _ (List.mem_of_getElem? (i := 200) rfl))) rfl, cp_in (List.mem_append_left _ (List.mem_of_getElem? (i := 19) rfl)) rfl⟩
theorem cp_acl : Cond.methodLink "java/util/Arrays" 150 arraycopyName ∈ cp_WS := cp_in (List.mem_append_right _ (List.mem_append_left _ (List.mem_of_getElem? (i := 199) rfl))) rfl
theorem vv_acpy {idx i j N M : Nat} {f g : Nat → Int32} {sp dp x : Int32} (hd : decode mt.2.1 pc = .ok (.invokestatic idx, 3)) (hl : Cond.methodLink mt.1.cls idx arraycopyName ∈ cp_WS) (hi : i < n) (hj : j < n) (hh : h i = .inl (cp_cI G, N, .inl f)) (hg : h j = .inl (cp_cI G, M, .inl g))
    (h1 : ¬ sp < 0) (h2 : ¬ dp < 0) (h3 : ¬ x < 0) (h4 : sp.toNatClampNeg + x.toNatClampNeg ≤ N) (h5 : dp.toNatClampNeg + x.toNatClampNeg ≤ M) (hd1 : 1 ≤ d) (hrs : (rest.map fun v => v.category).sum ≤ 8)
    (kk : cp_V G mt d n0 z0 o h' n' z' (pc + 3) lv rest (va_up h j (.inl (cp_cI G, M, .inl (va_cpy f g sp.toNatClampNeg dp.toNatClampNeg x.toNatClampNeg)))) n z) :
    cp_V G mt d n0 z0 o h' n' z' pc lv (.int x :: .int dp :: .ref (cp_b G + j) :: .int sp :: .ref (cp_b G + i) :: rest) h n z := by
  refine ⟨kk.1, fun p l e R s m args below meth c B h0 hz0 H locs ls X => ?_⟩
  have B0 := B
  obtain ⟨hx, hb, hml, -, -, hown, -, hts, hT, hz, hf, hlo, b1, b2⟩ := B
  have nn : ∀ y : Int32, ¬ y < 0 → y.toInt = (y.toNatClampNeg : Int) := by
    intro y hy
    have hy0 : (0 : Int) ≤ y.toInt := by
      have := Int32.not_lt.mp hy
      simpa using Int32.le_iff_toInt_le.mp this
    show y.toInt = ((y.toInt.toNat : Nat) : Int)
    omega
  intro T hTT XX
  have c0 : H[cp_b G + i]? = some (vp_cell (cp_cI G) (N, .inl f)) := by have := X.1.2 i hi; rw [hh] at this; exact this
  have c1 : H[cp_b G + j]? = some (vp_cell (cp_cI G) (M, .inl g)) := by have := X.1.2 j hj; rw [hg] at this; exact this
  obtain ⟨-, k0, hk0, cm0, hkk0⟩ := (hT.K.2 0 _ rfl).1 N (fun q => .int (f q))
  obtain ⟨-, k1, hk1, cm1, hkk1⟩ := (hT.K.2 0 _ rfl).1 M (fun q => .int (g q))
  obtain ⟨vm', X', step⟩ := XX.arraycopy hx hown (hts _ hl) (hts _ cp_acw.1) (hts _ cp_acw.2.1) (hts _ cp_acw.2.2) (src := cp_b G + i) (dst := cp_b G + j) (cs := vp_cell (cp_cI G) (N, .inl f)) (cd := vp_cell (cp_cI G) (M, .inl g)) (srcPos := sp) (destPos := dp) (n := x) (by rw [hTT]; exact c0) (by rw [hTT]; exact c1)
    (fun _ q => by cases q) (fun _ q => by cases q) (fun q => by cases q) (fun q => by cases q) hk0 hk1 hkk0 hkk1 (by simp [refKind]) h1 h2 h3
    (by rw [nn sp h1, nn x h3]; show ¬ _ > ((arrV (cp_cI G) N (fun q => .int (f q))).slots.size : Int); rw [arrV_size]; omega)
    (by rw [nn dp h2, nn x h3]; show ¬ _ > ((arrV (cp_cI G) M (fun q => .int (g q))).slots.size : Int); rw [arrV_size]; omega)
    (fun vm₁ _ u hu => by
      have e9 : (vp_cell (cp_cI G) (N, .inl f)).slots.getD (sp.toNatClampNeg + u) .null = .int (f (sp.toNatClampNeg + u)) := by
        show (arrV (cp_cI G) N (fun q => .int (f q))).slots.getD _ _ = _
        rw [Array.getD_eq_getD_getElem?, arrV_read _ _ (by omega)]
        rfl
      refine ⟨?_, ?_⟩
      · rw [e9]; rfl
      · rw [e9]; exact trivial)
    (g := F0 m pc ls (.int x :: .int dp :: .ref (cp_b G + j) :: .int sp :: .ref (cp_b G + i) :: rest)) rfl (by rw [hml]; exact X.2.2.1) (rest := rest) rfl (by rw [hb]; exact hd) (by omega) (by
         show 2 * 0 + _ + _ ≤ _
         have hnw : nativeFrameWords "java/lang/System" "arraycopy" 5 ≤ 40 := by decide +kernel
         omega)
  have e1 : copied (vp_cell (cp_cI G) (N, .inl f)) (vp_cell (cp_cI G) (M, .inl g)) sp dp x = vp_cell (cp_cI G) (M, .inl (va_cpy f g sp.toNatClampNeg dp.toNatClampNeg x.toNatClampNeg)) := va_copied (fun q => .int q) (cp_cI G) (cp_cI G) f g h4
  rw [e1] at X' step
  have hlt : cp_b G + j < H.size := (Array.getElem?_eq_some_iff.mp c1).1
  have oq : ∀ q : Nat, q ≠ cp_b G + j → (H.setIfInBounds (cp_b G + j) (vp_cell (cp_cI G) (M, .inl (va_cpy f g sp.toNatClampNeg dp.toNatClampNeg x.toNatClampNeg))))[q]? = H[q]? := fun q hq => by simp [Array.getElem?_setIfInBounds, Ne.symm hq]
  have hheap : ((T.setVm vm').setCell (cp_b G + j) (vp_cell (cp_cI G) (M, .inl (va_cpy f g sp.toNatClampNeg dp.toNatClampNeg x.toNatClampNeg)))).heap = H.setIfInBounds (cp_b G + j) (vp_cell (cp_cI G) (M, .inl (va_cpy f g sp.toNatClampNeg dp.toNatClampNeg x.toNatClampNeg))) := by rw [← hTT]; rfl
  obtain ⟨t, a1, b1⟩ := kk.2 p l e R s m args below meth c B0 h0 hz0 _ _ ls ⟨X.1.put hj (show (H.setIfInBounds (cp_b G + j) _)[cp_b G + j]? = some _ by simp [Array.getElem?_setIfInBounds, hlt]) (by simp) oq, ⟨by simp; exact X.2.1.1, fun q g1 g2 => by
      rw [oq q (fun e => g2 (by rw [e]; exact Nat.le_add_right _ _))]
      exact X.2.1.2.1 q g1 g2, fun q hq => by
      rcases List.mem_append.mp hq with q1 | q1
      · exact X.2.1.2.2 q q1
      · obtain ⟨y, -, hy⟩ := List.mem_map.mp q1
        rw [← hy]
        exact Nat.le_add_right _ _⟩, X.2.2⟩ _ hheap X'
  exact ⟨t, step t a1, b1⟩
end CPAc
