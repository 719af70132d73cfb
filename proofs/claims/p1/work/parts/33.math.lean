section CPMa
variable {G : cp_G} {mt : cp_M} {d n0 z0 : Nat} {o : cp_O} {h' : Nat → cp_E} {n' z' pc : Nat} {lv : List (Nat × Value)} {rest : List Value} {h : Nat → cp_E} {n z : Nat}
theorem cp_mxi : Cond.static Lib.Math.max.name ∈ cp_WS ∧ Cond.initialized "java/lang/Math" ∈ cp_WS ∧ Cond.code Lib.Math.max.name Lib.Math.max.code 2 (some .int) ∈ cp_WS := ⟨ml_R_9.2, k_H_max.2.1, k_H_max.1⟩
theorem vv_mmax {idx : Nat} {x y : Int32} (hd : decode mt.2.1 pc = .ok (.invokestatic idx, 3)) (hl : Cond.methodLink mt.1.cls idx Lib.Math.max.name ∈ cp_WS) (hd1 : 1 ≤ d) (hrs : (rest.map fun v => v.category).sum ≤ 8) (kk : cp_V G mt d n0 z0 o h' n' z' (pc + 3) lv (.int (if x < y then y else x) :: rest) h n z) :
    cp_V G mt d n0 z0 o h' n' z' pc lv (.int y :: .int x :: rest) h n z := by
  have m1 := kk.1.1
  have m2 := kk.1.2
  refine ⟨kk.1, fun p l e R s m args below meth c B h0 hz0 H locs ls X => ?_⟩
  have w := kk.2 p l e R s m args below meth c B h0 hz0 H locs ls X
  obtain ⟨hx, hb, hml, -, -, hown, -, hts, hT, hz, hf, hlo, b1, b2⟩ := B
  exact va_mmax hx hb (by rw [hml]; exact X.2.2.1.symm) hown (hts _ hl) (hts _ cp_mxi.1) (hts _ cp_mxi.2.1) (hts _ cp_mxi.2.2) (by omega) (by omega) (by omega) (by omega) hd w
theorem cp_mni : Cond.static Lib.Math.min.name ∈ cp_WS ∧ Cond.initialized "java/lang/Math" ∈ cp_WS ∧ Cond.code Lib.Math.min.name Lib.Math.min.code 2 (some .int) ∈ cp_WS := ⟨ml_Y_304.2, k_H_min.2.1, k_H_min.1⟩
theorem vv_mmin {idx : Nat} {x y : Int32} (hd : decode mt.2.1 pc = .ok (.invokestatic idx, 3)) (hl : Cond.methodLink mt.1.cls idx Lib.Math.min.name ∈ cp_WS) (hd1 : 1 ≤ d) (hrs : (rest.map fun v => v.category).sum ≤ 8) (kk : cp_V G mt d n0 z0 o h' n' z' (pc + 3) lv (.int (if y < x then y else x) :: rest) h n z) :
    cp_V G mt d n0 z0 o h' n' z' pc lv (.int y :: .int x :: rest) h n z := by
  have m1 := kk.1.1
  have m2 := kk.1.2
  refine ⟨kk.1, fun p l e R s m args below meth c B h0 hz0 H locs ls X => ?_⟩
  have w := kk.2 p l e R s m args below meth c B h0 hz0 H locs ls X
  obtain ⟨hx, hb, hml, -, -, hown, -, hts, hT, hz, hf, hlo, b1, b2⟩ := B
  exact va_mmin hx hb (by rw [hml]; exact X.2.2.1.symm) hown (hts _ hl) (hts _ cp_mni.1) (hts _ cp_mni.2.1) (hts _ cp_mni.2.2) (by omega) (by omega) (by omega) (by omega) hd w
end CPMa
