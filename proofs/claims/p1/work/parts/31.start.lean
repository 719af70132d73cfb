/-! ===== the law's own frame: its script, its start, its end ===== -/
section CPS
variable {G : cp_G} {mt : cp_M} {d n0 z0 : Nat} {o : cp_O} {h' : Nat → cp_E} {n' z' pc : Nat} {lv : List (Nat × Value)} {rest : List Value} {h : Nat → cp_E} {n z : Nat}
/-- the script: L ints xs in the cell b, which stood before the law -/
def cp_scr (G : cp_G) (b L : Nat) (xs : Nat → Int32) : Prop := va_X b L xs (cp_s G) (cp_s G).heap ∧ b < cp_b G
theorem cp_scr.at {b L : Nat} {xs : Nat → Int32} {s : State} (hS : cp_scr G b L xs) (hT : cp_T G s) : va_X b L xs s s.heap := va_X.moved hT.2.1.alike (hS.1.kept (hT.2.2 b hS.2))
theorem vv_sld {b L : Nat} {xs : Nat → Int32} {j : Int32} (hS : cp_scr G b L xs) (hd : decode mt.2.1 pc = .ok (.iaload, 1)) (hin : vp_in j L) (kk : cp_V G mt d n0 z0 o h' n' z' (pc + 1) lv (.int (xs j.toNatClampNeg) :: rest) h n z) :
    cp_V G mt d n0 z0 o h' n' z' pc lv (.int j :: .ref b :: rest) h n z :=
  cp_go kk (fun p l e R s m args below meth c H locs cells slots Q ls B X w => by
    obtain ⟨hx, hb, -, -, -, -, -, -, hT, hz, -⟩ := B
    have hb2 := hS.2
    exact va_sld (A := cp_A (cp_b G)) hx hb (hS.at hT) (by omega) (by show ¬ cp_b G ≤ b; omega) X.2.1 hin hd w)
theorem vv_slen {b L : Nat} {xs : Nat → Int32} (hS : cp_scr G b L xs) (hd : decode mt.2.1 pc = .ok (.arraylength, 1)) (kk : cp_V G mt d n0 z0 o h' n' z' (pc + 1) lv (.int (Int32.ofNat L) :: rest) h n z) :
    cp_V G mt d n0 z0 o h' n' z' pc lv (.ref b :: rest) h n z :=
  cp_go kk (fun p l e R s m args below meth c H locs cells slots Q ls B X w => by
    obtain ⟨hx, hb, -, -, -, -, -, -, hT, hz, -⟩ := B
    have hb2 := hS.2
    exact va_slen (A := cp_A (cp_b G)) hx hb (hS.at hT) (by omega) (by show ¬ cp_b G ≤ b; omega) X.2.1 hd w)
end CPS
abbrev m_law : cp_M := (x, code, 7, ret)
theorem cp_okA : ∀ ci, ci < 14 → cp_ok ci := fun ci h => match ci, h with
  | 0, _ => cp_ok0 | 1, _ => cp_ok1 | 2, _ => cp_ok2 | 3, _ => cp_ok3 | 4, _ => cp_ok4 | 5, _ => cp_ok5 | 6, _ => cp_ok6 | 7, _ => cp_ok7 | 8, _ => cp_ok8 | 9, _ => cp_ok9 | 10, _ => cp_ok10 | 11, _ => cp_ok11 | 12, _ => cp_ok12 | 13, _ => cp_ok13
  | (n + 14), h => absurd h (Nat.not_lt.mpr (Nat.le_add_left _ _))
theorem cp_arrAt {s : State} {args : Array Value} {ty : FieldType} (h : (Cond.arrayClass ty).before args s = true) (hty : ∀ C, ty ≠ .object C) : ∃ cA : ClassId, ArrOfT s cA ty ∧ va_RA s cA ty := by
  obtain ⟨cA, kA, comp, h1, h2, h3⟩ := Cond.arrayClass_spec h
  refine ⟨cA, fun n z => ⟨fun k h => (by cases h), kA, h2, comp, h3⟩, ?_⟩
  cases ty with
  | object C => exact absurd rfl (hty C)
  | _ => exact h1
/-- what the Statement gives of the start, and the run's own constants out of it -/
theorem cp_known {s : State} {args : Array Value} (hts : ∀ w ∈ lw_tbl, w.before args s = true) (hthr : ∀ w ∈ cp_thr, w.before #[] s = true) (hno : (Cond.not (.castable "java/lang/IllegalStateException" "java/lang/IllegalArgumentException")).before #[] s = true) (hhnd : ∀ w ∈ cp_hnd, w.before #[] s = true)
    (hnest : ∀ w ∈ cp_nest, w.before args s = true) (hAO : (Cond.arrayOver (.object "ConditionedProofs$Entry")).before args s = true) (hstr : ∀ q ∈ cp_strs, (Cond.stringRef "ConditionedProofs" q.1 q.2).before args s = true) : ∃ G : cp_G, cp_s G = s ∧ cp_K0 G := by
  have hws : ∀ w ∈ cp_WS, w.before args s = true := fun w hw => hts w (List.mem_filter.mp hw).1
  have hex : ∀ ci : Nat, ∃ q : ClassId × (Nat → Nat), ci < 14 → u_Kn s (cp_R ci) (cp_F ci) (cp_N ci) q.1 q.2 := by
    intro ci
    by_cases hci : ci < 14
    · obtain ⟨-, hu, -, -, hins, -⟩ := cp_okA ci hci
      obtain ⟨cC, iS, hk⟩ := u_known hws hu (hws _ hins)
      exact ⟨(cC, iS), fun _ => hk⟩
    · exact ⟨(0, fun _ => 0), fun h => absurd h hci⟩
  obtain ⟨a1, b1, c1⟩ := cp_arrAt (hws _ cp_arI) (fun C h => by cases h)
  obtain ⟨a2, b2, c2⟩ := cp_arrAt (hws _ cp_arC) (fun C h => by cases h)
  obtain ⟨a3, b3, c3⟩ := cp_arrAt (hws _ cp_arL) (fun C h => by cases h)
  obtain ⟨comp, a4, k4, q1, q2, q3, q4, q5⟩ := Cond.arrayOver_spec hAO
  refine ⟨((fun ci => (Classical.choose (hex ci)).1, fun ci => (Classical.choose (hex ci)).2), (a1, a2, a3, a4), s), rfl, ⟨fun c q hq => ?_, fun k q hq => ?_⟩, fun w hw => ?_, va_AO.of hAO, hthr, fun q hq => ?_, hno, hhnd⟩
  · have hc : c < 14 := by
      have := (List.getElem?_eq_some_iff.mp hq).1
      simpa [cp_cl] using this
    rw [cp_cl_at hc] at hq
    cases hq
    exact Classical.choose_spec (hex c) hc
  · have hk : k < 4 := (List.getElem?_eq_some_iff.mp hq).1
    match k, hk, hq with
    | 0, _, hq => cases hq; exact ⟨b1, c1⟩
    | 1, _, hq => cases hq; exact ⟨b2, c2⟩
    | 2, _, hq => cases hq; exact ⟨b3, c3⟩
    | 3, _, hq => cases hq; exact ⟨fun n z => ⟨fun k h => (by cases h), k4, q3, comp, q4⟩, k4, comp, q3, q4, q1, q5⟩
  · exact va_Nw.of (by
      simp only [cp_nest, List.mem_cons, List.not_mem_nil, or_false] at hw
      rcases hw with rfl | rfl | rfl <;> rfl) (hnest w hw)
  · have h1 := hstr q hq
    obtain ⟨cC, hcur⟩ : ∃ c, s.vm.findClass "ConditionedProofs" = some c := ⟨_, (Classical.choose_spec (hex 0) (by decide)).2.1⟩
    obtain ⟨k, cf, i, a, -, -, -, -, -, h6⟩ := Cond.stringRef_spec hcur h1
    exact ⟨a, vk_R.of h1 h6⟩
