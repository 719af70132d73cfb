section CPTV
variable {G : cp_G} {mt mk : cp_M} {d d1 n0 z0 ci i : Nat} {h' h1 : Nat → cp_E} {n' z' n1 z1 pc : Nat} {lv : List (Nat × Value)} {rest As : List Value} {h : Nat → cp_E} {n z : Nat}
/-- invokevirtual of a method that throws: the note lies over the frame -/
theorem cp_thrV {p : Program} {l : Launch} {e : Env} {R : Room} {s : State} {m : MethodId} {args : Array Value} {below : List Frame} {meth : Method} {c : Code} {T : State} {locs : List Loc} {cells slots : Nat} {ls : Array Slot} {i0 cr idx : Nat} {gf : Nat → Value}
    (X : Stand p l e R s m args below meth c T locs cells slots) (hlf : cp_lf l) (B : cp_B G mt d n0 z0 n' z' p R s m args meth c) (Y : cp_H G mt.2.2.1 lv h n s T.heap locs ls)
    (hd : decode mt.2.1 pc = .ok (.invokevirtual idx, 3)) (hC : cp_CT G d1 mk (.ref (cp_b G + i0) :: As) h n z ci i h1 n1 z1) (hc : cp_cd mk As.length) (hcr : cr < 14) (hcl : mk.1.cls = cp_R cr) (hl : Cond.methodLink mt.1.cls idx mk.1 ∈ cp_WS) (hin : Cond.instanceMethod mk.1 ∈ cp_WS) (hse : Cond.selects mk.1.cls mk.1 mk.1 ∈ cp_WS)
    (hi : i0 < n) (hh : h i0 = .inr (cr, gf)) (hdd : d1 + 1 ≤ d) (hrs : (rest.map fun v => v.category).sum ≤ 8) (hroom : cells + (n1 - n) ≤ R.cells ∧ slots + (z1 - z) ≤ R.slots) :
    ∃ (U' : State) (L : List Loc), Stand p l e R s m args below meth c U' L (cells + (n1 - n)) (slots + (z1 - z)) ∧ (∀ q ∈ L, cp_A (cp_b G) q.base) ∧ cp_P G h1 n1 U'.heap ∧ cp_T G U' ∧ cp_ex G ci i U' ∧ va_S (cp_A (cp_b G)) s.heap U'.heap L ∧
      ∀ target, Steps p.tables e below ((U'.setTop (F0 m pc ls rest)).pushFrame (.throwing (cp_b G + i))) target → Steps p.tables e below (T.setTop (F0 m pc ls (As.reverse ++ .ref (cp_b G + i0) :: rest))) target := by
  obtain ⟨hx, hb, hml, -, -, hown, -, hts, hT, hz, hf, hlo, -⟩ := B
  obtain ⟨c1, c2, c3, c4, c5, c6⟩ := hc
  obtain ⟨cellB, hcB, hoB, hclB⟩ := va_recv (D := cp_D G) hT.K (Y.1.o hi hh hcr) (cp_cl_at hcr) (q0 := 0) rfl
  rw [← hcl] at hclB
  obtain ⟨mi, methM, hnamed, hmethM, hstM, habM⟩ := Cond.instanceMethod_spec (hts _ hin)
  obtain ⟨methM', cM, hmethM', -, -, -, -, -, -, hsigM⟩ := Cond.code_spec hnamed (hts _ c1)
  cases hmethM.symm.trans hmethM'
  obtain ⟨k2, r2, m2, q1, q2, q3, q4, kP, hkP, hkPi⟩ := Cond.selects_spec (hts _ hse)
  cases hclB.symm.trans q1
  cases (State.methodFound?_of_named hnamed ⟨c4, c5⟩).symm.trans q2
  cases hnamed.symm.trans q3
  have hselP : selectMethod e.platform s.vm cellB.cls mi = .method mi := by rw [Launch.admits_selectMethod X.admits]; exact q4
  have hlen : As.length = methM.sig.parameters.length := by
    have h2 := c6
    rw [hsigM] at h2
    exact (Option.some.inj h2).symm
  obtain ⟨vm₁, X₁, hstep₁⟩ := X.invokevirtual hx hown (hts _ hl) hnamed hmethM hstM hkP hkPi ⟨c4, c5⟩ (a := cp_b G + i0) (cell := cellB) hcB
    (fun z h => by rw [h] at hoB; cases hoB) hselP hmethM habM hkP hkPi (g := F0 m pc ls (As.reverse ++ .ref (cp_b G + i0) :: rest)) rfl (argsL := As) (rest := rest) hlen rfl (by rw [hb]; exact hd)
  have hG := cp_good (a := mt) c1
  have hws : ∀ w ∈ cp_ws mk, w.before (Value.ref (cp_b G + i0) :: As).toArray (T.setVm vm₁) = true := fun w hw => pay_in hts hG w hw _ _ X₁.warmed
  have hini : (Cond.initialized mk.1.cls).before (Value.ref (cp_b G + i0) :: As).toArray (T.setVm vm₁) = true := word_at X₁.warmed (good_of_word (List.mem_filter.mp c2).2) (hts _ c2)
  have hPc : cp_Pc G (.ref (cp_b G + i0) :: As) h n (Value.ref (cp_b G + i0) :: As).toArray (T.setVm vm₁) := cp_pre (As := .ref (cp_b G + i0) :: As) hT Y.1 Y.2.1 hz rfl X₁.warmed
  obtain ⟨U', L, X', hL, hP1, hT1, hE1, ⟨f1, f2⟩, st⟩ := cp_thrown (g := F0 m pc ls rest) (mk := mk) X₁ hlf rfl (by rw [hml]; exact Y.2.2.1) (by rw [hb]; exact hd) (lv_room hrs) (X₁.named hnamed) hC hws hini (by omega) (by omega) hroom.1 hroom.2 hPc
  refine ⟨U', locs ++ L, X', fun q hq => ?_, hP1, hT1, hE1, ⟨Nat.le_trans Y.2.1.1 f1, fun q g1 g2 => ?_, fun q hq => ?_⟩, fun target ht => hstep₁ _ fun acts => ?_⟩
  · rcases List.mem_append.mp hq with hq | hq
    · exact Y.2.1.2.2 q hq
    · exact hL q hq
  · rw [f2 q (Nat.lt_of_lt_of_le g1 Y.2.1.1) g2]
    exact Y.2.1.2.1 q g1 g2
  · rcases List.mem_append.mp hq with hq | hq
    · exact Y.2.1.2.2 q hq
    · exact hL q hq
  · rw [doInvoke_state]
    exact st.trans ht
/-- a method without handlers whose callee throws: it throws -/
theorem vv_thV {i0 cr idx : Nat} {gf : Nat → Value} (hd : decode mt.2.1 pc = .ok (.invokevirtual idx, 3)) (hC : cp_CT G d1 mk (.ref (cp_b G + i0) :: As) h n z ci i h1 n1 z1) (hc : cp_cd mk As.length) (hcr : cr < 14) (hcl : mk.1.cls = cp_R cr) (hl : Cond.methodLink mt.1.cls idx mk.1 ∈ cp_WS) (hin : Cond.instanceMethod mk.1 ∈ cp_WS) (hse : Cond.selects mk.1.cls mk.1 mk.1 ∈ cp_WS)
    (hi : i0 < n) (hh : h i0 = .inr (cr, gf)) (hdd : d1 + 1 ≤ d) (hrs : (rest.map fun v => v.category).sum ≤ 8) (hme : Cond.code mt.1 mt.2.1 mt.2.2.1 mt.2.2.2 ∈ cp_WS) :
    cp_V G mt d n0 z0 (.inr (ci, i)) h1 n1 z1 pc lv (As.reverse ++ .ref (cp_b G + i0) :: rest) h n z := by
  have m1 := hC.1
  have m2 := hC.2.1
  refine ⟨⟨m1, m2⟩, fun p l e R s m args below meth c B h0 hz0 H locs ls Y => ?_⟩
  intro T hT X
  subst hT
  have b1 := B.2.2.2.2.2.2.2.2.2.2.2.2.1
  have b2 := B.2.2.2.2.2.2.2.2.2.2.2.2.2
  obtain ⟨U', L, X', hL, hP1, hT1, hE1, hS1, st⟩ := cp_thrV X h0.2 B Y hd hC hc hcr hcl hl hin hse hi hh hdd hrs ⟨by omega, by omega⟩
  have hnoh : c.exceptionTable.isEmpty = true := by
    obtain ⟨meth', c', hm', hc', -, -, -, -, he', -⟩ := Cond.code_spec B.2.2.2.2.2.2.1.2 (B.2.2.2.2.2.2.2.1 _ hme)
    cases X.method.symm.trans hm'
    cases X.code.symm.trans hc'
    exact he'
  have hout : ∀ x ∈ c.exceptionTable.toList, covers x (F0 m pc ls rest).pc = false := by
    intro x hx
    have h0 : c.exceptionTable.size = 0 := by simpa [Array.isEmpty] using hnoh
    have h1 : c.exceptionTable.toList = [] := List.eq_nil_of_length_eq_zero (by simpa using h0)
    rw [h1] at hx
    cases hx
  obtain ⟨hwalk, hrun, hended, hW, hsame⟩ := X'.leaveThrown (cp_b G + i) (g := F0 m pc ls rest) rfl rfl rfl hout (hlocks := B.2.2.2.2.1)
  refine ⟨_, st _ hwalk, .threw (cp_b G + i), hrun, hended, rfl, hP1, hT1, ⟨hS1.1, hS1.2.1⟩, hE1, L, ⟨⟨_, rfl⟩, hW, ?_⟩, hL⟩
  rw [show n1 - n0 = n - n0 + (n1 - n) by omega, show z1 - z0 = z - z0 + (z1 - z) by omega]
  exact hsame
end CPTV
