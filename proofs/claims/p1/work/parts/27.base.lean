/-! ===== a walk begun anew in the middle: what stands now counts as what stood at the start ===== -/
section CPRb
variable {p : Program} {l : Launch} {e : Env} {R : Room} {s : State} {m : MethodId} {args : Array Value} {below : List Frame} {meth : Method} {c : Code} {T : State} {locs : List Loc} {cells slots : Nat}
def cp_re (T : State) (m : MethodId) (args : Array Value) (below : List Frame) : State := T.setFrames (.invoking m args :: below)
theorem cp_re_cur (X : Stand p l e R s m args below meth c T locs cells slots) : T.cur < T.threads.size := by
  obtain ⟨g₀, hg⟩ := X.frames_eq
  exact State.cur_lt_of_frames hg
theorem cp_rebase (X : Stand p l e R s m args below meth c T locs cells slots) (hc : cells ≤ R.cells) (hs : slots ≤ R.slots) :
    Stand p l e { R with cells := R.cells - cells, slots := R.slots - slots } (cp_re T m args below) m args below meth c T [] 0 0 := by
  have hcur := cp_re_cur X
  have hfr : (cp_re T m args below).frames = .invoking m args :: below := State.frames_setFrames _ hcur
  have hroom := X.room
  simp only [State.hasRoom, Bool.and_eq_true, decide_eq_true_eq] at hroom
  obtain ⟨⟨⟨⟨r1, r2, r3, r4, r5, r6⟩, r7⟩, r8⟩, r9⟩ := hroom
  have hloc : (cp_re T m args below).localsInUse = s.localsInUse := by
    rw [State.localsInUse_invoking hfr X.method' X.code, State.localsInUse_invoking X.frames X.method X.code]
  have hlim : e.platform.stackLimits (cp_re T m args below).me = e.platform.stackLimits s.me := by
    rw [← X.limits]; exact State.stackLimits_setFrames _ _ _
  have hby : (cp_re T m args below).me.stackBytes = s.me.stackBytes := by
    rw [← X.bytes]; exact State.stackBytes_setFrames _ _
  have hh := X.heapSize
  have hu := X.used
  obtain ⟨t, ht⟩ : ∃ t, T.threads[T.cur]? = some t := ⟨_, Array.getElem?_eq_getElem hcur⟩
  refine ⟨X.admits, X.cas, X.clock, hfr, ?_, ?_, X.method', X.code, X.here, X.tail, State.WarmedH.refl _, hlim.symm ▸ X.limits, hby.symm ▸ X.bytes, ?_⟩
  · simp only [State.hasRoom, Bool.and_eq_true, decide_eq_true_eq]
    have hl : (cp_re T m args below).frames.length = s.frames.length := by rw [hfr, X.frames]
    rw [hloc, hl, hlim, hby]
    refine ⟨⟨⟨⟨r1, r2, r3, r4, r5, r6⟩, ?_⟩, ?_⟩, X.book⟩
    · show T.heap.size + (R.cells - cells) ≤ _
      omega
    · show T.slotsUsed + (R.slots - slots) ≤ _
      omega
  · have hh := X.hears
    cases below with
    | nil =>
      simp only [State.hears] at hh ⊢
      have : (cp_re T m args []).vm.method? m = some meth := X.method'
      rw [this]
      rw [X.method] at hh
      exact hh
    | cons f r =>
      cases f with
      | java g =>
        simp only [State.hears] at hh ⊢
        have e1 : (cp_re T m args (.java g :: r)).code? g.method = s.code? g.method := by
          rw [State.code?_eq, State.code?_eq]
          show (T.vm.method? g.method).bind _ = _
          rw [X.warmed.alike.method?]
        rw [e1]
        exact hh
      | native g => rfl
      | proc g => rfl
      | _ =>
        simp only [State.hears] at hh ⊢
        rw [show (cp_re T m args _).vm.method? m = some meth from X.method']
        rw [X.method] at hh
        exact hh
  · refine ⟨?_, Nat.le_refl _, Nat.le_refl _, ?_, ?_, fun a c0 h0 => ⟨c0, h0, rfl, rfl, fun _ _ => rfl⟩⟩
    · show T = _
      obtain ⟨g₀, hg⟩ := X.frames_eq
      have h1 : (cp_re T m args below).setFrames T.frames = T := by
        unfold cp_re
        rw [State.setFrames_setFrames]
        obtain ⟨t, ht, -⟩ := State.frames_cons hg
        exact State.setFrames_self ht
      show T = { (cp_re T m args below).setFrames T.frames with heap := T.heap, slotsUsed := T.slotsUsed }
      rw [h1]
    · show T.slotsUsed = T.slotsUsed + ((T.heap.toList.drop T.heap.size).map (·.slots.size)).sum
      rw [List.drop_eq_nil_of_le (by simp)]
      rfl
    · show ((T.heap.toList.drop T.heap.size).map (·.slots.size)).sum ≤ 0
      rw [List.drop_eq_nil_of_le (by simp)]
      exact Nat.le_refl _
/-- a cell that keeps all but its slots, and these -/
theorem cp_cellEq {c0 c1 : Cell} (h : c1 = { c0 with slots := c1.slots }) (hz : c1.slots.size = c0.slots.size) (hs : ∀ i : Nat, c1.slots[i]? = c0.slots[i]?) : c1 = c0 := by
  have e1 : c1.slots = c0.slots := Array.ext_getElem? hs
  rw [h, e1]
end CPRb
section CPTn
variable {G : cp_G} {mt : cp_M} {d n0 z0 ci : Nat} {pc : Nat} {lv : List (Nat × Value)} {rest : List Value} {h : Nat → cp_E} {n z : Nat}
/-- a cell of which nothing is known -/
abbrev cp_junk : cp_E := .inr (99, fun _ => .null)
theorem cp_at_junk {q : Nat} {H : Heap} : cp_at G q cp_junk H := fun r hr => by simp [cp_cl] at hr
/-- throw new X("text") -/
theorem vv_throw {idx sidx ic : Nat} {tx : String} (hd0 : decode mt.2.1 pc = .ok (.new idx, 3)) (hd3 : decode mt.2.1 (pc + 3) = .ok (.dup, 1)) (hd4 : decode mt.2.1 (pc + 4) = .ok (.ldc sidx, 2)) (hd6 : decode mt.2.1 (pc + 6) = .ok (.invokespecial ic, 3)) (hd9 : decode mt.2.1 (pc + 9) = .ok (.athrow, 1))
    (hC : cp_ok ci) (hl : Cond.classLink mt.1.cls idx (cp_R ci) ∈ cp_WS) (hcls : mt.1.cls = "ConditionedProofs") (hthr : ∀ w ∈ Bundle.ownAtoms "ConditionedProofs" ic (cp_R ci) cp_up, w ∈ cp_thr) (hs : (sidx, tx) ∈ cp_strs) (hfit : Bundle.fit (cp_R ci) = true) (hd5 : 6 ≤ d) (hrs : (rest.map fun v => v.category).sum ≤ 8)
    (hme : Cond.code mt.1 mt.2.1 mt.2.2.1 mt.2.2.2 ∈ cp_WS) : cp_V G mt d n0 z0 (.inr (ci, n)) (va_up h n cp_junk) (n + 1) (z + cp_N ci) pc lv rest h n z := by
  refine ⟨⟨by omega, by omega⟩, fun p l e R s m args below meth c B h0 hz0 H locs ls Y => ?_⟩
  obtain ⟨hx, hb, hml, -, hlk, hown, ⟨-, hnam⟩, hts, hT, hz, hf, hlo, b1, b2⟩ := B
  obtain ⟨hci, hu, hty, hnm, hins, hini⟩ := hC
  intro T hT0 X
  subst hT0
  have h01 := h0.1
  -- the walk begun anew before the making
  have X0 := cp_rebase X (by omega) (by omega)
  have hT2 : cp_T G (cp_re T m args below) := ⟨hT.1, State.WarmedH.trans hT.2.1 X.warmed, fun q hq => by
    show T.heap[q]? = _
    rw [Y.2.1.2.1 q (by omega) (by show ¬ cp_b G ≤ q; omega)]
    exact hT.2.2 q hq⟩
  have hal := X.warmed.alike
  have hts2 : ∀ w ∈ cp_WS, w.before args (cp_re T m args below) = true := fun w hw => word_at (s := s) (U := cp_re T m args below) X.warmed (good_of_word (List.mem_filter.mp hw).2) (hts w hw)
  have hown2 : (cp_re T m args below).vm.findClass mt.1.cls = some m.cls := by
    show T.vm.findClass _ = _
    rw [hal.findClass]; exact hown
  have hKn := hT2.K.1 ci _ (cp_cl_at hci)
  have key : W p l e { R with cells := R.cells - (n - n0), slots := R.slots - (z - z0) } (cp_re T m args below) m args below meth c T.heap [] 0 0 (fun t => t.status = .running ∧ Ended t below (.threw (cp_b G + n)) ∧ (cp_re T m args below).WarmedH t.vm ∧ (cp_re T m args below).sameButNew ({ t with vm := (cp_re T m args below).vm } : State) [] 1 (cp_N ci) ∧ ∃ ce, t.heap[cp_b G + n]? = some ce ∧ Bundle.OwnCell args (cp_re T m args below) (cp_R ci) (cp_b G + n) (.ref (Classical.choose (hT2.1.2.2.2.2.1 _ hs))) ce) (F0 m pc ls rest) := by
    refine W.newcK (own := mt.1.cls) hx hb hown2 (hts2 _ hl) (hts2 _ hins) (hts2 _ hini) rfl hd0 (by show 0 + 1 ≤ R.cells - (n - n0); omega) (by show 0 + cp_N ci ≤ R.slots - (z - z0); omega) hKn.2.1 Y.1.1 fun H1 kC hkC e1 z1 o1 => ?_
    refine lv_dup hx hb hd3 rfl ?_
    refine va_ldcS (own := "ConditionedProofs") (tx := tx) hx hb (by rw [← hcls]; exact hown2) (vk_R.warm hT2.2.1 (Classical.choose_spec (hT2.1.2.2.2.2.1 _ hs))) hd4 ?_
    intro T1 hT1 X1
    have hce : c.exceptionTable.isEmpty = true := by
      obtain ⟨meth', c', hm', hc', -, -, -, -, he', -⟩ := Cond.code_spec hnam (hts _ hme)
      cases X.method.symm.trans hm'
      cases X.code.symm.trans hc'
      exact he'
    have hout : ∀ x ∈ c.exceptionTable.toList, covers x (pc + 6 + 3) = false := by
      intro x hx
      have h0 : c.exceptionTable.size = 0 := by simpa [Array.isEmpty] using hce
      have h1 : c.exceptionTable.toList = [] := List.eq_nil_of_length_eq_zero (by simpa using h0)
      rw [h1] at hx
      cases hx
    have hro := lv_room (m := m) (pc := pc) (ls := ls) (rest := rest) hrs
    obtain ⟨U, st, hrun, hend, hW, hsame, ce, hce1, hce2⟩ := X1.ctorThrowS hx (Launch.traces_off h0.2 X.admits) (own := "ConditionedProofs") (cls := cp_R ci) (names := cp_up) (ic := ic) (by rw [← hcls]; exact hown2) hfit (by decide)
      (fun w hw => hT2.thr w (hthr w hw)) (fun x hx => by cases hx) (a := cp_b G + n) hKn.2.1 hkC (by rw [hT1]; exact e1) (by show T.heap.size ≤ _; rw [Y.1.1]; exact Nat.le_refl _) (msg := .ref (Classical.choose (hT2.1.2.2.2.2.1 _ hs))) rfl
      (g := F0 m (pc + 3 + 1 + 2) ls (.ref (Classical.choose (hT2.1.2.2.2.2.1 _ hs)) :: .ref (cp_b G + n) :: .ref (cp_b G + n) :: rest)) rfl (by rw [hml]; exact Y.2.2.1) rfl rfl rfl (by rw [hb]; exact hd6) (by rw [hb]; exact hd9) hout
      (by show 2 + 3 < R.frames; omega) (by
        show _ + _ + (13 * (2 + 1) + 42) ≤ R.locals
        rw [List.map_cons, List.sum_cons, show (Value.ref (cp_b G + n)).category = 1 from rfl]
        have e9 : 2 * (F0 m pc ls rest).monitorRoom = 2 * (F0 m (pc + 3 + 1 + 2) ls (.ref (Classical.choose (hT2.1.2.2.2.2.1 _ hs)) :: .ref (cp_b G + n) :: .ref (cp_b G + n) :: rest)).monitorRoom := rfl
        omega) (hlocks := hlk)
    rw [Nat.zero_add, Nat.zero_add] at hsame
    exact ⟨U, st, hrun, hend, hW, hsame, ce, hce1, hce2⟩
  obtain ⟨U, st, hrun, hend, hW, hsame, ce, hce1, hce2⟩ := key T rfl X0
  have hsz : T.heap.size = cp_b G + n := Y.1.1
  have hUz : U.heap.size = T.heap.size + 1 := by
    have a1 : U.heap.size ≤ T.heap.size + 1 := hsame.2.2.1
    have a2 : cp_b G + n < U.heap.size := (Array.getElem?_eq_some_iff.mp hce1).1
    omega
  have hUk : ∀ q : Nat, q < T.heap.size → U.heap[q]? = T.heap[q]? := by
    intro q hq
    have hq1 : T.heap[q]? = some T.heap[q] := Array.getElem?_eq_getElem hq
    obtain ⟨c', h1, h2, h3, h4⟩ := hsame.2.2.2.2.2 q _ hq1
    have h5 : c' = T.heap[q] := cp_cellEq h2 h3 (fun i => h4 i (by intro hm; cases hm))
    rw [hq1, ← h5]
    exact h1
  have hP1 : cp_P G (va_up h n cp_junk) (n + 1) U.heap := Y.1.make cp_at_junk hUz hUk
  have hsU : s.WarmedH U.vm := State.WarmedH.trans X.warmed hW
  refine ⟨U, st, .threw (cp_b G + n), hrun, hend, rfl, hP1, ⟨hT.1, State.WarmedH.trans hT.2.1 hsU, fun q hq => ?_⟩, ⟨?_, fun q h1 h2 => ?_⟩, ⟨ce, hce1, hce2.vm, ?_⟩, locs, ⟨⟨_, rfl⟩, hsU, ?_⟩, Y.2.1.2.2⟩
  · rw [hUk q (by omega)]
    exact hT2.2.2 q hq
  · have := Y.2.1.1; omega
  · have := Y.2.1.1
    rw [hUk q (by omega)]
    exact Y.2.1.2.1 q h1 h2
  · have := hce2.cls
    rw [← hT2.2.1.alike.findClass]
    exact this
  · have hs1 : T.sameButNew ({ U with vm := T.vm } : State) [] 1 (cp_N ci) := by
      obtain ⟨q1, q2⟩ := hsame
      refine ⟨?_, q2⟩
      have : (cp_re T m args below).setFrames U.frames = T.setFrames U.frames := by unfold cp_re; rw [State.setFrames_setFrames]
      exact q1.trans (by show ({ (cp_re T m args below).setFrames U.frames with heap := U.heap, slotsUsed := U.slotsUsed } : State) = _; rw [this]; rfl)
    have h9 := X.same.trans (hs1.setVm s.vm)
    rw [List.append_nil] at h9
    rw [show n + 1 - n0 = n - n0 + 1 by omega, show z + cp_N ci - z0 = z - z0 + cp_N ci by omega]
    exact h9
end CPTn
