/-! ===== catching: the class of a handler's entry may be resolved here for the first time ===== -/
section CPCa
variable {E : CtlPost} {e : Env} {dd : Bool} {acts : List Action} {u : State} {f : JFrame} {a : Addr}
theorem cp_goHit {Q : Handler → Pre} {x : ExceptionTableEntry} {t : List ExceptionTableEntry} {c : ClassId} {cell : Cell} {vm₁ : Vm} (hx : covers x f.pc = true) (h0 : x.catchType ≠ 0)
    (hg : (resolveClass f.method.cls x.catchType).Gives e.toSetting u.vm (.ok c) vm₁) (hsz : vm₁.classes.size ≤ u.vm.classes.size) (hcell : u.heap[a]? = some cell) (hobj : ∀ k, cell.vm ≠ .statics k)
    (hk : ∃ k, vm₁.classes[cell.cls]? = some k) (hc : ∃ k, vm₁.classes[c]? = some k) (hfit : vm₁.assignable cell.cls c = true) :
    wp (findHandler.go f a (x :: t)) Q E e dd acts u ↔ Q (.found x.handlerPc) dd acts (u.setVm vm₁) := by
  obtain ⟨ha, ht⟩ := hg.op (op := VmOp.resolveClass f.method.cls x.catchType) rfl
  simp only [covers] at hx
  simp [findHandler.go, hx, h0, ha, ht, hsz, hcell, hobj, hk, hc, hfit, VmOp.dirties, VmOp.acts]
theorem cp_goMiss {Q : Handler → Pre} {x : ExceptionTableEntry} {t : List ExceptionTableEntry} {c : ClassId} {cell : Cell} {vm₁ : Vm} (hx : covers x f.pc = true) (h0 : x.catchType ≠ 0)
    (hg : (resolveClass f.method.cls x.catchType).Gives e.toSetting u.vm (.ok c) vm₁) (hsz : vm₁.classes.size ≤ u.vm.classes.size) (hcell : u.heap[a]? = some cell) (hobj : ∀ k, cell.vm ≠ .statics k)
    (hk : ∃ k, vm₁.classes[cell.cls]? = some k) (hc : ∃ k, vm₁.classes[c]? = some k) (hfit : vm₁.assignable cell.cls c = false) :
    wp (findHandler.go f a (x :: t)) Q E e dd acts u ↔ wp (findHandler.go f a t) Q E e dd acts (u.setVm vm₁) := by
  obtain ⟨ha, ht⟩ := hg.op (op := VmOp.resolveClass f.method.cls x.catchType) rfl
  simp only [covers] at hx
  simp [findHandler.go, hx, h0, ha, ht, hsz, hcell, hobj, hk, hc, hfit, VmOp.dirties, VmOp.acts]
/-- the search ends at a handler, the tables being warmer -/
def cp_Finds (e : Env) (u : State) (f : JFrame) (a : Addr) (pc : Nat) (vm' : Vm) : Prop :=
  ∀ (Q : Handler → Pre) (E : CtlPost) (dd : Bool) (acts : List Action), wp (findHandler f a) Q E e dd acts u ↔ Q (.found pc) dd acts (u.setVm vm')
theorem cp_stepCatch {r : List Frame} {pc : Nat} {vm' : Vm} (hfind : cp_Finds e u f a pc vm') :
    (stepThrowing e u a (.java f :: r)).Is ((u.setVm vm').setFrames (.java { f with pc := pc, stack := [.ref a] } :: r)) [] := by
  simp only [stepThrowing, searchFrame, vmDo]
  generalize hr : Sem.go _ e false [] u = res
  obtain ⟨as, rfl, ha⟩ := Sem.eq_ok_of hr (a := Handler.found pc) (s' := u.setVm vm') (acts' := []) (by simp [hfind _ _ _ _])
  exact ⟨rfl, ha⟩
theorem cp_caught {tb : Tables} {s target : State} {g : JFrame} {c : Code} {below : List Frame} {vm' : Vm} (h : At s g.method c below) {pc : Nat} (hfind : cp_Finds e ((s.setTop g).pushFrame (.throwing a)) g a pc vm')
    (hrest : Steps tb e below ((s.setVm vm').setTop { g with pc := pc, stack := [.ref a] }) target) :
    Steps tb e below ((s.setTop g).pushFrame (.throwing a)) target := by
  obtain ⟨hgo, hw⟩ := h.throwing a
  refine Steps.head hgo hw ?_
  rw [stepThread_throwing (frames_entered h.top _), (cp_stepCatch (u := (s.setTop g).pushFrame (.throwing a)) hfind).1]
  obtain ⟨g₀, hg⟩ := Option.isSome_iff_exists.mp h.top
  obtain ⟨r, hr⟩ := State.topJava?_eq_some.mp hg
  have hr' : (s.setVm vm').frames = .java g₀ :: r := hr
  rw [State.setTop_of_frames _ hr'] at hrest
  have e1 : (((s.setTop g).pushFrame (.throwing a)).setVm vm').setFrames (.java { g with pc := pc, stack := [.ref a] } :: s.frames.tail) = (s.setVm vm').setFrames (.java { g with pc := pc, stack := [.ref a] } :: r) := by
    rw [State.pushFrame, State.setTop_of_frames _ hr, State.setFrames_setFrames, hr]
    show ((s.setFrames _).setVm vm').setFrames _ = _
    rw [show (s.setFrames (.throwing a :: (s.setFrames (.java g :: r)).frames)).setVm vm' = (s.setVm vm').setFrames (.throwing a :: (s.setFrames (.java g :: r)).frames) from rfl, State.setFrames_setFrames]
    rfl
  rw [e1]
  exact hrest
end CPCa
section CPCb
variable {G : cp_G} {mt mk : cp_M} {d d1 n0 z0 ci i : Nat} {o : cp_O} {h' h1 : Nat → cp_E} {n' z' n1 z1 pc : Nat} {lv : List (Nat × Value)} {rest As : List Value} {h : Nat → cp_E} {n z : Nat}
/-- which handler of the law's own takes it: entry 13 of its pool is IllegalArgumentException (class 12), entry 15 IllegalStateException (class 13) -/
def cp_pick : List (Nat × Nat × Nat × Nat) → Nat → Nat → Option Nat
  | [], _, _ => none
  | x :: r, pc, ci => if x.1 ≤ pc ∧ pc < x.2.1 then (if x.2.2.2 = 13 then (if ci = 12 then some x.2.2.1 else if ci = 13 then cp_pick r pc ci else none) else if x.2.2.2 = 15 then (if ci = 13 then some x.2.2.1 else none) else none) else cp_pick r pc ci
abbrev cp_xt (x : ExceptionTableEntry) : Nat × Nat × Nat × Nat := (x.startPc, x.endPc, x.handlerPc, x.catchType)
theorem cp_search {e : Env} {s : State} {f : JFrame} {a : Addr} {args : Array Value} {hpc : Nat} (hpl : e.platform.magicAccessors = ({} : Platform).magicAccessors) (hT : cp_T G s) (hown : s.vm.findClass "ConditionedProofsLaw" = some f.method.cls)
    (hl1 : (Cond.classLink "ConditionedProofsLaw" 13 (cp_R 12)).before args s = true) (hl2 : (Cond.classLink "ConditionedProofsLaw" 15 (cp_R 13)).before args s = true) :
    ∀ (tb : List ExceptionTableEntry) (u : State), cp_pick (tb.map cp_xt) f.pc ci = some hpc → s.WarmedH u.vm → (∃ cell : Cell, u.heap[a]? = some cell ∧ cell.vm = .none ∧ s.vm.findClass (cp_R ci) = some cell.cls) →
      ∃ vm', s.WarmedH vm' ∧ ∀ (Q : Handler → Pre) (E : CtlPost) (dd : Bool) (acts : List Action), wp (findHandler.go f a tb) Q E e dd acts u ↔ Q (.found hpc) dd acts (u.setVm vm') := by
  intro tb
  have hc12 := (hT.K.1 12 _ (cp_cl_at (by decide))).2
  have hc13 := (hT.K.1 13 _ (cp_cl_at (by decide))).2
  obtain ⟨c1, hf1, hL1⟩ := Cond.classLink_spec hown hl1 e.platform hpl
  obtain ⟨c2, hf2, hL2⟩ := Cond.classLink_spec hown hl2 e.platform hpl
  obtain rfl : c1 = (cp_D G).1 12 := Option.some.inj (hf1.symm.trans hc12.1)
  obtain rfl : c2 = (cp_D G).1 13 := Option.some.inj (hf2.symm.trans hc13.1)
  have hno : s.vm.assignable ((cp_D G).1 13) ((cp_D G).1 12) = false := by
    have h9 := hT.1.2.2.2.2.2.1
    have e12 : (cp_s G).vm.findClass "java/lang/IllegalArgumentException" = some ((cp_D G).1 12) := by rw [← hT.2.1.alike.findClass]; exact hc12.1
    have e13 : (cp_s G).vm.findClass "java/lang/IllegalStateException" = some ((cp_D G).1 13) := by rw [← hT.2.1.alike.findClass]; exact hc13.1
    rw [hT.2.1.alike.assignable]
    simpa [Cond.before, Cond.holds, Cond.value, e12, e13] using h9
  induction tb with
  | nil => intro u hp; simp [cp_pick] at hp
  | cons x t ih =>
    intro u hp hW hx
    obtain ⟨cell, k1, k2, k3⟩ := hx
    simp only [List.map_cons, cp_pick] at hp
    split at hp
    next hcov =>
      have hcv : covers x f.pc = true := by simp only [covers, Bool.and_eq_true, decide_eq_true_eq]; exact hcov
      split at hp
      next h13 =>
        have h13' : x.catchType = 13 := h13
        obtain ⟨hg₁, hw₁, -⟩ := State.classEntry (e := e) hW hL1
        rw [← h13'] at hg₁ hw₁
        have hsz : (u.vm.noted f.method.cls x.catchType (.cls ((cp_D G).1 12))).classes.size ≤ u.vm.classes.size := by rw [Vm.size_noted]; exact Nat.le_refl _
        split at hp
        next h12 =>
          cases hp
          subst h12
          have hcc : cell.cls = (cp_D G).1 12 := Option.some.inj (k3.symm.trans hc12.1)
          obtain ⟨-, kk, hkk, -⟩ := hc12
          obtain ⟨kk2, hkk2, -⟩ := hw₁.alike.2.2 _ _ hkk
          refine ⟨_, hw₁, fun Q E dd acts => cp_goHit hcv (by rw [h13']; decide) hg₁ hsz k1 (fun k hk => by rw [k2] at hk; cases hk) ⟨kk2, by rw [hcc]; exact hkk2⟩ ⟨kk2, hkk2⟩ ?_⟩
          rw [hw₁.alike.assignable, hcc]
          exact va_assign (hT.K.1 12 _ (cp_cl_at (by decide))).2
        next =>
          split at hp
          next h13c =>
            subst h13c
            have hcc : cell.cls = (cp_D G).1 13 := Option.some.inj (k3.symm.trans hc13.1)
            obtain ⟨-, kk, hkk, -⟩ := hc12
            obtain ⟨-, kq, hkq, -⟩ := hc13
            obtain ⟨kk2, hkk2, -⟩ := hw₁.alike.2.2 _ _ hkk
            obtain ⟨kq2, hkq2, -⟩ := hw₁.alike.2.2 _ _ hkq
            obtain ⟨vm', hw', hgo⟩ := ih (u.setVm (u.vm.noted f.method.cls x.catchType (.cls ((cp_D G).1 12)))) hp hw₁ ⟨cell, k1, k2, k3⟩
            refine ⟨vm', hw', fun Q E dd acts => (cp_goMiss hcv (by rw [h13']; decide) hg₁ hsz k1 (fun k hk => by rw [k2] at hk; cases hk) ⟨kq2, by rw [hcc]; exact hkq2⟩ ⟨kk2, hkk2⟩ ?_).trans (hgo Q E dd acts)⟩
            rw [hw₁.alike.assignable, hcc]
            exact hno
          next => cases hp
      next =>
        split at hp
        next h15 =>
          have h15' : x.catchType = 15 := h15
          obtain ⟨hg₁, hw₁, -⟩ := State.classEntry (e := e) hW hL2
          rw [← h15'] at hg₁ hw₁
          have hsz : (u.vm.noted f.method.cls x.catchType (.cls ((cp_D G).1 13))).classes.size ≤ u.vm.classes.size := by rw [Vm.size_noted]; exact Nat.le_refl _
          split at hp
          next h12 =>
            cases hp
            subst h12
            have hcc : cell.cls = (cp_D G).1 13 := Option.some.inj (k3.symm.trans hc13.1)
            obtain ⟨-, kk, hkk, -⟩ := hc13
            obtain ⟨kk2, hkk2, -⟩ := hw₁.alike.2.2 _ _ hkk
            refine ⟨_, hw₁, fun Q E dd acts => cp_goHit hcv (by rw [h15']; decide) hg₁ hsz k1 (fun k hk => by rw [k2] at hk; cases hk) ⟨kk2, by rw [hcc]; exact hkk2⟩ ⟨kk2, hkk2⟩ ?_⟩
            rw [hw₁.alike.assignable, hcc]
            exact va_assign (hT.K.1 13 _ (cp_cl_at (by decide))).2
          next => cases hp
        next => cases hp
    next hcov =>
      have hcv : covers x f.pc = false := by
        simp only [covers, Bool.and_eq_false_iff, decide_eq_false_iff_not]
        by_cases hc : x.startPc ≤ f.pc
        · exact Or.inr (fun hlt => hcov ⟨hc, hlt⟩)
        · exact Or.inl hc
      obtain ⟨vm', hw', hgo⟩ := ih u hp hW ⟨cell, k1, k2, k3⟩
      exact ⟨vm', hw', fun Q E dd acts => (W.findHandler_go_skip hcv).trans (hgo Q E dd acts)⟩
theorem cp_hnd_on : ∀ w ∈ cp_hnd, cp_onH w = true := by decide +kernel
theorem cp_hnd_face : ∀ w ∈ cp_hnd, w.keepsFace = true := by decide +kernel
/-- the law's method catches what its callee throws -/
theorem vv_catch {i0 cr idx hpc : Nat} {gf : Nat → Value} {hh : List (Nat × Nat × Nat × Nat)} (hd : decode mt.2.1 pc = .ok (.invokevirtual idx, 3)) (hC : cp_CT G d1 mk (.ref (cp_b G + i0) :: As) h n z ci i h1 n1 z1) (hc : cp_cd mk As.length) (hcr : cr < 14) (hcl : mk.1.cls = cp_R cr) (hl : Cond.methodLink mt.1.cls idx mk.1 ∈ cp_WS) (hin : Cond.instanceMethod mk.1 ∈ cp_WS) (hse : Cond.selects mk.1.cls mk.1 mk.1 ∈ cp_WS)
    (hi : i0 < n) (hho : h i0 = .inr (cr, gf)) (hdd : d1 + 1 ≤ d) (hrs : (rest.map fun v => v.category).sum ≤ 8) (hme : Cond.codeWith mt.1 mt.2.1 mt.2.2.1 mt.2.2.2 hh ∈ cp_hnd) (hcls : mt.1.cls = "ConditionedProofsLaw") (hl1 : Cond.classLink "ConditionedProofsLaw" 13 (cp_R 12) ∈ cp_WS) (hl2 : Cond.classLink "ConditionedProofsLaw" 15 (cp_R 13) ∈ cp_WS) (hpick : cp_pick hh pc ci = some hpc)
    (kk : cp_V G mt d n0 z0 o h' n' z' hpc lv [.ref (cp_b G + i)] h1 n1 z1) :
    cp_V G mt d n0 z0 o h' n' z' pc lv (As.reverse ++ .ref (cp_b G + i0) :: rest) h n z := by
  have m1 := hC.1
  have m2 := hC.2.1
  have m3 := kk.1.1
  have m4 := kk.1.2
  refine ⟨⟨by omega, by omega⟩, fun p l e R s m args below meth c B h0 hz0 H locs ls Y => ?_⟩
  intro T hT X
  subst hT
  have b1 := B.2.2.2.2.2.2.2.2.2.2.2.2.1
  have b2 := B.2.2.2.2.2.2.2.2.2.2.2.2.2
  obtain ⟨U', L, X', hL, hP1, hT1, ⟨cell, k1, k2, k3⟩, hS1, st⟩ := cp_thrV X h0.2 B Y hd hC hc hcr hcl hl hin hse hi hho hdd hrs ⟨by omega, by omega⟩
  have hTs := B.2.2.2.2.2.2.2.2.1
  have hcw : (Cond.codeWith mt.1 mt.2.1 mt.2.2.1 mt.2.2.2 hh).before args s = true := cp_wH (cp_hnd_on _ hme) (cp_hnd_face _ hme) hTs.2.1 hTs.heap (hTs.1.2.2.2.2.2.2 _ hme)
  obtain ⟨m9, meth9, c9, hn9, hm9, hc9, -, -, hx9, -⟩ := Cond.codeWith_spec hcw
  cases B.2.2.2.2.2.2.1.2.symm.trans hn9
  cases X.method.symm.trans hm9
  cases X.code.symm.trans hc9
  have hpl : e.platform.magicAccessors = ({} : Platform).magicAccessors := by rw [X.admits.platform]
  have hown := B.2.2.2.2.2.1
  rw [hcls] at hown
  have hts := B.2.2.2.2.2.2.2.1
  obtain ⟨vm', hw', hgo⟩ := cp_search (G := G) (e := e) (s := s) (f := F0 m pc ls rest) (a := cp_b G + i) (args := args) (hpc := hpc) (ci := ci) hpl hTs hown (hts _ hl1) (hts _ hl2) c.exceptionTable.toList ((U'.setTop (F0 m pc ls rest)).pushFrame (.throwing (cp_b G + i))) (by rw [show c.exceptionTable.toList.map cp_xt = hh from hx9]; exact hpick) (by rw [Stand.throwing_vm]; exact X'.warmed)
    ⟨cell, by rw [Stand.throwing_heap]; exact k1, k2, by rw [hTs.2.1.alike.findClass]; exact k3⟩
  have hfind : cp_Finds e ((U'.setTop (F0 m pc ls rest)).pushFrame (.throwing (cp_b G + i))) (F0 m pc ls rest) (cp_b G + i) hpc vm' := by
    intro Q E dd acts
    rw [W.findHandler_eq (meth := meth) (code := c) (by rw [Stand.throwing_vm]; exact X'.method') X'.code]
    exact hgo Q E dd acts
  have X2 := X'.noted hw'
  have w := kk.2 p l e R s m args below meth c B ⟨by omega, h0.2⟩ (by omega) U'.heap L ls ⟨hP1, hS1, Y.2.2⟩
  rw [show n1 - n0 = n - n0 + (n1 - n) by omega, show z1 - z0 = z - z0 + (z1 - z) by omega] at w
  obtain ⟨t, a1, a2⟩ := w (U'.setVm vm') rfl X2
  exact ⟨t, st _ (cp_caught X'.here hfind a1), a2⟩
end CPCb
