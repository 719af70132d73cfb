/-! ===== catching: the class of a handler's entry may be resolved here for the first time ===== -/
section CPCa
variable {E : CtlPost} {e : Env} {dd : Bool} {acts : List Action} {u : State} {f : JFrame} {a : Addr}
theorem cp_goHit {Q : Handler → Pre} {x : ExceptionTableEntry} {t : List ExceptionTableEntry} {c : ClassId} {cell : Cell} {vm₁ : Vm} (hx : covers x f.pc = true) (h0 : x.catchType ≠ 0)
    (hg : (resolveClass f.method.cls x.catchType).Gives e.toSetting u.vm (.ok c) vm₁) (hsz : vm₁.classes.size ≤ u.vm.classes.size) (hcell : u.heap[a]? = some cell) (hobj : ∀ k, cell.vm ≠ .statics k)
    (hk : ∃ k, vm₁.classes[cell.cls]? = some k) (hc : ∃ k, vm₁.classes[c]? = some k) (hfit : vm₁.assignable cell.cls c = true) :
    wp (findHandler.go f a (x :: t)) Q E e dd acts u ↔ Q (.found x.handlerPc) dd acts (u.setVm vm₁) := by
  obtain ⟨ha, ht⟩ := hg.op (op := VmOp.resolveClass f.method.cls x.catchType) rfl
  simp only [covers] at hx
  simp [findHandler.go, hx, h0, ha, ht, hsz, hcell, hobj, hk, hc, hfit, VmOp.dirties, VmOp.acts]
theorem cp_goMiss {Q : Handler → Pre} {x : ExceptionTableEntry} {t : List ExceptionTableEntry} {c : ClassId} {cell : Cell} {vm₁ : Vm} (hx : covers x f.pc = true) (h0 : x.catchType ≠ 0)
    (hg : (resolveClass f.method.cls x.catchType).Gives e.toSetting u.vm (.ok c) vm₁) (hsz : vm₁.classes.size ≤ u.vm.classes.size) (hcell : u.heap[a]? = some cell) (hobj : ∀ k, cell.vm ≠ .statics k)
    (hk : ∃ k, vm₁.classes[cell.cls]? = some k) (hc : ∃ k, vm₁.classes[c]? = some k) (hfit : vm₁.assignable cell.cls c = false) :
    wp (findHandler.go f a (x :: t)) Q E e dd acts u ↔ wp (findHandler.go f a t) Q E e dd acts (u.setVm vm₁) := by
  obtain ⟨ha, ht⟩ := hg.op (op := VmOp.resolveClass f.method.cls x.catchType) rfl
  simp only [covers] at hx
  simp [findHandler.go, hx, h0, ha, ht, hsz, hcell, hobj, hk, hc, hfit, VmOp.dirties, VmOp.acts]
/-- the search ends at a handler, the tables being warmer -/
def cp_Finds (e : Env) (u : State) (f : JFrame) (a : Addr) (pc : Nat) (vm' : Vm) : Prop :=
  ∀ (Q : Handler → Pre) (E : CtlPost) (dd : Bool) (acts : List Action), wp (findHandler f a) Q E e dd acts u ↔ Q (.found pc) dd acts (u.setVm vm')
theorem cp_stepCatch {r : List Frame} {pc : Nat} {vm' : Vm} (hfind : cp_Finds e u f a pc vm') :
    (stepThrowing e u a (.java f :: r)).Is ((u.setVm vm').setFrames (.java { f with pc := pc, stack := [.ref a] } :: r)) [] := by
  simp only [stepThrowing, searchFrame, vmDo]
  generalize hr : Sem.go _ e false [] u = res
  obtain ⟨as, rfl, ha⟩ := Sem.eq_ok_of hr (a := Handler.found pc) (s' := u.setVm vm') (acts' := []) (by simp [hfind _ _ _ _])
  exact ⟨rfl, ha⟩
theorem cp_caught {tb : Tables} {s target : State} {g : JFrame} {c : Code} {below : List Frame} {vm' : Vm} (h : At s g.method c below) {pc : Nat} (hfind : cp_Finds e ((s.setTop g).pushFrame (.throwing a)) g a pc vm')
    (hrest : Steps tb e below ((s.setVm vm').setTop { g with pc := pc, stack := [.ref a] }) target) :
    Steps tb e below ((s.setTop g).pushFrame (.throwing a)) target := by
  obtain ⟨hgo, hw⟩ := h.throwing a
  refine Steps.head hgo hw ?_
  rw [stepThread_throwing (frames_entered h.top _), (cp_stepCatch (u := (s.setTop g).pushFrame (.throwing a)) hfind).1]
  obtain ⟨g₀, hg⟩ := Option.isSome_iff_exists.mp h.top
  obtain ⟨r, hr⟩ := State.topJava?_eq_some.mp hg
  have hr' : (s.setVm vm').frames = .java g₀ :: r := hr
  rw [State.setTop_of_frames _ hr'] at hrest
  have e1 : (((s.setTop g).pushFrame (.throwing a)).setVm vm').setFrames (.java { g with pc := pc, stack := [.ref a] } :: s.frames.tail) = (s.setVm vm').setFrames (.java { g with pc := pc, stack := [.ref a] } :: r) := by
    rw [State.pushFrame, State.setTop_of_frames _ hr, State.setFrames_setFrames, hr]
    show ((s.setFrames _).setVm vm').setFrames _ = _
    rw [show (s.setFrames (.throwing a :: (s.setFrames (.java g :: r)).frames)).setVm vm' = (s.setVm vm').setFrames (.throwing a :: (s.setFrames (.java g :: r)).frames) from rfl, State.setFrames_setFrames]
    rfl
  rw [e1]
  exact hrest
end CPCa
