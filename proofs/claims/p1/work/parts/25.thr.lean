/-! ===== throwing ===== -/
theorem cp_lsH {C f dd : String} {u U : State} {A A' : Array Value} (hv : U.vm = u.vm) (hh : ∀ (a : Nat) (cell : Cell), u.heap[a]? = some cell → U.heap[a]? = some cell) (h : (Cond.laysStatic C f dd).before A u = true) : (Cond.laysStatic C f dd).before A' U = true := by
  obtain ⟨c, k, i, fd, a, cell, h1, h2, h3, h4, h5, h6, h7, h8, h9⟩ := Cond.laysStatic_spec h
  have hff : U.fieldFound? C f dd = u.fieldFound? C f dd := by simp only [State.fieldFound?, hv]
  have h5' := hh a cell h5
  simp [Cond.before, Cond.holds, Cond.value, hv, h1, hff, h2, h3, h4, h5', h6, h7, h8, h9]
theorem cp_irH {C f dd : String} {u U : State} {A A' : Array Value} (hv : U.vm = u.vm) (hh : ∀ (a : Nat) (cell : Cell), u.heap[a]? = some cell → U.heap[a]? = some cell) (h : (Cond.isRef (.static C f dd)).before A u = true) : (Cond.isRef (.static C f dd)).before A' U = true := by
  have hff : U.fieldNamed? C f dd true = u.fieldNamed? C f dd true := by simp only [State.fieldNamed?, State.fieldFound?, hv]
  have key : ∀ v, (Term.static C f dd).eval A u none [] u = some v → (Term.static C f dd).eval A' U none [] U = some v := by
    intro v hv2
    simp only [Term.eval] at hv2 ⊢
    rw [hff]
    cases hf : u.fieldNamed? C f dd true with
    | none => rw [hf] at hv2; simp at hv2
    | some x =>
      obtain ⟨c, k, slot⟩ := x
      rw [hf] at hv2
      simp only [Option.bind_some, bind, Option.bind] at hv2 ⊢
      cases hk : k.statics with
      | none => simp [hk] at hv2
      | some a =>
        simp only [hk] at hv2 ⊢
        cases hc : u.heap[a]? with
        | none => simp [hc] at hv2
        | some cell =>
          simp only [hc] at hv2
          simp only [hh a cell hc]
          exact hv2
  simp only [Cond.before, Cond.holds, Cond.value] at h ⊢
  cases he : (Term.static C f dd).eval A u none [] u with
  | none => simp [he] at h
  | some v =>
    rw [key v he]
    rw [he] at h
    exact h
theorem cp_thr_face : ∀ w ∈ cp_thr, w.keepsFace = true := by decide +kernel
def cp_onH (w : Cond) : Bool := w.onTables || (match w with | .laysStatic _ _ _ => true | .isRef (.static _ _ _) => true | _ => false)
theorem cp_thr_on : ∀ w ∈ cp_thr, cp_onH w = true := by decide +kernel
theorem cp_wH {w : Cond} {u U : State} {A A' : Array Value} (hw : cp_onH w = true) (hf : w.keepsFace = true) (hW : u.WarmedH U.vm) (hh : ∀ (a : Nat) (cell : Cell), u.heap[a]? = some cell → U.heap[a]? = some cell) (h : w.before A u = true) : w.before A' U = true := by
  have h1 : w.before A (u.setVm U.vm) = true := Cond.before_shiftedFace (State.Shifted.of_warmed hW) w hf h
  cases ho : w.onTables with
  | true =>
    have e := Cond.onTables_vm (A := A) (A' := A') (U := u) (U' := U) U.vm w ho
    rw [h1] at e
    exact e.symm
  | false =>
    unfold cp_onH at hw
    rw [ho] at hw
    cases w <;> simp at hw
    case laysStatic => exact cp_lsH (u := u.setVm U.vm) rfl hh h1
    case isRef t =>
      cases t <;> simp at hw
      exact cp_irH (u := u.setVm U.vm) rfl hh h1
theorem cp_T.heap {G : cp_G} {U : State} (h : cp_T G U) : ∀ (a : Nat) (cell : Cell), (cp_s G).heap[a]? = some cell → U.heap[a]? = some cell := fun a cell hc => by
  rw [h.2.2 a (Array.getElem?_eq_some_iff.mp hc).1]
  exact hc
theorem cp_T.thr {G : cp_G} {U : State} (h : cp_T G U) {A : Array Value} : ∀ w ∈ cp_thr, w.before A U = true := fun w hw => cp_wH (cp_thr_on w hw) (cp_thr_face w hw) h.2.1 h.heap (h.1.2.2.2.1 w hw)
/-- A THROWING CONTRACT -/
def cp_CT (G : cp_G) (d : Nat) (mt : cp_M) (av : List Value) (h : Nat → cp_E) (n z ci i : Nat) (h' : Nat → cp_E) (n' z' : Nat) : Prop :=
  n ≤ n' ∧ z ≤ z' ∧ ∀ l : Launch, cp_lf l → MetFree l mt.1 (headSpec (cp_ws mt) (cp_rm d (n' - n) (z' - z))) (cp_Pc G av h n) (fun _ _ _ _ _ => True) (cp_QT G ci i h' n' (n' - n) (z' - z))
section CPT
variable {G : cp_G} {mt mk : cp_M} {d d1 n0 z0 ci i : Nat} {h' h1 : Nat → cp_E} {n' z' n1 z1 pc : Nat} {lv : List (Nat × Value)} {rest As : List Value} {h : Nat → cp_E} {n z : Nat}
theorem cp_CT.of {av : List Value} (hy : plainName mt.1.cls = true) (hlen : (lg_sl av).length ≤ mt.2.2.1) (k : cp_V G mt d n z (.inr (ci, i)) h' n' z' 0 (lv_args 0 av) [] h n z) : cp_CT G d mt av h n z ci i h' n' z' := by
  refine ⟨k.1.1, k.1.2, fun l hlf => ?_⟩
  refine MetFree.of_bodyS (code := mt.2.1) (maxLocals := mt.2.2.1) (ret := mt.2.2.2) hy ?_ ?_
  · intro args s m hh hn
    obtain ⟨meth, c, h1, h2, h3, h4, h5, h6, -, -⟩ := Cond.code_spec hn (atoms_spec (ws := cp_ws mt) hh _ List.mem_cons_self)
    exact ⟨meth, c, h1, h2, h3, h4, h5, h6⟩
  · intro p e s m args below meth c s₁ B hml hv _
    obtain ⟨rfl, hP, hT⟩ := hv
    have hts := atoms_spec (ws := cp_ws mt) B.pre
    have hown : s.vm.findClass mt.1.cls = some m.cls := findClass_of_methodNamed B.named
    have hl := lv_entry av (n := mt.2.2.1) hlen
    have hB : cp_B G mt d n z n' z' p (headSpec (cp_ws mt) (cp_rm d (n' - n) (z' - z))).room s m av.toArray meth c :=
      ⟨B.exec, B.bytes, hml, B.returns, B.notSynchronized, hown, ⟨(name_of_methodNamed B.named B.method).1, B.named⟩, fun w hw => hts w (List.mem_cons_of_mem _ hw), hT, hP.1, Nat.le_refl _, Nat.le_refl _, Nat.le_refl _, Nat.le_refl _⟩
    have r := k.2 p l e _ s m av.toArray below meth c hB ⟨Nat.le_refl _, hlf⟩ (Nat.le_refl _) s.heap [] _ ⟨hP, va_S.rf, hl⟩
    rw [Nat.sub_self, Nat.sub_self] at r
    have hh0 : s₁.heap = s.heap := by rw [B.state]; rfl
    rw [lg_entry_eq]
    obtain ⟨t, a1, o, b1, b2, b3⟩ := r s₁ hh0 (Stand.of_body B)
    exact ⟨t, o, a1, b1, b2, b3⟩
/-- a call that throws, up to the note over the caller's frame -/
theorem cp_thrown {p : Program} {l : Launch} {e : Env} {R : Room} {s : State} {m : MethodId} {args : Array Value} {below : List Frame} {meth : Method} {c : Code} {U : State} {Ls : List Loc} {c0 s0 : Nat} {g : JFrame} {ig : Instr} {len : Nat} {mi : MethodId} {av : List Value}
    (X : Stand p l e R s m args below meth c U Ls c0 s0) (hlf : cp_lf l) (hg : g.method = m) (hsize : g.locals.size = c.maxLocals) (hdg : decode c.code g.pc = .ok (ig, len)) (hW : 2 * g.monitorRoom + (g.stack.map fun v => v.category).sum ≤ 8)
    (hn : U.methodNamed? mk.1 = some mi) (hC : cp_CT G d1 mk av h n z ci i h1 n1 z1) (hws : ∀ w ∈ cp_ws mk, w.before av.toArray U = true) (hini : (Cond.initialized mk.1.cls).before av.toArray U = true)
    (hfr : d1 + 1 ≤ R.frames) (hlo : 8 + (mk.2.2.1 + 11) + 64 * d1 ≤ R.locals) (hce : c0 + (n1 - n) ≤ R.cells) (hsl : s0 + (z1 - z) ≤ R.slots) (hPc : cp_Pc G av h n av.toArray U) :
    ∃ (U' : State) (L : List Loc), Stand p l e R s m args below meth c U' (Ls ++ L) (c0 + (n1 - n)) (s0 + (z1 - z)) ∧ (∀ q ∈ L, cp_A (cp_b G) q.base) ∧ cp_P G h1 n1 U'.heap ∧ cp_T G U' ∧ cp_ex G ci i U' ∧ (U.heap.size ≤ U'.heap.size ∧ ∀ q : Nat, q < U.heap.size → ¬ cp_A (cp_b G) q → U'.heap[q]? = U.heap[q]?) ∧
      Steps p.tables e below (doInvoke e (U.setTop g) [] mi av.toArray).1 ((U'.setTop g).pushFrame (.throwing (cp_b G + i))) := by
  have hcode := hws _ List.mem_cons_self
  obtain ⟨methY, cY, hmY, hcY, -, hlY, -, -, -, -⟩ := Cond.code_spec hn hcode
  obtain ⟨kY, hkY, -⟩ := className_of_methodNamed hn
  have hinitY : kY.init = .initialized := Cond.initialized_spec (findClass_of_methodNamed hn) hkY hini
  have hat : At U g.method c below := by rw [hg]; exact X.here
  have happ : (headSpec (cp_ws mk) (cp_rm d1 (n1 - n) (z1 - z))).appliesLoose mk.1 e.platform (U.calling g mi av.toArray) = true :=
    Spec.appliesLoose_calling (g := g) hat hdg hn hkY hinitY
      (X.room_calling (g := g) (R' := cp_rm d1 (n1 - n) (z1 - z)) hsize hmY hcY hfr (by rw [hlY]; show _ + (_ + 11) + 64 * d1 ≤ _; omega) hce hsl) (atoms_intro hws)
  obtain ⟨mid, hmid⟩ := hat.above
  have hfr2 : (U.setTop g).frames = (.java g :: mid) ++ below := by rw [State.frames_setTop' g hat.top, hmid]; rfl
  obtain ⟨o, s₂, hsteps, -, hend, hq⟩ := Steps.callFree (hC.2.2 l hlf) p X.admits X.cas X.clock (acts := []) hfr2 happ (cp_blind _ _ _ _ hPc) trivial
  have hq' : cp_QT G ci i h1 n1 (n1 - n) (z1 - z) av.toArray (U.calling g mi av.toArray) o s₂ := hq
  obtain ⟨rfl, hP1, hT1, hF1, hE1, L, ⟨-, hW₂, e2, q2, q3, q4, q5, q6⟩, hL⟩ := hq'
  have hend' : s₂.frames = .throwing (cp_b G + i) :: (U.setTop g).frames := hend
  rw [State.frames_setTop' g hat.top] at hend'
  have e3 : s₂ = ({ (U.calling g mi av.toArray).setFrames s₂.frames with heap := s₂.heap, slotsUsed := s₂.slotsUsed } : State).setVm s₂.vm := by
    have : s₂ = ({ s₂ with vm := (U.calling g mi av.toArray).vm } : State).setVm s₂.vm := rfl
    rw [e2] at this
    exact this
  have hW' : U.WarmedH s₂.vm := hW₂
  obtain ⟨g₀, hg0⟩ := Option.isSome_iff_exists.mp hat.top
  obtain ⟨r, hr⟩ := State.topJava?_eq_some.mp hg0
  have hr' : (({ U with heap := s₂.heap, slotsUsed := s₂.slotsUsed } : State).setVm s₂.vm).frames = .java g₀ :: r := hr
  have hs₂ : s₂ = ((({ U with heap := s₂.heap, slotsUsed := s₂.slotsUsed } : State).setVm s₂.vm).setTop g).pushFrame (.throwing (cp_b G + i)) := by
    refine e3.trans ?_
    rw [hend', State.calling_eq hat.top, State.setFrames_setFrames, State.pushFrame, State.frames_setTop _ hr', State.setTop_of_frames _ hr', State.setFrames_setFrames, hr]
    rfl
  have hsame : U.sameButNew ({ U with heap := s₂.heap, slotsUsed := s₂.slotsUsed } : State) L (n1 - n) (z1 - z) := by
    refine ⟨?_, q2, q3, q4, q5, q6⟩
    obtain ⟨t, ht, -⟩ := State.frames_cons hr
    show ({ U with heap := s₂.heap, slotsUsed := s₂.slotsUsed } : State) = { U.setFrames U.frames with heap := s₂.heap, slotsUsed := s₂.slotsUsed }
    rw [State.setFrames_self ht]
  refine ⟨(({ U with heap := s₂.heap, slotsUsed := s₂.slotsUsed } : State).setVm s₂.vm), L,
    ⟨X.admits, X.cas, X.clock, X.frames, X.room, X.hears, X.method, X.code, (X.here.setHeapUsed s₂.heap s₂.slotsUsed).setVm hW'.alike, X.tail, State.WarmedH.trans X.warmed hW', X.limits, X.bytes, X.same.trans (hsame.setVm s.vm)⟩,
    hL, hP1, hT1, hE1, hF1, ?_⟩
  rw [← hs₂]
  exact hsteps
end CPT
