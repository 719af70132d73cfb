/-! ===== the law's own methods, which catch ===== -/
def cp_CW (G : cp_G) (d : Nat) (mt : cp_M) (hh : List (Nat × Nat × Nat × Nat)) (av : List Value) (h : Nat → cp_E) (n z : Nat) (o : Option Value) (h' : Nat → cp_E) (n' z' : Nat) : Prop :=
  n ≤ n' ∧ z ≤ z' ∧ ∀ l : Launch, cp_lf l → Met l mt.1 (.codeWith mt.1 mt.2.1 mt.2.2.1 mt.2.2.2 hh :: cp_WS) (cp_rm d (n' - n) (z' - z)) (cp_Pc G av h n) (cp_Qc G o h' n') (n' - n) (z' - z) (cp_A (cp_b G))
section CPL
variable {G : cp_G} {mt mk : cp_M} {d d1 n0 z0 : Nat} {o : cp_O} {r : Option Value} {h' h1 : Nat → cp_E} {n' z' n1 z1 pc : Nat} {lv : List (Nat × Value)} {rest As : List Value} {h : Nat → cp_E} {n z : Nat} {hh : List (Nat × Nat × Nat × Nat)}
theorem cp_CW.of {av : List Value} {o : Option Value} (hy : plainName mt.1.cls = true) (hlen : (lg_sl av).length ≤ mt.2.2.1) (k : cp_V G mt d n z (.inl o) h' n' z' 0 (lv_args 0 av) [] h n z) : cp_CW G d mt hh av h n z o h' n' z' := by
  refine ⟨k.1.1, k.1.2, fun l hlf => ?_⟩
  refine va_MetW (hh := hh) (cc := mt.2.1) (maxL := mt.2.2.1) (ret := mt.2.2.2) hy rfl ?_
  intro p e s m args below meth c s₁ B hml hv
  obtain ⟨rfl, hP, hT⟩ := hv
  have hts := atoms_spec (ws := .codeWith mt.1 mt.2.1 mt.2.2.1 mt.2.2.2 hh :: cp_WS) B.pre
  have hown : s.vm.findClass mt.1.cls = some m.cls := findClass_of_methodNamed B.named
  have hl := lv_entry av (n := mt.2.2.1) hlen
  rw [lg_entry_eq]
  have hB : cp_B G mt d n z n' z' p (cp_rm d (n' - n) (z' - z)) s m av.toArray meth c :=
    ⟨B.exec, B.bytes, hml, B.returns, B.notSynchronized, hown, ⟨(name_of_methodNamed B.named B.method).1, B.named⟩, fun w hw => hts w (List.mem_cons_of_mem _ hw), hT, hP.1, Nat.le_refl _, Nat.le_refl _, Nat.le_refl _, Nat.le_refl _⟩
  have r := k.2 p l e _ s m av.toArray below meth c hB ⟨Nat.le_refl _, hlf⟩ (Nat.le_refl _) s.heap [] _ ⟨hP, va_S.rf, hl⟩
  rw [Nat.sub_self, Nat.sub_self] at r
  exact r
theorem vv_callSW {idx : Nat} (hd : decode mt.2.1 pc = .ok (.invokestatic idx, 3)) (hC : cp_CW G d1 mk hh As h n z r h1 n1 z1) (hcw : Cond.codeWith mk.1 mk.2.1 mk.2.2.1 mk.2.2.2 hh ∈ cp_WS) (hini : Cond.initialized mk.1.cls ∈ cp_WS) (hml4 : mk.2.2.1 ≤ 45) (hno : mk.1.cls ≠ "java/lang/invoke/MethodHandle" ∧ mk.1.cls ≠ "java/lang/invoke/VarHandle") (hpar : (parseMethodDescriptor mk.1.desc).map (fun d => d.parameters.length) = some As.length) (hl : Cond.methodLink mt.1.cls idx mk.1 ∈ cp_WS) (hst : Cond.static mk.1 ∈ cp_WS)
    (hdd : d1 + 1 ≤ d) (hrs : (rest.map fun v => v.category).sum ≤ 8) (kk : cp_V G mt d n0 z0 o h' n' z' (pc + 3) lv (r.toList ++ rest) h1 n1 z1) :
    cp_V G mt d n0 z0 o h' n' z' pc lv (As.reverse ++ rest) h n z := by
  have m1 := hC.1
  have m2 := hC.2.1
  have m3 := kk.1.1
  have m4 := kk.1.2
  refine ⟨⟨by omega, by omega⟩, fun p l e R s m args below meth c B h0 hz0 H locs ls X => ?_⟩
  have b1 := B.2.2.2.2.2.2.2.2.2.2.2.2.1
  have b2 := B.2.2.2.2.2.2.2.2.2.2.2.2.2
  have B' := B
  obtain ⟨hx, hb, hml, -, -, hown, -, hts, hT, hz, hf, hlo, -⟩ := B'
  have hG : GoodIn cp_WS (.codeWith mk.1 mk.2.1 mk.2.2.1 mk.2.2.2 hh :: cp_WS) := by
    intro w hw
    rcases List.mem_cons.mp hw with rfl | hw
    · exact ⟨hcw, good_of_word (List.mem_filter.mp hcw).2⟩
    · exact ⟨hw, good_of_word (List.mem_filter.mp hw).2⟩
  have hK : Back l R p e below s args mk.1 3 8 (PreOf R (n1 - n) (z1 - z) (cp_Pc G As h n)) (PostOf (cp_Qc G r h1 n1) (n1 - n) (z1 - z) (cp_A (cp_b G))) :=
    va_backW (hh := hh) (bytes := mk.2.1) (maxL := mk.2.2.1) (ret := mk.2.2.2) (hC.2.2 l h0.2) cp_blind rfl rfl (by show d1 + 1 ≤ R.frames; omega) (by show 8 + (mk.2.2.1 + 11) + 64 * d1 ≤ R.locals; omega) (pay_in hts hG) List.mem_cons_self (fun a' U hW => word_at hW (good_of_word (List.mem_filter.mp hini).2) (hts _ hini))
  have hrun : va_Run p l e R s m args below meth c H locs (n - n0) (z - z0) (n1 - n) (z1 - z) (F0 m pc ls (As.reverse ++ rest)) rest (cp_Qc G r h1 n1 As.toArray) (cp_A (cp_b G)) := by
    intro T hT0 X0
    obtain ⟨mi, methM, cM, hnamed, hmethM, -, -, -, -, -, -, hsigM⟩ := Cond.codeWith_spec (hts _ hcw)
    have hstatic : methM.isStatic = true := Cond.static_spec hnamed hmethM (hts _ hst)
    obtain ⟨kP, hkP, -⟩ := className_of_methodNamed hnamed
    have hinitP : kP.init = .initialized := Cond.initialized_spec (findClass_of_methodNamed hnamed) hkP (hts _ hini)
    have hlen : As.length = methM.sig.parameters.length := by
      have h2 := hpar
      rw [hsigM] at h2
      exact (Option.some.inj h2).symm
    obtain ⟨vm₁, X₁, hstep₁⟩ := X0.invokestatic hx hown (hts _ hl) hnamed hmethM hstatic hkP hinitP hno (g := F0 m pc ls (As.reverse ++ rest)) rfl (argsL := As) (rest := rest) hlen rfl (by rw [hb]; exact hd)
    obtain ⟨v, ⟨U', l2, c2, s2⟩, X', ⟨g', mk', t, L, e1, e2, hq, q1, hL, q2, q3⟩, hsteps⟩ := hK m meth c ⟨T.setVm vm₁, locs, n - n0, z - z0⟩ (F0 m pc ls rest) (.invokestatic idx) mi As.toArray X₁ rfl (by rw [hml]; exact X.2.2.1) (by rw [hb]; exact hd) (lv_room hrs) (X₁.named hnamed) ⟨by show n - n0 + (n1 - n) ≤ R.cells; omega, by show z - z0 + (z1 - z) ≤ R.slots; omega, cp_pre hT (hT0 ▸ X.1) (hT0 ▸ X.2.1) hz rfl X₁.warmed⟩
    dsimp only [Pt.U, Pt.locs, Pt.cells, Pt.slots] at X' e1 e2 q1 q2 q3 hsteps
    subst q1; subst q2; subst q3
    exact ⟨v, (T.setVm vm₁).calling g' mk' As.toArray, t, U', L, hT0, X', hL, e1, e2, hq, fun target h => hstep₁ _ fun acts => by rw [doInvoke_state]; exact hsteps.trans h⟩
  refine cp_back hrun X.2.1 (fun H1 locs1 hP1 hS1 => ?_)
  have w := kk.2 p l e R s m args below meth c B ⟨by omega, h0.2⟩ (by omega) H1 locs1 ls ⟨hP1, hS1, X.2.2⟩
  rw [show n1 - n0 = n - n0 + (n1 - n) by omega, show z1 - z0 = z - z0 + (z1 - z) by omega] at w
  exact w
end CPL
