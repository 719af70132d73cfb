/-! ===== my own judgement: the law's heap as a function of places; a frame of a method in it; a method's contract ===== -/
/-- a cell: an array, or an object (number of its class, its fields by number) -/
abbrev cp_E : Type := (ClassId × vp_A) ⊕ (Nat × (Nat → Value))
def cp_A (b : Nat) : Nat → Prop := fun q => b ≤ q
/-- what is fixed over the whole run: numbers of classes and slots, array classes (int, char, long, Entry), the law's first state -/
abbrev cp_G : Type := va_G × (ClassId × ClassId × ClassId × ClassId) × State
abbrev cp_D (G : cp_G) : va_G := G.1
abbrev cp_s (G : cp_G) : State := G.2.2
abbrev cp_b (G : cp_G) : Nat := G.2.2.heap.size
abbrev cp_ys (G : cp_G) : List (ClassId × FieldType) := [(G.2.1.1, .int), (G.2.1.2.1, .char), (G.2.1.2.2.1, .long), (G.2.1.2.2.2, .object "ConditionedProofs$Entry")]
abbrev cp_cI (G : cp_G) : ClassId := G.2.1.1
abbrev cp_cC (G : cp_G) : ClassId := G.2.1.2.1
abbrev cp_cL (G : cp_G) : ClassId := G.2.1.2.2.1
abbrev cp_cE (G : cp_G) : ClassId := G.2.1.2.2.2
def cp_up : List String := ["java/lang/RuntimeException", "java/lang/Exception"]
/-- the words that throwing wants -/
def cp_thr : List Cond := Bundle.ownAtoms "ConditionedProofs" 180 "java/lang/IllegalArgumentException" cp_up ++ Bundle.ownAtoms "ConditionedProofs" 148 "java/lang/IllegalStateException" cp_up
/-- the law's five methods that catch -/
def cp_hnd : List Cond := [.codeWith ⟨"ConditionedProofsLaw", "declare", "(LConditionedProofs;C[J)I"⟩ method_3_code 4 (some .int) [(0, 9, 12, 13), (0, 9, 15, 15)], .codeWith ⟨"ConditionedProofsLaw", "program", "(LConditionedProofs;C[J)I"⟩ method_4_code 4 (some .int) [(0, 9, 12, 13), (0, 9, 15, 15)], .codeWith ⟨"ConditionedProofsLaw", "lemma", "(LConditionedProofs;C)I"⟩ method_5_code 3 (some .int) [(0, 5, 8, 13), (0, 5, 11, 15)], .codeWith ⟨"ConditionedProofsLaw", "retract", "(LConditionedProofs;[J)I"⟩ method_6_code 3 (some .int) [(0, 8, 11, 15)], .codeWith ⟨"ConditionedProofsLaw", "run", "(LConditionedProofs;C[J)I"⟩ method_7_code 4 (some .int) [(0, 9, 12, 13)]]
def cp_strs : List (Nat × String) := [(204, "not a letter A .. Z"), (206, "the letter stands for something"), (146, "no result without holes"), (163, "nothing is declared"), (178, "no program")]
/-- what is known of the law's first state -/
def cp_K0 (G : cp_G) : Prop := va_K (cp_D G) cp_cl (cp_ys G) (cp_s G) ∧ (∀ w ∈ cp_nest, va_Nw w (cp_s G)) ∧ va_AO "ConditionedProofs$Entry" (cp_s G) ∧ (∀ w ∈ cp_thr, w.before #[] (cp_s G) = true) ∧ (∀ q ∈ cp_strs, ∃ a, vk_R "ConditionedProofs" q.1 q.2 a (cp_s G)) ∧ (Cond.not (.castable "java/lang/IllegalStateException" "java/lang/IllegalArgumentException")).before #[] (cp_s G) = true ∧ ∀ w ∈ cp_hnd, w.before #[] (cp_s G) = true
/-- a later state: its tables are warmer, the cells that stood before the law stand as they stood -/
def cp_T (G : cp_G) (U : State) : Prop := cp_K0 G ∧ (cp_s G).WarmedH U.vm ∧ ∀ q, q < cp_b G → U.heap[q]? = (cp_s G).heap[q]?
theorem cp_T.K {G : cp_G} {U : State} (h : cp_T G U) : va_K (cp_D G) cp_cl (cp_ys G) U := va_K.moved h.2.1.alike h.1.1
/-- a cell stands at q; of a class that isn't in the table nothing is said -/
def cp_at (G : cp_G) (q : Nat) (e : cp_E) (H : Heap) : Prop := match e with
  | .inl a => H[q]? = some (vp_cell a.1 a.2)
  | .inr o => ∀ r : vw_C, cp_cl[o.1]? = some r → t_OB q ((cp_D G).1 o.1) r.2.2 ((cp_D G).2 o.1) H (vp_V ((List.range (cp_N o.1)).map o.2))
theorem cp_at.kept {G : cp_G} {q : Nat} {e : cp_E} {H H1 : Heap} (h : cp_at G q e H) (hq : H1[q]? = H[q]?) : cp_at G q e H1 := by
  cases e with
  | inl a => exact hq.trans h
  | inr o => exact fun r hr => (h r hr).kept hq
/-- the heap holds the world -/
def cp_P (G : cp_G) (h : Nat → cp_E) (n : Nat) (H : Heap) : Prop := H.size = cp_b G + n ∧ ∀ i, i < n → cp_at G (cp_b G + i) (h i) H
theorem cp_P.o {G : cp_G} {h : Nat → cp_E} {n i ci : Nat} {g : Nat → Value} {H : Heap} (hP : cp_P G h n H) (hi : i < n) (hh : h i = .inr (ci, g)) (hci : ci < 14) : va_P (cp_D G) cp_cl [(cp_b G + i, .inr (ci, (List.range (cp_N ci)).map g))] H := by
  intro k q hk
  have hz : k < 1 := (List.getElem?_eq_some_iff.mp hk).1
  rw [show k = 0 by omega] at hk
  cases hk
  have h1 := hP.2 i hi
  rw [hh] at h1
  exact ⟨_, cp_cl_at hci, h1 _ (cp_cl_at hci)⟩
theorem cp_P.a {G : cp_G} {h : Nat → cp_E} {n i : Nat} {x : ClassId × vp_A} {H : Heap} (hP : cp_P G h n H) (hi : i < n) (hh : h i = .inl x) : va_P (cp_D G) cp_cl [(cp_b G + i, .inl x)] H := by
  intro k q hk
  have hz : k < 1 := (List.getElem?_eq_some_iff.mp hk).1
  rw [show k = 0 by omega] at hk
  cases hk
  have h1 := hP.2 i hi
  rw [hh] at h1
  exact h1
def cp_Pc (G : cp_G) (av : List Value) (h : Nat → cp_E) (n : Nat) : Array Value → State → Prop := va_Pc av (fun U => cp_P G h n U.heap ∧ cp_T G U)
def cp_Qc (G : cp_G) (o : Option Value) (h : Nat → cp_E) (n : Nat) : Array Value → State → Outcome → State → Prop := fun _ st oc t => oc = .returned o ∧ cp_P G h n t.heap ∧ cp_T G t ∧ va_F (cp_A (cp_b G)) st t
/-- the launch is one without stack traces -/
def cp_lf (l : Launch) : Prop := l.flags = pinnedFlags ++ [noTraceFlag]
/-- how a method ends: it returns, or it throws an object of the class (by its number) at the place -/
abbrev cp_O : Type := Option Value ⊕ (Nat × Nat)
/-- the object thrown -/
def cp_ex (G : cp_G) (ci i : Nat) (t : State) : Prop := ∃ cell : Cell, t.heap[cp_b G + i]? = some cell ∧ cell.vm = .none ∧ (cp_s G).vm.findClass (cp_R ci) = some cell.cls
def cp_QT (G : cp_G) (ci i : Nat) (h : Nat → cp_E) (n mc ms : Nat) : Array Value → State → Outcome → State → Prop := fun _ st oc t => oc = .threw (cp_b G + i) ∧ cp_P G h n t.heap ∧ cp_T G t ∧ va_F (cp_A (cp_b G)) st t ∧ cp_ex G ci i t ∧ ∃ L, FramedT st oc t L mc ms ∧ ∀ q ∈ L, cp_A (cp_b G) q.base
def cp_Z (G : cp_G) (r : cp_O) (h : Nat → cp_E) (n mc ms : Nat) (below : List Frame) (args : Array Value) (s : State) : State → Prop := match r with
  | .inl o => MQ below (cp_Qc G o h n) args s mc ms (cp_A (cp_b G))
  | .inr x => fun t => ∃ oc, t.status = .running ∧ Ended t below oc ∧ cp_QT G x.1 x.2 h n mc ms args s oc t
def cp_rm (d mc ms : Nat) : Room := { frames := d, cells := mc, slots := ms, locals := 64 * d }
abbrev cp_ws (mt : cp_M) : List Cond := .code mt.1 mt.2.1 mt.2.2.1 mt.2.2.2 :: cp_WS
/-- A METHOD'S CONTRACT: with these arguments, in this world, at most d frames deep, it returns o, and the world is then h' -/
def cp_C (G : cp_G) (d : Nat) (mt : cp_M) (av : List Value) (h : Nat → cp_E) (n z : Nat) (o : Option Value) (h' : Nat → cp_E) (n' z' : Nat) : Prop :=
  n ≤ n' ∧ z ≤ z' ∧ ∀ l : Launch, cp_lf l → Met l mt.1 (cp_ws mt) (cp_rm d (n' - n) (z' - z)) (cp_Pc G av h n) (cp_Qc G o h' n') (n' - n) (z' - z) (cp_A (cp_b G))
/-- what a frame stands on -/
def cp_B (G : cp_G) (mt : cp_M) (d n0 z0 n' z' : Nat) (p : Program) (R : Room) (s : State) (m : MethodId) (args : Array Value) (meth : Method) (c : Code) : Prop :=
  p.tables.exec = Jvm.exec ∧ c.code = mt.2.1 ∧ c.maxLocals = mt.2.2.1 ∧ meth.sig.returnType = mt.2.2.2 ∧ meth.locks = false ∧ s.vm.findClass mt.1.cls = some m.cls ∧ (meth.name = mt.1.name ∧ s.methodNamed? mt.1 = some m) ∧ (∀ w ∈ cp_WS, w.before args s = true) ∧ cp_T G s ∧ s.heap.size = cp_b G + n0 ∧ d ≤ R.frames ∧ 64 * d ≤ R.locals ∧ n' - n0 ≤ R.cells ∧ z' - z0 ≤ R.slots
def cp_H (G : cp_G) (nL : Nat) (lv : List (Nat × Value)) (h : Nat → cp_E) (n : Nat) (s : State) (H : Heap) (locs : List Loc) (ls : Array Slot) : Prop :=
  cp_P G h n H ∧ va_S (cp_A (cp_b G)) s.heap H locs ∧ lv_has ls nL lv
/-- A FRAME: at pc, with these locals and this stack, in this world, the method comes to its end with o and h' -/
def cp_V (G : cp_G) (mt : cp_M) (d n0 z0 : Nat) (o : cp_O) (h' : Nat → cp_E) (n' z' : Nat) (pc : Nat) (lv : List (Nat × Value)) (st : List Value) (h : Nat → cp_E) (n z : Nat) : Prop :=
  (n ≤ n' ∧ z ≤ z') ∧ ∀ (p : Program) (l : Launch) (e : Env) (R : Room) (s : State) (m : MethodId) (args : Array Value) (below : List Frame) (meth : Method) (c : Code), cp_B G mt d n0 z0 n' z' p R s m args meth c → (n0 ≤ n ∧ cp_lf l) → z0 ≤ z → ∀ (H : Heap) (locs : List Loc) (ls : Array Slot), cp_H G mt.2.2.1 lv h n s H locs ls →
    W p l e R s m args below meth c H locs (n - n0) (z - z0) (cp_Z G o h' n' (n' - n0) (z' - z0) below args s) (F0 m pc ls st)
section CPV
variable {G : cp_G} {mt : cp_M} {d n0 z0 : Nat} {o : cp_O} {h' : Nat → cp_E} {n' z' pc pc' : Nat} {lv lv' : List (Nat × Value)} {st st' rest : List Value} {h : Nat → cp_E} {n z : Nat}
/-- the contract out of the walk -/
theorem cp_C.of {av : List Value} {o : Option Value} (hy : plainName mt.1.cls = true) (hlen : (lg_sl av).length ≤ mt.2.2.1) (k : cp_V G mt d n z (.inl o) h' n' z' 0 (lv_args 0 av) [] h n z) : cp_C G d mt av h n z o h' n' z' := by
  refine ⟨k.1.1, k.1.2, fun l hlf => ?_⟩
  refine Met.ofW (cc := mt.2.1) (maxL := mt.2.2.1) (ret := mt.2.2.2) hy rfl ?_
  intro p e s m args below meth c s₁ B hml hv
  obtain ⟨rfl, hP, hT⟩ := hv
  have hts := atoms_spec (ws := cp_ws mt) B.pre
  have hown : s.vm.findClass mt.1.cls = some m.cls := findClass_of_methodNamed B.named
  have hl := lv_entry av (n := mt.2.2.1) hlen
  rw [lg_entry_eq]
  have hB : cp_B G mt d n z n' z' p (headSpec (cp_ws mt) (cp_rm d (n' - n) (z' - z))).room s m av.toArray meth c :=
    ⟨B.exec, B.bytes, hml, B.returns, B.notSynchronized, hown, ⟨(name_of_methodNamed B.named B.method).1, B.named⟩, fun w hw => hts w (List.mem_cons_of_mem _ hw), hT, hP.1, Nat.le_refl _, Nat.le_refl _, Nat.le_refl _, Nat.le_refl _⟩
  have r := k.2 p l e _ s m av.toArray below meth c hB ⟨Nat.le_refl _, hlf⟩ (Nat.le_refl _) s.heap [] _ ⟨hP, va_S.rf, hl⟩
  rw [Nat.sub_self, Nat.sub_self] at r
  exact r
/-- an instruction that leaves locals and heap -/
theorem cp_go (k : cp_V G mt d n0 z0 o h' n' z' pc' lv st' h n z)
    (row : ∀ (p : Program) (l : Launch) (e : Env) (R : Room) (s : State) (m : MethodId) (args : Array Value) (below : List Frame) (meth : Method) (c : Code) (H : Heap) (locs : List Loc) (cells slots : Nat) (Q : State → Prop) (ls : Array Slot), cp_B G mt d n0 z0 n' z' p R s m args meth c → cp_H G mt.2.2.1 lv h n s H locs ls → W p l e R s m args below meth c H locs cells slots Q (F0 m pc' ls st') → W p l e R s m args below meth c H locs cells slots Q (F0 m pc ls st)) :
    cp_V G mt d n0 z0 o h' n' z' pc lv st h n z :=
  ⟨k.1, fun p l e R s m args below meth c B h0 h1 H locs ls X => row p l e R s m args below meth c H locs _ _ _ ls B X (k.2 p l e R s m args below meth c B h0 h1 H locs ls X)⟩
/-- the locals after a store of one word -/
def cp_st (i : Nat) (v : Value) (lv : List (Nat × Value)) : List (Nat × Value) := (i, v) :: lv.filter (fun q => !(q.1 == i) && !(q.1 + 1 == i && q.2.category == 2))
def cp_st2 (i : Nat) (v : Value) (lv : List (Nat × Value)) : List (Nat × Value) := (i, v) :: lv.filter (fun q => !(q.1 == i) && (!(q.1 == i + 1) && !(q.1 + 1 == i && q.2.category == 2)))
theorem cp_gs (k : cp_V G mt d n0 z0 o h' n' z' pc' lv' st' h n z)
    (row : ∀ (p : Program) (l : Launch) (e : Env) (R : Room) (s : State) (m : MethodId) (args : Array Value) (below : List Frame) (meth : Method) (c : Code) (H : Heap) (locs : List Loc) (cells slots : Nat) (Q : State → Prop) (ls : Array Slot), cp_B G mt d n0 z0 n' z' p R s m args meth c → lv_has ls mt.2.2.1 lv → (∀ ls' : Array Slot, lv_has ls' mt.2.2.1 lv' → W p l e R s m args below meth c H locs cells slots Q (F0 m pc' ls' st')) → W p l e R s m args below meth c H locs cells slots Q (F0 m pc ls st)) :
    cp_V G mt d n0 z0 o h' n' z' pc lv st h n z :=
  ⟨k.1, fun p l e R s m args below meth c B h0 h1 H locs ls X => row p l e R s m args below meth c H locs _ _ _ ls B X.2.2 (fun ls' hl => k.2 p l e R s m args below meth c B h0 h1 H locs ls' ⟨X.1, X.2.1, hl⟩)⟩
/-- a branch -/
theorem cp_br {P : Prop} [dP : Decidable P] {pcT pcF : Nat} (kt : P → cp_V G mt d n0 z0 o h' n' z' pcT lv st' h n z) (kf : ¬ P → cp_V G mt d n0 z0 o h' n' z' pcF lv st' h n z)
    (row : ∀ (p : Program) (l : Launch) (e : Env) (R : Room) (s : State) (m : MethodId) (args : Array Value) (below : List Frame) (meth : Method) (c : Code) (H : Heap) (locs : List Loc) (cells slots : Nat) (Q : State → Prop) (ls : Array Slot), cp_B G mt d n0 z0 n' z' p R s m args meth c → (P → W p l e R s m args below meth c H locs cells slots Q (F0 m pcT ls st')) → (¬ P → W p l e R s m args below meth c H locs cells slots Q (F0 m pcF ls st')) → W p l e R s m args below meth c H locs cells slots Q (F0 m pc ls st)) :
    cp_V G mt d n0 z0 o h' n' z' pc lv st h n z :=
  ⟨by by_cases hP : P; exact (kt hP).1; exact (kf hP).1, fun p l e R s m args below meth c B h0 h1 H locs ls X => row p l e R s m args below meth c H locs _ _ _ ls B (fun hP => (kt hP).2 p l e R s m args below meth c B h0 h1 H locs ls X) (fun hP => (kf hP).2 p l e R s m args below meth c B h0 h1 H locs ls X)⟩
end CPV
