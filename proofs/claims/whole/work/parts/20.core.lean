/-! ===== my own judgement: the law's heap as a function of places; a frame of a method in it; a method's contract ===== -/
/-- a cell: an array, or an object (number of its class, its fields by number) -/
abbrev cp_E : Type := (ClassId × vp_A) ⊕ (Nat × (Nat → Value))
def cp_t (e : cp_E) : va_E := match e with
  | .inl a => .inl a
  | .inr o => .inr (o.1, (List.range (cp_N o.1)).map o.2)
def cp_w (b : Nat) (h : Nat → cp_E) (n : Nat) : va_W := (List.range n).map (fun i => (b + i, cp_t (h i)))
theorem cp_w_at {b n i : Nat} {h : Nat → cp_E} (hi : i < n) : (cp_w b h n)[i]? = some (b + i, cp_t (h i)) := by
  simp [cp_w, hi]
theorem cp_w_len {b n : Nat} {h : Nat → cp_E} : (cp_w b h n).length = n := by simp [cp_w]
theorem cp_w_set {b n i : Nat} {h : Nat → cp_E} {e : cp_E} {e' : va_E} (he : cp_t e = e') : (cp_w b h n).set i (b + i, e') = cp_w b (va_up h i e) n := by
  subst he
  apply List.ext_getElem?
  intro j
  rw [List.getElem?_set]
  by_cases hj : j < n
  · by_cases hij : i = j
    · subst hij
      rw [if_pos rfl, if_pos (by rw [cp_w_len]; exact hj), cp_w_at hj]
      simp [va_up]
    · rw [if_neg hij, cp_w_at hj, cp_w_at hj]
      simp [va_up, Ne.symm hij]
  · have h1 : (cp_w b (va_up h i e) n)[j]? = none := List.getElem?_eq_none (by rw [cp_w_len]; omega)
    have h2 : (cp_w b h n)[j]? = none := List.getElem?_eq_none (by rw [cp_w_len]; omega)
    rw [h1, h2]
    by_cases hij : i = j
    · subst hij; simp [cp_w_len, hj]
    · simp [hij]
theorem cp_w_push {b n : Nat} {h : Nat → cp_E} {e : cp_E} : cp_w b (va_up h n e) (n + 1) = cp_w b h n ++ [(b + n, cp_t e)] := by
  unfold cp_w
  rw [List.range_succ, List.map_append]
  congr 1
  · apply List.map_congr_left
    intro i hi
    have := List.mem_range.mp hi
    simp [va_up, Nat.ne_of_lt this]
  · simp [va_up]
def cp_A (b : Nat) : Nat → Prop := fun q => b ≤ q
theorem cp_w_D {b n : Nat} {h : Nat → cp_E} : va_D (cp_A b) (cp_w b h n) := by
  have key : ∀ (k : Nat) (q : Nat × va_E), (cp_w b h n)[k]? = some q → k < n ∧ q.1 = b + k := by
    intro k q hk
    have hlt : k < n := by
      have := (List.getElem?_eq_some_iff.mp hk).1
      rwa [cp_w_len] at this
    rw [cp_w_at hlt] at hk
    cases hk
    exact ⟨hlt, rfl⟩
  refine ⟨fun i j p q hi hj e => ?_, fun k q hk => ?_⟩
  · have h1 := (key i p hi).2
    have h2 := (key j q hj).2
    omega
  · have h1 := (key k q hk).2
    show b ≤ q.1
    omega
/-- what is fixed over the whole run: numbers of classes and slots, array classes (int, char, long, Entry), the law's first state -/
abbrev cp_G : Type := va_G × (ClassId × ClassId × ClassId × ClassId) × State
abbrev cp_D (G : cp_G) : va_G := G.1
abbrev cp_s (G : cp_G) : State := G.2.2
abbrev cp_b (G : cp_G) : Nat := G.2.2.heap.size
abbrev cp_ys (G : cp_G) : List (ClassId × FieldType) := [(G.2.1.1, .int), (G.2.1.2.1, .char), (G.2.1.2.2.1, .long), (G.2.1.2.2.2, .object "ConditionedProofs$Entry")]
abbrev cp_cI (G : cp_G) : ClassId := G.2.1.1
abbrev cp_cC (G : cp_G) : ClassId := G.2.1.2.1
abbrev cp_cL (G : cp_G) : ClassId := G.2.1.2.2.1
abbrev cp_cE (G : cp_G) : ClassId := G.2.1.2.2.2
/-- what is known of the law's first state -/
def cp_K0 (G : cp_G) : Prop := va_K (cp_D G) cp_cl (cp_ys G) (cp_s G) ∧ (∀ w ∈ cp_nest, va_Nw w (cp_s G)) ∧ va_AO "ConditionedProofs$Entry" (cp_s G)
/-- a later state: its tables are warmer, the cells that stood before the law stand as they stood -/
def cp_T (G : cp_G) (U : State) : Prop := cp_K0 G ∧ (cp_s G).WarmedH U.vm ∧ ∀ q, q < cp_b G → U.heap[q]? = (cp_s G).heap[q]?
theorem cp_T.K {G : cp_G} {U : State} (h : cp_T G U) : va_K (cp_D G) cp_cl (cp_ys G) U := va_K.moved h.2.1.alike h.1.1
/-- the heap holds the world -/
def cp_P (G : cp_G) (h : Nat → cp_E) (n : Nat) (H : Heap) : Prop := H.size = cp_b G + n ∧ va_P (cp_D G) cp_cl (cp_w (cp_b G) h n) H
def cp_Pc (G : cp_G) (av : List Value) (h : Nat → cp_E) (n : Nat) : Array Value → State → Prop := va_Pc av (fun U => cp_P G h n U.heap ∧ cp_T G U)
def cp_Qc (G : cp_G) (o : Option Value) (h : Nat → cp_E) (n : Nat) : Array Value → State → Outcome → State → Prop := fun _ st oc t => oc = .returned o ∧ cp_P G h n t.heap ∧ cp_T G t ∧ va_F (cp_A (cp_b G)) st t
def cp_rm (d mc ms : Nat) : Room := { frames := d, cells := mc, slots := ms, locals := 64 * d }
abbrev cp_ws (mt : cp_M) : List Cond := .code mt.1 mt.2.1 mt.2.2.1 mt.2.2.2 :: cp_WS
/-- A METHOD'S CONTRACT: with these arguments, in this world, at most d frames deep, it returns o, and the world is then h' -/
def cp_C (G : cp_G) (d : Nat) (mt : cp_M) (av : List Value) (h : Nat → cp_E) (n z : Nat) (o : Option Value) (h' : Nat → cp_E) (n' z' : Nat) : Prop :=
  n ≤ n' ∧ z ≤ z' ∧ ∀ l : Launch, Met l mt.1 (cp_ws mt) (cp_rm d (n' - n) (z' - z)) (cp_Pc G av h n) (cp_Qc G o h' n') (n' - n) (z' - z) (cp_A (cp_b G))
/-- what a frame stands on -/
def cp_B (G : cp_G) (mt : cp_M) (d n0 z0 n' z' : Nat) (p : Program) (R : Room) (s : State) (m : MethodId) (args : Array Value) (meth : Method) (c : Code) : Prop :=
  p.tables.exec = Jvm.exec ∧ c.code = mt.2.1 ∧ c.maxLocals = mt.2.2.1 ∧ meth.sig.returnType = mt.2.2.2 ∧ meth.locks = false ∧ s.vm.findClass mt.1.cls = some m.cls ∧ meth.name = mt.1.name ∧ (∀ w ∈ cp_WS, w.before args s = true) ∧ cp_T G s ∧ s.heap.size = cp_b G + n0 ∧ d ≤ R.frames ∧ 64 * d ≤ R.locals ∧ n' - n0 ≤ R.cells ∧ z' - z0 ≤ R.slots
def cp_H (G : cp_G) (nL : Nat) (lv : List (Nat × Value)) (h : Nat → cp_E) (n : Nat) (s : State) (H : Heap) (locs : List Loc) (ls : Array Slot) : Prop :=
  cp_P G h n H ∧ va_S (cp_A (cp_b G)) s.heap H locs ∧ lv_has ls nL lv
/-- A FRAME: at pc, with these locals and this stack, in this world, the method comes to its end with o and h' -/
def cp_V (G : cp_G) (mt : cp_M) (d n0 z0 : Nat) (o : Option Value) (h' : Nat → cp_E) (n' z' : Nat) (pc : Nat) (lv : List (Nat × Value)) (st : List Value) (h : Nat → cp_E) (n z : Nat) : Prop :=
  (n ≤ n' ∧ z ≤ z') ∧ ∀ (p : Program) (l : Launch) (e : Env) (R : Room) (s : State) (m : MethodId) (args : Array Value) (below : List Frame) (meth : Method) (c : Code), cp_B G mt d n0 z0 n' z' p R s m args meth c → n0 ≤ n → z0 ≤ z → ∀ (H : Heap) (locs : List Loc) (ls : Array Slot), cp_H G mt.2.2.1 lv h n s H locs ls →
    W p l e R s m args below meth c H locs (n - n0) (z - z0) (MQ below (cp_Qc G o h' n') args s (n' - n0) (z' - z0) (cp_A (cp_b G))) (F0 m pc ls st)
section CPV
variable {G : cp_G} {mt : cp_M} {d n0 z0 : Nat} {o : Option Value} {h' : Nat → cp_E} {n' z' pc pc' : Nat} {lv lv' : List (Nat × Value)} {st st' rest : List Value} {h : Nat → cp_E} {n z : Nat}
/-- the contract out of the walk -/
theorem cp_C.of {av : List Value} (hy : plainName mt.1.cls = true) (hlen : (lg_sl av).length ≤ mt.2.2.1) (k : cp_V G mt d n z o h' n' z' 0 (lv_args 0 av) [] h n z) : cp_C G d mt av h n z o h' n' z' := by
  refine ⟨k.1.1, k.1.2, fun l => ?_⟩
  refine Met.ofW (cc := mt.2.1) (maxL := mt.2.2.1) (ret := mt.2.2.2) hy rfl ?_
  intro p e s m args below meth c s₁ B hml hv
  obtain ⟨rfl, hP, hT⟩ := hv
  have hts := atoms_spec (ws := cp_ws mt) B.pre
  have hown : s.vm.findClass mt.1.cls = some m.cls := findClass_of_methodNamed B.named
  have hl := lv_entry av (n := mt.2.2.1) hlen
  rw [lg_entry_eq]
  have hB : cp_B G mt d n z n' z' p (headSpec (cp_ws mt) (cp_rm d (n' - n) (z' - z))).room s m av.toArray meth c :=
    ⟨B.exec, B.bytes, hml, B.returns, B.notSynchronized, hown, (name_of_methodNamed B.named B.method).1, fun w hw => hts w (List.mem_cons_of_mem _ hw), hT, hP.1, Nat.le_refl _, Nat.le_refl _, Nat.le_refl _, Nat.le_refl _⟩
  have r := k.2 p l e _ s m av.toArray below meth c hB (Nat.le_refl _) (Nat.le_refl _) s.heap [] _ ⟨hP, va_S.rf, hl⟩
  rw [Nat.sub_self, Nat.sub_self] at r
  exact r
/-- an instruction that leaves locals and heap -/
theorem cp_go (k : cp_V G mt d n0 z0 o h' n' z' pc' lv st' h n z)
    (row : ∀ (p : Program) (l : Launch) (e : Env) (R : Room) (s : State) (m : MethodId) (args : Array Value) (below : List Frame) (meth : Method) (c : Code) (H : Heap) (locs : List Loc) (cells slots : Nat) (Q : State → Prop) (ls : Array Slot), cp_B G mt d n0 z0 n' z' p R s m args meth c → cp_H G mt.2.2.1 lv h n s H locs ls → W p l e R s m args below meth c H locs cells slots Q (F0 m pc' ls st') → W p l e R s m args below meth c H locs cells slots Q (F0 m pc ls st)) :
    cp_V G mt d n0 z0 o h' n' z' pc lv st h n z :=
  ⟨k.1, fun p l e R s m args below meth c B h0 h1 H locs ls X => row p l e R s m args below meth c H locs _ _ _ ls B X (k.2 p l e R s m args below meth c B h0 h1 H locs ls X)⟩
/-- the locals after a store of one word -/
def cp_st (i : Nat) (v : Value) (lv : List (Nat × Value)) : List (Nat × Value) := (i, v) :: lv.filter (fun q => !(q.1 == i) && !(q.1 + 1 == i && q.2.category == 2))
def cp_st2 (i : Nat) (v : Value) (lv : List (Nat × Value)) : List (Nat × Value) := (i, v) :: lv.filter (fun q => !(q.1 == i) && (!(q.1 == i + 1) && !(q.1 + 1 == i && q.2.category == 2)))
theorem cp_gs (k : cp_V G mt d n0 z0 o h' n' z' pc' lv' st' h n z)
    (row : ∀ (p : Program) (l : Launch) (e : Env) (R : Room) (s : State) (m : MethodId) (args : Array Value) (below : List Frame) (meth : Method) (c : Code) (H : Heap) (locs : List Loc) (cells slots : Nat) (Q : State → Prop) (ls : Array Slot), cp_B G mt d n0 z0 n' z' p R s m args meth c → lv_has ls mt.2.2.1 lv → (∀ ls' : Array Slot, lv_has ls' mt.2.2.1 lv' → W p l e R s m args below meth c H locs cells slots Q (F0 m pc' ls' st')) → W p l e R s m args below meth c H locs cells slots Q (F0 m pc ls st)) :
    cp_V G mt d n0 z0 o h' n' z' pc lv st h n z :=
  ⟨k.1, fun p l e R s m args below meth c B h0 h1 H locs ls X => row p l e R s m args below meth c H locs _ _ _ ls B X.2.2 (fun ls' hl => k.2 p l e R s m args below meth c B h0 h1 H locs ls' ⟨X.1, X.2.1, hl⟩)⟩
/-- a branch -/
theorem cp_br {P : Prop} [dP : Decidable P] {pcT pcF : Nat} (kt : P → cp_V G mt d n0 z0 o h' n' z' pcT lv st' h n z) (kf : ¬ P → cp_V G mt d n0 z0 o h' n' z' pcF lv st' h n z)
    (row : ∀ (p : Program) (l : Launch) (e : Env) (R : Room) (s : State) (m : MethodId) (args : Array Value) (below : List Frame) (meth : Method) (c : Code) (H : Heap) (locs : List Loc) (cells slots : Nat) (Q : State → Prop) (ls : Array Slot), cp_B G mt d n0 z0 n' z' p R s m args meth c → (P → W p l e R s m args below meth c H locs cells slots Q (F0 m pcT ls st')) → (¬ P → W p l e R s m args below meth c H locs cells slots Q (F0 m pcF ls st')) → W p l e R s m args below meth c H locs cells slots Q (F0 m pc ls st)) :
    cp_V G mt d n0 z0 o h' n' z' pc lv st h n z :=
  ⟨by by_cases hP : P; exact (kt hP).1; exact (kf hP).1, fun p l e R s m args below meth c B h0 h1 H locs ls X => row p l e R s m args below meth c H locs _ _ _ ls B (fun hP => (kt hP).2 p l e R s m args below meth c B h0 h1 H locs ls X) (fun hP => (kf hP).2 p l e R s m args below meth c B h0 h1 H locs ls X)⟩
end CPV
