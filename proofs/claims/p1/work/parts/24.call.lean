/-! ===== calls ===== -/
section CPCl
variable {G : cp_G} {mt mk : cp_M} {d d1 n0 z0 : Nat} {o : cp_O} {r : Option Value} {h' h1 : Nat → cp_E} {n' z' n1 z1 pc : Nat} {lv : List (Nat × Value)} {rest As : List Value} {h : Nat → cp_E} {n z : Nat}
theorem cp_good {a b : cp_M} (hc : Cond.code b.1 b.2.1 b.2.2.1 b.2.2.2 ∈ cp_WS) : GoodIn cp_WS (cp_ws b) := by
  intro w hw
  rcases List.mem_cons.mp hw with rfl | hw
  · exact ⟨hc, good_of_word (List.mem_filter.mp hc).2⟩
  · exact ⟨hw, good_of_word (List.mem_filter.mp hw).2⟩
/-- behind the call -/
theorem cp_back {p : Program} {l : Launch} {e : Env} {R : Room} {s : State} {m : MethodId} {args : Array Value} {below : List Frame} {meth : Method} {c : Code} {H : Heap} {locs : List Loc} {cells slots mc ms : Nat} {Q : State → Prop} {ls : Array Slot} {st0 : List Value} {a : Array Value}
    (hr : va_Run p l e R s m args below meth c H locs cells slots mc ms (F0 m pc ls st0) rest (cp_Qc G r h1 n1 a) (cp_A (cp_b G))) (hS : va_S (cp_A (cp_b G)) s.heap H locs)
    (kk : ∀ (H1 : Heap) (locs1 : List Loc), cp_P G h1 n1 H1 → va_S (cp_A (cp_b G)) s.heap H1 locs1 → W p l e R s m args below meth c H1 locs1 (cells + mc) (slots + ms) Q (F0 m (pc + 3) ls (r.toList ++ rest))) :
    W p l e R s m args below meth c H locs cells slots Q (F0 m pc ls st0) := by
  intro T hT X
  obtain ⟨v, st₀, t, T', L, h0, X', hL, e1, e2, ⟨hv, hP1, hT1, hz, hk⟩, st⟩ := hr T hT X
  cases hv
  rw [h0] at hz hk
  obtain ⟨t2, a1, b1⟩ := kk T'.heap (locs ++ L) (by rw [e1]; exact hP1)
    ⟨Nat.le_trans hS.1 (by rw [e1]; exact hz), fun q h1 h2 => by rw [e1, hk q (Nat.lt_of_lt_of_le h1 hS.1) h2]; exact hS.2.1 q h1 h2, fun q hq => by
      rcases List.mem_append.mp hq with h | h
      · exact hS.2.2 q h
      · exact hL q h⟩ T' rfl X'
  exact ⟨t2, st t2 a1, b1⟩
theorem cp_blind {av : List Value} : FrameBlind (cp_Pc G av h n) := fun a U g mk q => by
  obtain ⟨q0, q1, q2⟩ := q
  exact ⟨q0, q1, q2.1, q2.2.1, q2.2.2⟩
theorem cp_pre {s : State} {H : Heap} {locs : List Loc} {U : State} (hT : cp_T G s) (hP : cp_P G h n H) (hS : va_S (cp_A (cp_b G)) s.heap H locs) (hz : s.heap.size = cp_b G + n0) (hU : U.heap = H) (hW : s.WarmedH U.vm) : cp_Pc G As h n As.toArray U := by
  refine ⟨rfl, by rw [hU]; exact hP, hT.1, State.WarmedH.trans hT.2.1 hW, fun q hq => ?_⟩
  rw [hU, hS.2.1 q (by omega) (by show ¬ cp_b G ≤ q; omega)]
  exact hT.2.2 q hq
/-- the frame of every call -/
theorem cp_gc {st0 : List Value} {av : List Value} (hC : cp_C G d1 mk av h n z r h1 n1 z1) (hdd : d1 + 1 ≤ d) (kk : cp_V G mt d n0 z0 o h' n' z' (pc + 3) lv (r.toList ++ rest) h1 n1 z1)
    (row : ∀ (p : Program) (l : Launch) (e : Env) (R : Room) (s : State) (m : MethodId) (args : Array Value) (below : List Frame) (meth : Method) (c : Code) (H : Heap) (locs : List Loc) (cells slots : Nat) (ls : Array Slot), cp_lf l → cp_B G mt d n0 z0 n' z' p R s m args meth c → cp_H G mt.2.2.1 lv h n s H locs ls → cells + (n1 - n) ≤ R.cells ∧ slots + (z1 - z) ≤ R.slots →
      va_Run p l e R s m args below meth c H locs cells slots (n1 - n) (z1 - z) (F0 m pc ls st0) rest (cp_Qc G r h1 n1 av.toArray) (cp_A (cp_b G))) :
    cp_V G mt d n0 z0 o h' n' z' pc lv st0 h n z := by
  have m1 := hC.1
  have m2 := hC.2.1
  have m3 := kk.1.1
  have m4 := kk.1.2
  refine ⟨⟨by omega, by omega⟩, fun p l e R s m args below meth c B h0 h1 H locs ls X => ?_⟩
  have b1 := B.2.2.2.2.2.2.2.2.2.2.2.2.1
  have b2 := B.2.2.2.2.2.2.2.2.2.2.2.2.2
  refine cp_back (row p l e R s m args below meth c H locs _ _ ls h0.2 B X ⟨by omega, by omega⟩) X.2.1 (fun H1 locs1 hP1 hS1 => ?_)
  have w := kk.2 p l e R s m args below meth c B ⟨by omega, h0.2⟩ (by omega) H1 locs1 ls ⟨hP1, hS1, X.2.2⟩
  rw [show n1 - n0 = n - n0 + (n1 - n) by omega, show z1 - z0 = z - z0 + (z1 - z) by omega] at w
  exact w
/-- invokevirtual on an object of a known class -/
theorem vv_callV {i ci idx : Nat} {g : Nat → Value} (hd : decode mt.2.1 pc = .ok (.invokevirtual idx, 3)) (hC : cp_C G d1 mk (.ref (cp_b G + i) :: As) h n z r h1 n1 z1) (hc : cp_cd mk As.length) (hci : ci < 14) (hcl : mk.1.cls = cp_R ci) (hl : Cond.methodLink mt.1.cls idx mk.1 ∈ cp_WS) (hin : Cond.instanceMethod mk.1 ∈ cp_WS) (hse : Cond.selects mk.1.cls mk.1 mk.1 ∈ cp_WS)
    (hi : i < n) (hh : h i = .inr (ci, g)) (hdd : d1 + 1 ≤ d) (hrs : (rest.map fun v => v.category).sum ≤ 8) (kk : cp_V G mt d n0 z0 o h' n' z' (pc + 3) lv (r.toList ++ rest) h1 n1 z1) :
    cp_V G mt d n0 z0 o h' n' z' pc lv (As.reverse ++ .ref (cp_b G + i) :: rest) h n z :=
  cp_gc hC hdd kk (fun p l e R s m args below meth c H locs cells slots ls hlf B X hroom => by
    obtain ⟨hx, hb, hml, -, -, hown, -, hts, hT, hz, hf, hlo, -⟩ := B
    obtain ⟨c1, c2, c3, c4, c5, c6⟩ := hc
    have hrecv := va_recv (D := cp_D G) hT.K (X.1.o hi hh hci) (cp_cl_at hci) (q0 := 0) rfl
    refine va_runV (C := mk.1.cls) (bytes := mk.2.1) (maxL := mk.2.2.1) (ret := mk.2.2.2) (n := As.length) ⟨hx, hb, hml, hown, hts⟩ (hC.2.2 l hlf) ⟨callB_of As.length hts (cp_good (a := mt) c1) rfl rfl rfl (hts _ c2) (hts _ hl) ⟨c4, c5, c6⟩ ⟨?_, ?_⟩, hts _ hin, hts _ hse⟩ ⟨cp_blind, ?_, fun U hU hW => cp_pre hT X.1 X.2.1 hz hU hW⟩ rfl rfl X.2.2.1 rfl (lv_room hrs) hd hroom
    · show d1 + 1 ≤ R.frames
      omega
    · show 8 + (mk.2.2.1 + 11) + 64 * d1 ≤ R.locals
      omega
    · rw [hcl]; exact hrecv)
/-- invokestatic -/
theorem vv_callS {idx : Nat} (hd : decode mt.2.1 pc = .ok (.invokestatic idx, 3)) (hC : cp_C G d1 mk As h n z r h1 n1 z1) (hc : cp_cd mk As.length) (hl : Cond.methodLink mt.1.cls idx mk.1 ∈ cp_WS) (hst : Cond.static mk.1 ∈ cp_WS)
    (hdd : d1 + 1 ≤ d) (hrs : (rest.map fun v => v.category).sum ≤ 8) (kk : cp_V G mt d n0 z0 o h' n' z' (pc + 3) lv (r.toList ++ rest) h1 n1 z1) :
    cp_V G mt d n0 z0 o h' n' z' pc lv (As.reverse ++ rest) h n z :=
  cp_gc hC hdd kk (fun p l e R s m args below meth c H locs cells slots ls hlf B X hroom => by
    obtain ⟨hx, hb, hml, -, -, hown, -, hts, hT, hz, hf, hlo, -⟩ := B
    obtain ⟨c1, c2, c3, c4, c5, c6⟩ := hc
    refine va_runS (bytes := mk.2.1) (maxL := mk.2.2.1) (ret := mk.2.2.2) (n := As.length) ⟨hx, hb, hml, hown, hts⟩ (hC.2.2 l hlf) ⟨callB_of As.length hts (cp_good (a := mt) c1) rfl rfl rfl (hts _ c2) (hts _ hl) ⟨c4, c5, c6⟩ ⟨?_, ?_⟩, hts _ hst⟩ ⟨cp_blind, fun U hU hW => cp_pre hT X.1 X.2.1 hz hU hW⟩ rfl rfl X.2.2.1 rfl (lv_room hrs) hd hroom
    · show d1 + 1 ≤ R.frames
      omega
    · show 8 + (mk.2.2.1 + 11) + 64 * d1 ≤ R.locals
      omega)
/-- invokestatic of a nest mate's private method -/
theorem vv_callSN {idx : Nat} {host : String} (hd : decode mt.2.1 pc = .ok (.invokestatic idx, 3)) (hC : cp_C G d1 mk As h n z r h1 n1 z1) (hc : cp_cd mk As.length) (hl : Cond.methodLinkNest mt.1.cls idx mk.1 host ∈ cp_nest) (hst : Cond.static mk.1 ∈ cp_WS)
    (hdd : d1 + 1 ≤ d) (hrs : (rest.map fun v => v.category).sum ≤ 8) (kk : cp_V G mt d n0 z0 o h' n' z' (pc + 3) lv (r.toList ++ rest) h1 n1 z1) :
    cp_V G mt d n0 z0 o h' n' z' pc lv (As.reverse ++ rest) h n z :=
  cp_gc hC hdd kk (fun p l e R s m args below meth c H locs cells slots ls hlf B X hroom => by
    obtain ⟨hx, hb, hml, -, -, hown, -, hts, hT, hz, hf, hlo, -⟩ := B
    obtain ⟨c1, c2, c3, c4, c5, c6⟩ := hc
    refine va_runSN (host := host) (bytes := mk.2.1) (maxL := mk.2.2.1) (ret := mk.2.2.2) (n := As.length) ⟨hx, hb, hml, hown, hts⟩ (hC.2.2 l hlf) ⟨va_cnB As.length hts (cp_good (a := mt) c1) rfl rfl rfl (va_Nw.warmM hT.2.1 (hT.1.2.1 _ hl)) (hts _ c2) ⟨c4, c5, c6⟩ ⟨?_, ?_⟩, hts _ hst, trivial⟩ ⟨cp_blind, fun U hU hW => cp_pre hT X.1 X.2.1 hz hU hW⟩ rfl rfl X.2.2.1 rfl (lv_room hrs) hd hroom
    · show d1 + 1 ≤ R.frames
      omega
    · show 8 + (mk.2.2.1 + 11) + 64 * d1 ≤ R.locals
      omega)
/-- invokespecial of a constructor -/
theorem vv_callI {a idx : Nat} (hd : decode mt.2.1 pc = .ok (.invokespecial idx, 3)) (hC : cp_C G d1 mk (.ref a :: As) h n z none h1 n1 z1) (hc : cp_cd mk As.length) (hret : mk.2.2.2 = none) (hnm : mk.1.name = "<init>") (hl : Cond.methodLink mt.1.cls idx mk.1 ∈ cp_WS) (hin : Cond.instanceMethod mk.1 ∈ cp_WS)
    (hdd : d1 + 1 ≤ d) (hrs : (rest.map fun v => v.category).sum ≤ 8) (kk : cp_V G mt d n0 z0 o h' n' z' (pc + 3) lv rest h1 n1 z1) :
    cp_V G mt d n0 z0 o h' n' z' pc lv (As.reverse ++ .ref a :: rest) h n z :=
  cp_gc (r := none) hC hdd kk (fun p l e R s m args below meth c H locs cells slots ls hlf B X hroom => by
    obtain ⟨hx, hb, hml, -, -, hown, -, hts, hT, hz, hf, hlo, -⟩ := B
    obtain ⟨c1, c2, c3, c4, c5, c6⟩ := hc
    obtain ⟨y, bb, nn, rr⟩ := mk
    dsimp only at hret
    subst hret
    refine va_runI (y := y) (bytes := bb) (maxL := nn) (n := As.length) ⟨hx, hb, hml, hown, hts⟩ (hC.2.2 l hlf) ⟨callB_of As.length hts (cp_good (a := mt) c1) rfl rfl rfl (hts _ c2) (hts _ hl) ⟨c4, c5, c6⟩ ⟨?_, ?_⟩, hnm, hts _ hin⟩ ⟨cp_blind, fun U hU hW => cp_pre (As := .ref a :: As) hT X.1 X.2.1 hz hU hW⟩ rfl rfl X.2.2.1 rfl (lv_room hrs) hd hroom
    · show d1 + 1 ≤ R.frames
      omega
    · show 8 + (nn + 11) + 64 * d1 ≤ R.locals
      have : nn ≤ 45 := c3
      omega)
end CPCl
