/-! ===== arrays, makings, ends ===== -/
section CPMk
variable {G : cp_G} {mt : cp_M} {d n0 z0 : Nat} {o : cp_O} {h' : Nat → cp_E} {n' z' pc : Nat} {lv : List (Nat × Value)} {st rest : List Value} {h : Nat → cp_E} {n z : Nat}
theorem vv_iald {i len : Nat} {f : Nat → Int32} {j : Int32} (hd : decode mt.2.1 pc = .ok (.iaload, 1)) (hi : i < n) (hh : h i = .inl (cp_cI G, len, .inl f)) (hin : vp_in j len) (kk : cp_V G mt d n0 z0 o h' n' z' (pc + 1) lv (.int (f j.toNatClampNeg) :: rest) h n z) :
    cp_V G mt d n0 z0 o h' n' z' pc lv (.int j :: .ref (cp_b G + i) :: rest) h n z :=
  cp_go kk (fun p l e R s m args below meth c H locs cells slots Q ls B X w => by
    obtain ⟨hx, hb, -, -, -, hown, -, hts, hT, -⟩ := B
    exact va_iald (D := cp_D G) hx hb hT.K (X.1.a hi hh) 0 0 rfl rfl hin hd w)
theorem vv_cald {i len : Nat} {f : Nat → Int32} {j : Int32} (hd : decode mt.2.1 pc = .ok (.caload, 1)) (hi : i < n) (hh : h i = .inl (cp_cC G, len, .inl f)) (hin : vp_in j len) (kk : cp_V G mt d n0 z0 o h' n' z' (pc + 1) lv (.int (f j.toNatClampNeg) :: rest) h n z) :
    cp_V G mt d n0 z0 o h' n' z' pc lv (.int j :: .ref (cp_b G + i) :: rest) h n z :=
  cp_go kk (fun p l e R s m args below meth c H locs cells slots Q ls B X w => by
    obtain ⟨hx, hb, -, -, -, hown, -, hts, hT, -⟩ := B
    exact va_cald (D := cp_D G) hx hb hT.K (X.1.a hi hh) 0 1 rfl rfl hin hd w)
theorem vv_lald {i len : Nat} {f : Nat → Int64} {j : Int32} (hd : decode mt.2.1 pc = .ok (.laload, 1)) (hi : i < n) (hh : h i = .inl (cp_cL G, len, .inr (.inl f))) (hin : vp_in j len) (kk : cp_V G mt d n0 z0 o h' n' z' (pc + 1) lv (.long (f j.toNatClampNeg) :: rest) h n z) :
    cp_V G mt d n0 z0 o h' n' z' pc lv (.int j :: .ref (cp_b G + i) :: rest) h n z :=
  cp_go kk (fun p l e R s m args below meth c H locs cells slots Q ls B X w => by
    obtain ⟨hx, hb, -, -, -, hown, -, hts, hT, -⟩ := B
    exact va_lald (D := cp_D G) hx hb hT.K (X.1.a hi hh) 0 2 rfl rfl hin hd w)
theorem vv_aald {i len : Nat} {f : Nat → Option Nat} {j : Int32} (hd : decode mt.2.1 pc = .ok (.aaload, 1)) (hi : i < n) (hh : h i = .inl (cp_cE G, len, .inr (.inr (.inr (.inr f))))) (hin : vp_in j len) (kk : cp_V G mt d n0 z0 o h' n' z' (pc + 1) lv (va_rf (f j.toNatClampNeg) :: rest) h n z) :
    cp_V G mt d n0 z0 o h' n' z' pc lv (.int j :: .ref (cp_b G + i) :: rest) h n z :=
  cp_go kk (fun p l e R s m args below meth c H locs cells slots Q ls B X w => by
    obtain ⟨hx, hb, -, -, -, hown, -, hts, hT, -⟩ := B
    exact va_aldq (D := cp_D G) (C := "ConditionedProofs$Entry") hx hb hT.K (X.1.a hi hh) 0 3 rfl rfl hin hd w)
theorem vv_alenI {i : Nat} {x : vp_A} {v : Int32} (hd : decode mt.2.1 pc = .ok (.arraylength, 1)) (hi : i < n) (hh : h i = .inl (cp_cI G, x)) (hv : Int32.ofNat x.1 = v) (kk : cp_V G mt d n0 z0 o h' n' z' (pc + 1) lv (.int v :: rest) h n z) :
    cp_V G mt d n0 z0 o h' n' z' pc lv (.ref (cp_b G + i) :: rest) h n z :=
  cp_go kk (fun p l e R s m args below meth c H locs cells slots Q ls B X w => by
    obtain ⟨hx, hb, -, -, -, hown, -, hts, hT, -⟩ := B
    exact va_alen (D := cp_D G) hx hb hT.K (X.1.a hi hh) 0 0 rfl rfl hv hd w)
theorem vv_alenC {i : Nat} {x : vp_A} {v : Int32} (hd : decode mt.2.1 pc = .ok (.arraylength, 1)) (hi : i < n) (hh : h i = .inl (cp_cC G, x)) (hv : Int32.ofNat x.1 = v) (kk : cp_V G mt d n0 z0 o h' n' z' (pc + 1) lv (.int v :: rest) h n z) :
    cp_V G mt d n0 z0 o h' n' z' pc lv (.ref (cp_b G + i) :: rest) h n z :=
  cp_go kk (fun p l e R s m args below meth c H locs cells slots Q ls B X w => by
    obtain ⟨hx, hb, -, -, -, hown, -, hts, hT, -⟩ := B
    exact va_alen (D := cp_D G) hx hb hT.K (X.1.a hi hh) 0 1 rfl rfl hv hd w)
theorem vv_iast {i len : Nat} {f : Nat → Int32} {j x : Int32} (hd : decode mt.2.1 pc = .ok (.iastore, 1)) (hi : i < n) (hh : h i = .inl (cp_cI G, len, .inl f)) (hin : vp_in j len) (kk : cp_V G mt d n0 z0 o h' n' z' (pc + 1) lv rest (va_up h i (.inl (cp_cI G, len, .inl (upd f j.toNatClampNeg x)))) n z) :
    cp_V G mt d n0 z0 o h' n' z' pc lv (.int x :: .int j :: .ref (cp_b G + i) :: rest) h n z :=
  cp_gp hi kk (fun p l e0 R s m args below meth c H locs cells slots Q ls B X w => by
    obtain ⟨hx, hb, -, -, -, hown, -, hts, hT, -⟩ := B
    refine W.iast hx hb (X.1.a hi hh 0 _ rfl) ((hT.K.2 0 _ rfl).1 len (fun j => .int (f j))) (fun q => by cases q) (by show ¬ (j < 0 ∨ (arrV _ _ _).slots.size ≤ _); rw [arrV_size]; exact hin) rfl rfl hd fun H1 e z oq => ?_
    refine w H1 _ ?_ z oq
    show H1[cp_b G + i]? = some (vp_cell _ _)
    rw [e, vp_cell_i, vp_cell_i, arrV_store]
    congr 2
    funext q
    by_cases hq : q = j.toNatClampNeg
    · subst hq; simp [updV, upd]
    · simp [updV, upd, hq])
theorem vv_cast {i len : Nat} {f : Nat → Int32} {j x : Int32} (hd : decode mt.2.1 pc = .ok (.castore, 1)) (hi : i < n) (hh : h i = .inl (cp_cC G, len, .inl f)) (hin : vp_in j len) (kk : cp_V G mt d n0 z0 o h' n' z' (pc + 1) lv rest (va_up h i (.inl (cp_cC G, len, .inl (upd f j.toNatClampNeg (vp_nar .char x))))) n z) :
    cp_V G mt d n0 z0 o h' n' z' pc lv (.int x :: .int j :: .ref (cp_b G + i) :: rest) h n z :=
  cp_gp hi kk (fun p l e0 R s m args below meth c H locs cells slots Q ls B X w => by
    obtain ⟨hx, hb, -, -, -, hown, -, hts, hT, -⟩ := B
    refine W.cast hx hb (X.1.a hi hh 0 _ rfl) ((hT.K.2 1 _ rfl).1 len (fun j => .int (f j))) (fun q => by cases q) (by show ¬ (j < 0 ∨ (arrV _ _ _).slots.size ≤ _); rw [arrV_size]; exact hin) rfl rfl hd fun H1 e z oq => ?_
    refine w H1 _ ?_ z oq
    show H1[cp_b G + i]? = some (vp_cell _ _)
    rw [e, vp_cell_i, vp_cell_i, arrV_store]
    congr 2
    funext q
    by_cases hq : q = j.toNatClampNeg
    · subst hq
      simp [updV, upd, vp_nar]
      try rfl
    · simp [updV, upd, hq])
theorem vv_last {i len : Nat} {f : Nat → Int64} {j : Int32} {x : Int64} (hd : decode mt.2.1 pc = .ok (.lastore, 1)) (hi : i < n) (hh : h i = .inl (cp_cL G, len, .inr (.inl f))) (hin : vp_in j len) (kk : cp_V G mt d n0 z0 o h' n' z' (pc + 1) lv rest (va_up h i (.inl (cp_cL G, len, .inr (.inl (vp_updL f j.toNatClampNeg x))))) n z) :
    cp_V G mt d n0 z0 o h' n' z' pc lv (.long x :: .int j :: .ref (cp_b G + i) :: rest) h n z :=
  cp_gp hi kk (fun p l e0 R s m args below meth c H locs cells slots Q ls B X w => by
    obtain ⟨hx, hb, -, -, -, hown, -, hts, hT, -⟩ := B
    refine W.last hx hb (X.1.a hi hh 0 _ rfl) ((hT.K.2 2 _ rfl).1 len (fun j => .long (f j))) (fun q => by cases q) (by show ¬ (j < 0 ∨ (arrV _ _ _).slots.size ≤ _); rw [arrV_size]; exact hin) rfl rfl hd fun H1 e z oq => ?_
    refine w H1 _ ?_ z oq
    show H1[cp_b G + i]? = some (vp_cell _ _)
    rw [e, vp_cell_l, vp_cell_l, arrV_store]
    congr 2
    funext q
    by_cases hq : q = j.toNatClampNeg
    · subst hq; simp [updV, vp_updL]
    · simp [updV, vp_updL, hq])
/-- an Entry into the array of them; null too -/
theorem vv_aast {i k len : Nat} {g : Nat → Value} {f : Nat → Option Nat} {j : Int32} (hd : decode mt.2.1 pc = .ok (.aastore, 1)) (hi : i < n) (hh : h i = .inl (cp_cE G, len, .inr (.inr (.inr (.inr f))))) (hk : k < n) (hv : h k = .inr (10, g)) (hin : vp_in j len) (kk : cp_V G mt d n0 z0 o h' n' z' (pc + 1) lv rest (va_up h i (.inl (cp_cE G, len, .inr (.inr (.inr (.inr (va_up f j.toNatClampNeg (some (cp_b G + k))))))))) n z) :
    cp_V G mt d n0 z0 o h' n' z' pc lv (.ref (cp_b G + k) :: .int j :: .ref (cp_b G + i) :: rest) h n z :=
  cp_gp hi kk (fun p l e0 R s m args below meth c H locs cells slots Q ls B X w => by
    obtain ⟨hx, hb, -, -, -, hown, -, hts, hT, -⟩ := B
    have hK := hT.K
    have hlt : j.toNatClampNeg < len := Nat.not_le.mp fun q => hin (Or.inr q)
    have h0 : ¬ j < 0 := fun q => hin (Or.inl q)
    obtain ⟨r', hr', cellV, g1, g2, g3, -⟩ := X.1.o hk hv (by decide) 0 _ rfl
    have hcls := (hK.1 10 _ (cp_cl_at (by decide))).2
    obtain ⟨kA, comp, k1, k2, k3, -⟩ := (hK.2 3 _ rfl).2
    have hcomp : comp = (cp_D G).1 10 := Option.some.inj (k3.symm.trans hcls.1)
    subst hcomp
    obtain ⟨kC, hkC, -⟩ := hcls.2
    refine W.aast hx hb (X.1.a hi hh 0 _ rfl) (fun q h => by cases h) (fun h => by cases h) k1 k2 rfl hkC ⟨h0, by show _ < (arrV _ _ _).slots.size; rw [arrV_size]; exact hlt⟩ g1 (fun q h => by rw [g3] at h; cases h) (by rw [g2]; exact hkC) (by rw [g2]; exact va_assign hcls) rfl rfl hd fun H1 e z oq => ?_
    refine w H1 _ ?_ z oq
    show H1[cp_b G + i]? = some (vp_cell _ _)
    rw [e, vp_cell_q, vp_cell_q, arrV_store]
    congr 2
    funext q
    by_cases hq : q = j.toNatClampNeg
    · subst hq; simp [updV, va_up, va_rf]
    · simp [updV, va_up, hq])
/-- places that are natural numbers -/
theorem vv_ialN {i len j : Nat} {f : Nat → Int32} (hd : decode mt.2.1 pc = .ok (.iaload, 1)) (hi : i < n) (hh : h i = .inl (cp_cI G, len, .inl f)) (hj : j < len) (hl : len < 2 ^ 31) (kk : cp_V G mt d n0 z0 o h' n' z' (pc + 1) lv (.int (f j) :: rest) h n z) :
    cp_V G mt d n0 z0 o h' n' z' pc lv (.int (nI j) :: .ref (cp_b G + i) :: rest) h n z :=
  vv_iald hd hi hh (vp_in_nI hj hl) (by rw [nI_clamp (by omega)]; exact kk)
theorem vv_calN {i len j : Nat} {f : Nat → Int32} (hd : decode mt.2.1 pc = .ok (.caload, 1)) (hi : i < n) (hh : h i = .inl (cp_cC G, len, .inl f)) (hj : j < len) (hl : len < 2 ^ 31) (kk : cp_V G mt d n0 z0 o h' n' z' (pc + 1) lv (.int (f j) :: rest) h n z) :
    cp_V G mt d n0 z0 o h' n' z' pc lv (.int (nI j) :: .ref (cp_b G + i) :: rest) h n z :=
  vv_cald hd hi hh (vp_in_nI hj hl) (by rw [nI_clamp (by omega)]; exact kk)
theorem vv_iasN {i len j : Nat} {f : Nat → Int32} {x : Int32} (hd : decode mt.2.1 pc = .ok (.iastore, 1)) (hi : i < n) (hh : h i = .inl (cp_cI G, len, .inl f)) (hj : j < len) (hl : len < 2 ^ 31) (kk : cp_V G mt d n0 z0 o h' n' z' (pc + 1) lv rest (va_up h i (.inl (cp_cI G, len, .inl (upd f j x)))) n z) :
    cp_V G mt d n0 z0 o h' n' z' pc lv (.int x :: .int (nI j) :: .ref (cp_b G + i) :: rest) h n z :=
  vv_iast hd hi hh (vp_in_nI hj hl) (by rw [nI_clamp (by omega)]; exact kk)
theorem vv_casN {i len j : Nat} {f : Nat → Int32} {x : Int32} (hd : decode mt.2.1 pc = .ok (.castore, 1)) (hi : i < n) (hh : h i = .inl (cp_cC G, len, .inl f)) (hj : j < len) (hl : len < 2 ^ 31) (kk : cp_V G mt d n0 z0 o h' n' z' (pc + 1) lv rest (va_up h i (.inl (cp_cC G, len, .inl (upd f j (vp_nar .char x))))) n z) :
    cp_V G mt d n0 z0 o h' n' z' pc lv (.int x :: .int (nI j) :: .ref (cp_b G + i) :: rest) h n z :=
  vv_cast hd hi hh (vp_in_nI hj hl) (by rw [nI_clamp (by omega)]; exact kk)
/-- the heap behind a making -/
theorem cp_P.make {H H1 : Heap} {e : cp_E} (hP : cp_P G h n H) (he : cp_at G (cp_b G + n) e H1) (z1 : H1.size = H.size + 1) (oq : ∀ q : Nat, q < H.size → H1[q]? = H[q]?) : cp_P G (va_up h n e) (n + 1) H1 := by
  have hz := hP.1
  refine ⟨by rw [z1, hz]; omega, fun j hj => ?_⟩
  by_cases hij : j = n
  · subst hij
    simp only [va_up, if_pos]
    exact he
  · simp only [va_up, if_neg hij]
    exact (hP.2 j (by omega)).kept (oq _ (by omega))
theorem cp_gm {e : cp_E} {k : Nat} {pc' : Nat} {st' : List Value} (kk : cp_V G mt d n0 z0 o h' n' z' pc' lv st' (va_up h n e) (n + 1) (z + k))
    (row : ∀ (p : Program) (l : Launch) (e0 : Env) (R : Room) (s : State) (m : MethodId) (args : Array Value) (below : List Frame) (meth : Method) (c : Code) (H : Heap) (locs : List Loc) (cells slots : Nat) (Q : State → Prop) (ls : Array Slot), cp_B G mt d n0 z0 n' z' p R s m args meth c → cp_H G mt.2.2.1 lv h n s H locs ls → cells + 1 ≤ R.cells → slots + k ≤ R.slots →
      (∀ (H1 : Heap), cp_at G (cp_b G + n) e H1 → H1.size = H.size + 1 → (∀ q : Nat, q < H.size → H1[q]? = H[q]?) → W p l e0 R s m args below meth c H1 locs (cells + 1) (slots + k) Q (F0 m pc' ls st')) → W p l e0 R s m args below meth c H locs cells slots Q (F0 m pc ls st)) :
    cp_V G mt d n0 z0 o h' n' z' pc lv st h n z := by
  have m1 := kk.1.1
  have m2 := kk.1.2
  refine ⟨⟨by omega, by omega⟩, fun p l e0 R s m args below meth c B h0 h1 H locs ls X => row p l e0 R s m args below meth c H locs _ _ _ ls B X ?_ ?_ (fun H1 he z1 oq => ?_)⟩
  · have := B.2.2.2.2.2.2.2.2.2.2.2.2.1; omega
  · have := B.2.2.2.2.2.2.2.2.2.2.2.2.2; omega
  · have hS : va_S (cp_A (cp_b G)) s.heap H1 locs := ⟨Nat.le_trans X.2.1.1 (by omega), fun q h1 h2 => (oq q (Nat.lt_of_lt_of_le h1 X.2.1.1)).trans (X.2.1.2.1 q h1 h2), X.2.1.2.2⟩
    have w := kk.2 p l e0 R s m args below meth c B ⟨by omega, h0.2⟩ (by omega) H1 locs ls ⟨X.1.make he z1 oq, hS, X.2.2⟩
    rw [show n + 1 - n0 = n - n0 + 1 by omega, show z + k - z0 = z - z0 + k by omega] at w
    exact w
theorem vv_new {ci idx N : Nat} (hd : decode mt.2.1 pc = .ok (.new idx, 3)) (hC : cp_ok ci) (hl : Cond.classLink mt.1.cls idx (cp_R ci) ∈ cp_WS) (hN : cp_N ci = N) (kk : cp_V G mt d n0 z0 o h' n' z' (pc + 3) lv (.ref (cp_b G + n) :: rest) (va_up h n (.inr (ci, fun k => defaultValue (cp_ty ci k)))) (n + 1) (z + N)) :
    cp_V G mt d n0 z0 o h' n' z' pc lv rest h n z := by
  subst hN
  exact cp_gm kk (fun p l e0 R s m args below meth c H locs cells slots Q ls B X hc hs w => by
    obtain ⟨hci, hu, hty, hnm, hins, hini⟩ := hC
    obtain ⟨hx, hb, -, -, -, hown, -, hts, hT, -⟩ := B
    have hKn := hT.K.1 ci _ (cp_cl_at hci)
    refine W.newcK hx hb hown (hts _ hl) (hts _ hins) (hts _ hini) rfl hd hc hs hKn.2.1 X.1.1 fun H1 kC hkC e1 z1 o1 => ?_
    refine w H1 (fun r hr => ?_) (by rw [z1, X.1.1]) (fun q hq => o1 q (by rw [← X.1.1]; exact hq))
    obtain rfl : r = (cp_R ci, cp_F ci, cp_N ci) := Option.some.inj (hr.symm.trans (cp_cl_at hci))
    refine (u_born (cp_ty ci) hts hu hKn hkC e1 hty).to (fun j hj => ?_)
    simp [vp_V, hj])
theorem vv_newaI {j : Int32} {N : Nat} (hd : decode mt.2.1 pc = .ok (.newarray .int, 2)) (hw : Cond.arrayClass .int ∈ cp_WS) (hn : ¬ j < 0) (hN : j.toNatClampNeg = N) (hbytes : N * componentBytes .int ≤ 536870912) (kk : cp_V G mt d n0 z0 o h' n' z' (pc + 2) lv (.ref (cp_b G + n) :: rest) (va_up h n (.inl (cp_cI G, N, .inl (fun _ => 0)))) (n + 1) (z + N)) :
    cp_V G mt d n0 z0 o h' n' z' pc lv (.int j :: rest) h n z :=
  cp_gm kk (fun p l e0 R s m args below meth c H locs cells slots Q ls B X hc hs w => by
    obtain ⟨hx, hb, -, -, -, hown, -, hts, hT, -⟩ := B
    refine va_newaK (atype := .int) hx hb (hts _ hw) rfl hd rfl hn hN hbytes hc hs X.1.1 fun H1 cA e1 z1 o1 hAr hNm => ?_
    have hcA : cA = cp_cI G := Option.some.inj (hNm.symm.trans (hT.K.2 0 _ rfl).2)
    subst hcA
    refine w H1 ?_ (by rw [z1, X.1.1]) (fun q hq => o1 q (by rw [← X.1.1]; exact hq))
    show H1[cp_b G + n]? = some (vp_cell _ _)
    rw [e1, vp_cell_i]
    rfl)
theorem vv_newaC {j : Int32} {N : Nat} (hd : decode mt.2.1 pc = .ok (.newarray .char, 2)) (hw : Cond.arrayClass .char ∈ cp_WS) (hn : ¬ j < 0) (hN : j.toNatClampNeg = N) (hbytes : N * componentBytes .char ≤ 536870912) (kk : cp_V G mt d n0 z0 o h' n' z' (pc + 2) lv (.ref (cp_b G + n) :: rest) (va_up h n (.inl (cp_cC G, N, .inl (fun _ => 0)))) (n + 1) (z + N)) :
    cp_V G mt d n0 z0 o h' n' z' pc lv (.int j :: rest) h n z :=
  cp_gm kk (fun p l e0 R s m args below meth c H locs cells slots Q ls B X hc hs w => by
    obtain ⟨hx, hb, -, -, -, hown, -, hts, hT, -⟩ := B
    refine va_newaK (atype := .char) hx hb (hts _ hw) rfl hd rfl hn hN hbytes hc hs X.1.1 fun H1 cA e1 z1 o1 hAr hNm => ?_
    have hcA : cA = cp_cC G := Option.some.inj (hNm.symm.trans (hT.K.2 1 _ rfl).2)
    subst hcA
    refine w H1 ?_ (by rw [z1, X.1.1]) (fun q hq => o1 q (by rw [← X.1.1]; exact hq))
    show H1[cp_b G + n]? = some (vp_cell _ _)
    rw [e1, vp_cell_i]
    rfl)
theorem vv_newaL {j : Int32} {N : Nat} (hd : decode mt.2.1 pc = .ok (.newarray .long, 2)) (hw : Cond.arrayClass .long ∈ cp_WS) (hn : ¬ j < 0) (hN : j.toNatClampNeg = N) (hbytes : N * componentBytes .long ≤ 536870912) (kk : cp_V G mt d n0 z0 o h' n' z' (pc + 2) lv (.ref (cp_b G + n) :: rest) (va_up h n (.inl (cp_cL G, N, .inr (.inl (fun _ => 0))))) (n + 1) (z + N)) :
    cp_V G mt d n0 z0 o h' n' z' pc lv (.int j :: rest) h n z :=
  cp_gm kk (fun p l e0 R s m args below meth c H locs cells slots Q ls B X hc hs w => by
    obtain ⟨hx, hb, -, -, -, hown, -, hts, hT, -⟩ := B
    refine va_newaK (atype := .long) hx hb (hts _ hw) rfl hd rfl hn hN hbytes hc hs X.1.1 fun H1 cA e1 z1 o1 hAr hNm => ?_
    have hcA : cA = cp_cL G := Option.some.inj (hNm.symm.trans (hT.K.2 2 _ rfl).2)
    subst hcA
    refine w H1 ?_ (by rw [z1, X.1.1]) (fun q hq => o1 q (by rw [← X.1.1]; exact hq))
    show H1[cp_b G + n]? = some (vp_cell _ _)
    rw [e1, vp_cell_l]
    rfl)
theorem vv_newaE {idx : Nat} {j : Int32} {N : Nat} (hd : decode mt.2.1 pc = .ok (.anewarray idx, 3)) (hl : Cond.classLink mt.1.cls idx "ConditionedProofs$Entry" ∈ cp_WS) (hn : ¬ j < 0) (hN : j.toNatClampNeg = N) (hbytes : N * 4 ≤ 536870912) (kk : cp_V G mt d n0 z0 o h' n' z' (pc + 3) lv (.ref (cp_b G + n) :: rest) (va_up h n (.inl (cp_cE G, N, .inr (.inr (.inr (.inr (fun _ => none))))))) (n + 1) (z + N)) :
    cp_V G mt d n0 z0 o h' n' z' pc lv (.int j :: rest) h n z :=
  cp_gm kk (fun p l e0 R s m args below meth c H locs cells slots Q ls B X hc hs w => by
    obtain ⟨hx, hb, -, -, -, hown, -, hts, hT, -⟩ := B
    subst hN
    refine W.anew hx hb hown (hts _ hl) (va_AO.use (va_AO.moved hT.2.1.alike hT.1.2.2.1)) rfl hd rfl hn hbytes hc hs fun cA kA comp f1 f2 f3 f4 => ?_
    obtain ⟨-, -, -, -, -, f5⟩ := (hT.K.2 3 _ rfl).2
    have hcA : cA = cp_cE G := Option.some.inj (f1.symm.trans f5)
    subst hcA
    generalize hH1 : H.push ({ cls := cp_cE G, slots := Array.replicate j.toNatClampNeg .null, vm := .none } : Cell) = H1
    have z1 : H1.size = H.size + 1 := by rw [← hH1, Array.size_push]
    have e1 : H1[H.size]? = some (arrV (cp_cE G) j.toNatClampNeg (fun _ => .null)) := by rw [← hH1, Array.getElem?_push_size, ← arrV_new]
    have o1 : ∀ q : Nat, q < H.size → H1[q]? = H[q]? := fun q hq => by rw [← hH1, Array.getElem?_push, if_neg (Nat.ne_of_lt hq)]
    have w1 := w H1 (by
      show H1[cp_b G + n]? = some (vp_cell _ _)
      rw [← X.1.1, e1, vp_cell_q]
      rfl) z1 o1
    rw [X.1.1]
    exact w1)
/-- Object's constructor -/
theorem vv_obj {idx : Nat} {a : Nat} (hd : decode mt.2.1 pc = .ok (.invokespecial idx, 3)) (hl : Cond.methodLink mt.1.cls idx Lib.objectInit ∈ cp_WS) (hi : Cond.instanceMethod Lib.objectInit ∈ cp_WS) (hc : Cond.code Lib.objectInit ⟨#[0xb1]⟩ 1 none ∈ cp_WS) (hd1 : 1 ≤ d) (hr : (rest.map fun v => v.category).sum ≤ 8) (kk : cp_V G mt d n0 z0 o h' n' z' (pc + 3) lv rest h n z) :
    cp_V G mt d n0 z0 o h' n' z' pc lv (.ref a :: rest) h n z :=
  cp_go kk (fun p l e R s m args below meth c H locs cells slots Q ls B X w => by
    obtain ⟨hx, hb, hml, -, -, hown, -, hts, hT, -, hf, hlo, -⟩ := B
    refine W.objInit hx hb hown (hts _ hl) (hts _ hi) (hts _ hc) rfl (by rw [hml]; exact X.2.2.1) rfl hd (by omega) ?_ w
    have := lv_room (m := m) (pc := pc) (ls := ls) (rest := .ref a :: rest) hr
    omega)
/-- the ends -/
theorem cp_fin {v : Option Value} {p : Program} {s : State} {m : MethodId} {args : Array Value} {meth : Method} {c : Code} {R : Room} {H : Heap} {locs : List Loc} {ls : Array Slot} {n' z' : Nat} (B : cp_B G mt d n0 z0 n' z' p R s m args meth c) (X : cp_H G mt.2.2.1 lv h n s H locs ls) (t : State) (ht : t.heap = H) (hW : s.WarmedH t.vm) : cp_Qc G v h n args s (.returned v) t := by
  have hT := B.2.2.2.2.2.2.2.2.1
  have hz := B.2.2.2.2.2.2.2.2.2.1
  refine ⟨rfl, by rw [ht]; exact X.1, ⟨hT.1, State.WarmedH.trans hT.2.1 hW, fun q hq => ?_⟩, X.2.1.F ht⟩
  rw [ht, X.2.1.2.1 q (by omega) (by show ¬ cp_b G ≤ q; omega)]
  exact hT.2.2 q hq
theorem vv_iret {v : Int32} (hd : decode mt.2.1 pc = .ok (.ireturn, 1)) (hr : mt.2.2.2 = some .int) : cp_V G mt d n0 z0 (.inl (some (.int v))) h n z pc lv [.int v] h n z :=
  ⟨⟨Nat.le_refl _, Nat.le_refl _⟩, fun p l e R s m args below meth c B h0 h1 H locs ls X => W.iret B.1 B.2.1 (B.2.2.2.1.trans hr) (cp_fin B X) X.2.1.2.2 hd B.2.2.2.2.1⟩
theorem vv_zret {v : Int32} {ty : FieldType} (hd : decode mt.2.1 pc = .ok (.ireturn, 1)) (hr : mt.2.2.2 = some ty) (hn : narrow ty (.int v) = .int v) : cp_V G mt d n0 z0 (.inl (some (.int v))) h n z pc lv [.int v] h n z :=
  ⟨⟨Nat.le_refl _, Nat.le_refl _⟩, fun p l e R s m args below meth c B h0 h1 H locs ls X => W.zret B.1 B.2.1 (B.2.2.2.1.trans hr) hn (cp_fin B X) X.2.1.2.2 hd B.2.2.2.2.1⟩
theorem vv_aret {v : Value} {rt : FieldType} (hd : decode mt.2.1 pc = .ok (.areturn, 1)) (hr : mt.2.2.2 = some rt) (hrt : (∃ n, rt = .object n) ∨ ∃ t, rt = .array t) (hv : cp_isr v) : cp_V G mt d n0 z0 (.inl (some v)) h n z pc lv [v] h n z :=
  ⟨⟨Nat.le_refl _, Nat.le_refl _⟩, fun p l e R s m args below meth c B h0 h1 H locs ls X => W.aret B.1 B.2.1 (B.2.2.2.1.trans hr) hrt hv (cp_fin B X) X.2.1.2.2 hd B.2.2.2.2.1⟩
theorem vv_vret (hd : decode mt.2.1 pc = .ok (.return_, 1)) (hr : mt.2.2.2 = none) : cp_V G mt d n0 z0 (.inl none) h n z pc lv [] h n z :=
  ⟨⟨Nat.le_refl _, Nat.le_refl _⟩, fun p l e R s m args below meth c B h0 h1 H locs ls X => W.vret B.1 B.2.1 (B.2.2.2.1.trans hr) (cp_fin B X) X.2.1.2.2 hd B.2.2.2.2.1⟩
end CPMk
