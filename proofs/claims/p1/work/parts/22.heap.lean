/-! ===== rows for the heap ===== -/
section CPHp
variable {G : cp_G} {mt : cp_M} {d n0 z0 : Nat} {o : cp_O} {h' : Nat → cp_E} {n' z' pc : Nat} {lv : List (Nat × Value)} {st rest : List Value} {h : Nat → cp_E} {n z : Nat}
theorem cp_fs_at {N k : Nat} {g : Nat → Value} (hk : k < N) : ((List.range N).map g)[k]? = some (g k) := by simp [hk]
theorem cp_fs_set {N k : Nat} {g : Nat → Value} {v : Value} : ((List.range N).map g).set k v = (List.range N).map (va_up g k v) := by
  apply List.ext_getElem?
  intro j
  rw [List.getElem?_set]
  by_cases hj : j < N
  · by_cases hkj : k = j
    · subst hkj
      simp [hj, va_up]
    · rw [if_neg hkj]
      simp [hj, va_up, Ne.symm hkj]
  · by_cases hkj : k = j
    · subst hkj; simp [hj]
    · rw [if_neg hkj]; simp [hj]
theorem vv_getf {i ci k idx : Nat} {g : Nat → Value} {v : Value} (hd : decode mt.2.1 pc = .ok (.getfield idx, 3)) (hF : cp_fl mt.1.cls idx ci k) (hi : i < n) (hh : h i = .inr (ci, g)) (hv : g k = v) (kk : cp_V G mt d n0 z0 o h' n' z' (pc + 3) lv (v :: rest) h n z) :
    cp_V G mt d n0 z0 o h' n' z' pc lv (.ref (cp_b G + i) :: rest) h n z :=
  cp_go kk (fun p l e R s m args below meth c H locs cells slots Q ls B X w => by
    obtain ⟨⟨hci, hu, hty, hnm, -, -⟩, hk, hl⟩ := hF
    obtain ⟨hx, hb, -, -, -, hown, -, hts, hT, -⟩ := B
    exact va_get (D := cp_D G) (ci := ci) (T := cp_F ci) (N := cp_N ci) hx hb hts hu hown hT.K (X.1.o hi hh hci) 0 rfl (cp_cl_at hci) k hk (hts _ hl) (fun _ h9 => h9) (by rw [cp_fs_at hk]; exact congrArg some hv) hd w)
/-- the heap behind a put, its size too -/
theorem cp_P.put {H H1 : Heap} {i : Nat} {e : cp_E} (hP : cp_P G h n H) (hi : i < n) (he : cp_at G (cp_b G + i) e H1) (z1 : H1.size = H.size) (oq : ∀ q : Nat, q ≠ cp_b G + i → H1[q]? = H[q]?) : cp_P G (va_up h i e) n H1 := by
  refine ⟨by rw [z1]; exact hP.1, fun j hj => ?_⟩
  by_cases hij : j = i
  · subst hij
    simp only [va_up, if_pos]
    exact he
  · simp only [va_up, if_neg hij]
    exact (hP.2 j hj).kept (oq _ (by omega))
/-- a put that keeps the number of cells -/
theorem cp_gp {i : Nat} {e : cp_E} {pc' : Nat} {st' : List Value} (hi : i < n) (kk : cp_V G mt d n0 z0 o h' n' z' pc' lv st' (va_up h i e) n z)
    (row : ∀ (p : Program) (l : Launch) (e0 : Env) (R : Room) (s : State) (m : MethodId) (args : Array Value) (below : List Frame) (meth : Method) (c : Code) (H : Heap) (locs : List Loc) (cells slots : Nat) (Q : State → Prop) (ls : Array Slot), cp_B G mt d n0 z0 n' z' p R s m args meth c → cp_H G mt.2.2.1 lv h n s H locs ls →
      (∀ (H1 : Heap) (j : Nat), cp_at G (cp_b G + i) e H1 → H1.size = H.size → (∀ q : Nat, q ≠ cp_b G + i → H1[q]? = H[q]?) → W p l e0 R s m args below meth c H1 (locs ++ [⟨cp_b G + i, j⟩]) cells slots Q (F0 m pc' ls st')) → W p l e0 R s m args below meth c H locs cells slots Q (F0 m pc ls st)) :
    cp_V G mt d n0 z0 o h' n' z' pc lv st h n z :=
  ⟨kk.1, fun p l e0 R s m args below meth c B h0 h1 H locs ls X => row p l e0 R s m args below meth c H locs _ _ _ ls B X (fun H1 j he z1 oq => kk.2 p l e0 R s m args below meth c B h0 h1 H1 _ ls ⟨X.1.put hi he z1 oq, X.2.1.put z1 oq (Nat.le_add_right _ _), X.2.2⟩)⟩
theorem vv_putf {i ci k idx : Nat} {g : Nat → Value} {v : Value} (hd : decode mt.2.1 pc = .ok (.putfield idx, 3)) (hF : cp_fl mt.1.cls idx ci k) (hi : i < n) (hh : h i = .inr (ci, g)) (hfin : (cp_F ci k).2.2.2 = false) (hn : narrow (cp_ty ci k) v = v) (hfit : fits (cp_ty ci k) v = true) (kk : cp_V G mt d n0 z0 o h' n' z' (pc + 3) lv rest (va_up h i (.inr (ci, va_up g k v))) n z) :
    cp_V G mt d n0 z0 o h' n' z' pc lv (v :: .ref (cp_b G + i) :: rest) h n z :=
  cp_gp hi kk (fun p l e0 R s m args below meth c H locs cells slots Q ls B X w => by
    obtain ⟨⟨hci, hu, hty, hnm, -, -⟩, hk, hl⟩ := hF
    obtain ⟨hx, hb, -, -, -, hown, -, hts, hT, -⟩ := B
    have hK := hT.K
    have hap := va_apart (own := mt.1.cls) hts hu (cp_ty ci) hty hnm hK (cp_cl_at hci)
    obtain ⟨r, h1, cell, q1, q2, q3, q4⟩ := X.1.o hi hh hci 0 _ rfl
    have hr : r = (cp_R ci, cp_F ci, cp_N ci) := Option.some.inj (h1.symm.trans (cp_cl_at hci))
    subst hr
    obtain ⟨hS, hfc, kC, hkC, hkind⟩ := hK.1 ci _ (cp_cl_at hci)
    obtain ⟨cf, kf, fi, f, hif, hsl⟩ := hS k hk
    have hlay := hts _ (hu _ (u_in_lay hk))
    unfold u_lay at hlay
    rw [if_neg (by rw [hfin]; decide)] at hlay
    have hst := (u_facts hfc hkC (u_lays hts hu hk) hif).1
    have h6 := u_store hfc hkC hkind hlay hif (hty k hk) hn hfit
    refine W.putK hx hb (f := f) ⟨hown, hts _ hl, ⟨_, _, _, hif⟩, hst⟩ (by rw [q2]; exact h6) q1 q3 (by rw [hsl]; exact k2_hasslot (q4 k hk)) rfl rfl hd fun H' e1 e2 e3 => ?_
    rw [hsl] at e1
    refine w H' _ (fun r hr => ?_) e2 e3
    obtain rfl : r = (cp_R ci, cp_F ci, cp_N ci) := Option.some.inj (hr.symm.trans (cp_cl_at hci))
    refine t_OB.to (V := updV (vp_V ((List.range (cp_N ci)).map g)) k v) ⟨_, e1, q2, q3, t_set q4 hap hk v⟩ (fun j _ => ?_)
    rw [vp_updV_set (by simpa using hk) v j, cp_fs_set])
theorem vv_putF {i ci k idx : Nat} {g : Nat → Value} {v : Value} (hd : decode mt.2.1 pc = .ok (.putfield idx, 3)) (hF : cp_fl mt.1.cls idx ci k) (hi : i < n) (hh : h i = .inr (ci, g)) (hfin : (cp_F ci k).2.2.2 = true) (hin : mt.1.name = "<init>") (hdecl : (cp_F ci k).1 = mt.1.cls) (hn : narrow (cp_ty ci k) v = v) (hfit : fits (cp_ty ci k) v = true) (kk : cp_V G mt d n0 z0 o h' n' z' (pc + 3) lv rest (va_up h i (.inr (ci, va_up g k v))) n z) :
    cp_V G mt d n0 z0 o h' n' z' pc lv (v :: .ref (cp_b G + i) :: rest) h n z :=
  cp_gp hi kk (fun p l e0 R s m args below meth c H locs cells slots Q ls B X w => by
    obtain ⟨⟨hci, hu, hty, hnm, -, -⟩, hk, hl⟩ := hF
    obtain ⟨hx, hb, -, -, -, hown, hname, hts, hT, -⟩ := B
    have hK := hT.K
    have hap := va_apart (own := mt.1.cls) hts hu (cp_ty ci) hty hnm hK (cp_cl_at hci)
    obtain ⟨r, h1, cell, q1, q2, q3, q4⟩ := X.1.o hi hh hci 0 _ rfl
    have hr : r = (cp_R ci, cp_F ci, cp_N ci) := Option.some.inj (h1.symm.trans (cp_cl_at hci))
    subst hr
    obtain ⟨hS, hfc, kC, hkC, hkind⟩ := hK.1 ci _ (cp_cl_at hci)
    obtain ⟨cf, kf, fi, f, hif, hsl⟩ := hS k hk
    have hlay := hts _ (hu _ (u_in_lay hk))
    unfold u_lay at hlay
    rw [if_pos hfin] at hlay
    have hst := (u_facts hfc hkC (u_lays hts hu hk) hif).1
    have hcf : m.cls = cf := by
      obtain ⟨_, _, c', _, _, _, -, -, hf', -, -, -, hown2, -⟩ := Cond.laysFinal_spec hlay
      have e1 : c' = cf := by have := hif.symm.trans hf'; simp at this; exact this.1.symm
      rw [hdecl] at hown2
      rw [← e1]; exact Option.some.inj (hown.symm.trans hown2)
    have h6 := u_fits hfc hkC hkind (Or.inr hlay) hif (hty k hk) hn hfit
    refine W.putFinK hx hb hown (hts _ hl) hif hst hcf (hname.1.trans hin) (by rw [q2]; exact h6) q1 q3 (by rw [hsl]; exact k2_hasslot (q4 k hk)) rfl rfl hd fun H' e1 e2 e3 => ?_
    rw [hsl] at e1
    refine w H' _ (fun r hr => ?_) e2 e3
    obtain rfl : r = (cp_R ci, cp_F ci, cp_N ci) := Option.some.inj (hr.symm.trans (cp_cl_at hci))
    refine t_OB.to (V := updV (vp_V ((List.range (cp_N ci)).map g)) k v) ⟨_, e1, q2, q3, t_set q4 hap hk v⟩ (fun j _ => ?_)
    rw [vp_updV_set (by simpa using hk) v j, cp_fs_set])
end CPHp
