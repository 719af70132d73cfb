/-! ===== rows over the class's state ===== -/
def kV (G : cp_G) (H : Nat → cp_E) (mt : cp_M) (d n0 z0 : Nat) (o : cp_O) (K' : cp_K) (pc : Nat) (lv : List (Nat × Value)) (st : List Value) (K : cp_K) : Prop := ∀ h z, CK G H h z K → ∃ h' z', CK G H h' z' K' ∧ cp_V G mt d n0 z0 o h' K'.1.1 z' pc lv st h K.1.1 z
section CPKV
variable {G : cp_G} {H : Nat → cp_E} {mt mk : cp_M} {d n0 z0 : Nat} {o : cp_O} {K' K K1 : cp_K} {pc pc' : Nat} {lv lv' : List (Nat × Value)} {st st' rest : List Value}
theorem kv_m (f : ∀ h z h' z', CK G H h z K → cp_V G mt d n0 z0 o h' K'.1.1 z' pc' lv' st' h K.1.1 z → cp_V G mt d n0 z0 o h' K'.1.1 z' pc lv st h K.1.1 z) (k : kV G H mt d n0 z0 o K' pc' lv' st' K) : kV G H mt d n0 z0 o K' pc lv st K := fun h z C => by
  obtain ⟨h', z', C', v⟩ := k h z C
  exact ⟨h', z', C', f h z h' z' C v⟩
/-- an instruction that looks at no heap -/
theorem kv_p (f : ∀ h z h' z' n n', cp_V G mt d n0 z0 o h' n' z' pc' lv' st' h n z → cp_V G mt d n0 z0 o h' n' z' pc lv st h n z) (k : kV G H mt d n0 z0 o K' pc' lv' st' K) : kV G H mt d n0 z0 o K' pc lv st K := fun h z C => by
  obtain ⟨h', z', C', v⟩ := k h z C
  exact ⟨h', z', C', f h z h' z' _ _ v⟩
theorem kv_e (f : ∀ h z, cp_V G mt d n0 z0 o h K.1.1 z pc lv st h K.1.1 z) : kV G H mt d n0 z0 o K pc lv st K := fun h z C => ⟨h, z, C, f h z⟩
theorem kv_h (f : ∀ h z, CK G H h z K → ∃ h1 z1, CK G H h1 z1 K1 ∧ ∀ h' z', cp_V G mt d n0 z0 o h' K'.1.1 z' pc' lv' st' h1 K1.1.1 z1 → cp_V G mt d n0 z0 o h' K'.1.1 z' pc lv st h K.1.1 z) (k : kV G H mt d n0 z0 o K' pc' lv' st' K1) : kV G H mt d n0 z0 o K' pc lv st K := fun h z C => by
  obtain ⟨h1, z1, C1, g⟩ := f h z C
  obtain ⟨h', z', C', v⟩ := k h1 z1 C1
  exact ⟨h', z', C', g h' z' v⟩
theorem CK.at {h : Nat → cp_E} {z p c : Nat} (C : CK G H h z K) (hp : ko K p c) (hc : c < 14) : h p = .inr (c, kg G K p c) := by
  have h1 := hp.tg
  have h2 := C.2.2.1 p (hp.lt C.1) (by omega)
  rw [h1] at h2
  exact h2
theorem kg_I {p c k : Nat} {x : Int32} (h1 : k_fx c k = 0) (h2 : k_ir c k = 0) : va_up (kg G K p c) k (.int x) = kg G (kI K p k x) p c := by
  funext q
  by_cases hq : q = k
  · subst hq; simp [kg, kI, va_up, h1, h2]
  · simp [kg, kI, va_up, hq]
theorem kg_P {p c k q : Nat} (h1 : k_fx c k = 0) (h2 : k_ir c k = 1) : va_up (kg G K p c) k (va_rf (kr G q)) = kg G (kP K p k q) p c := by
  funext j
  by_cases hj : j = k
  · subst hj; simp [kg, kP, va_up, h1, h2]
  · simp [kg, kP, va_up, hj]
theorem ko.hi {p c : Nat} (h : ko K p c) (hc : c < 14) : p < 26 ∨ 86 ≤ p := by
  rcases h with h | h
  · by_cases h1 : p < 26
    · exact Or.inl h1
    · have := k_tab_hi (i := p) (by omega)
      omega
  · exact Or.inr h.1
theorem CK.pi {h : Nat → cp_E} {z p c k : Nat} {x : Int32} (C : CK G H h z K) (hp : ko K p c) (hc : c < 14) (h1 : k_fx c k = 0) (h2 : k_ir c k = 0) : CK G H (va_up h p (.inr (c, va_up (kg G K p c) k (.int x)))) z (kI K p k x) := by
  rw [kg_I h1 h2]
  exact C.obj hp hc (hp.hi hc) rfl (fun q hq => cp_up_ne hq) (fun q hq => rfl) rfl
theorem CK.pr {h : Nat → cp_E} {z p c k q : Nat} (C : CK G H h z K) (hp : ko K p c) (hc : c < 14) (h1 : k_fx c k = 0) (h2 : k_ir c k = 1) : CK G H (va_up h p (.inr (c, va_up (kg G K p c) k (va_rf (kr G q))))) z (kP K p k q) := by
  rw [kg_P h1 h2]
  exact C.obj hp hc (hp.hi hc) rfl (fun q hq => rfl) (fun q hq => cp_up_ne hq) rfl
/-- fields are read -/
theorem kw_gi {p c k idx : Nat} (hd : decode mt.2.1 pc = .ok (.getfield idx, 3)) (hF : cp_fl mt.1.cls idx c k) (hp : ko K p c) (h1 : k_fx c k = 0) (h2 : k_ir c k = 0) (kk : kV G H mt d n0 z0 o K' (pc + 3) lv (.int (K.2.1 p k) :: rest) K) : kV G H mt d n0 z0 o K' pc lv (.ref (cp_b G + p) :: rest) K :=
  kv_m (fun _ _ _ _ C v => vv_getf hd hF (hp.lt C.1) (C.at hp hF.1.1) (by unfold kg; rw [if_pos h1, if_pos h2]) v) kk
theorem kw_gr {p c k idx : Nat} (hd : decode mt.2.1 pc = .ok (.getfield idx, 3)) (hF : cp_fl mt.1.cls idx c k) (hp : ko K p c) (h1 : k_fx c k = 0) (h2 : k_ir c k = 1) (kk : kV G H mt d n0 z0 o K' (pc + 3) lv (va_rf (kr G (K.2.2.1 p k)) :: rest) K) : kV G H mt d n0 z0 o K' pc lv (.ref (cp_b G + p) :: rest) K :=
  kv_m (fun _ _ _ _ C v => vv_getf hd hF (hp.lt C.1) (C.at hp hF.1.1) (by unfold kg; rw [if_pos h1, if_neg (by omega)]) v) kk
theorem kw_gf {p c k idx : Nat} (q : Nat) (hd : decode mt.2.1 pc = .ok (.getfield idx, 3)) (hF : cp_fl mt.1.cls idx c k) (hp : ko K p c) (h1 : k_fx c k = q) (h2 : q ≠ 0) (kk : kV G H mt d n0 z0 o K' (pc + 3) lv (.ref (cp_b G + q) :: rest) K) : kV G H mt d n0 z0 o K' pc lv (.ref (cp_b G + p) :: rest) K :=
  kv_m (fun _ _ _ _ C v => vv_getf hd hF (hp.lt C.1) (C.at hp hF.1.1) (by unfold kg; rw [if_neg (by rw [h1]; exact h2), h1]) v) kk
theorem kw_giN {p c k idx : Nat} (hd : decode mt.2.1 pc = .ok (.getfield idx, 3)) (hF : cp_fl mt.1.cls idx c k) (hp : nd K p c) (h1 : k_fx c k = 0) (h2 : k_ir c k = 0) (kk : kV G H mt d n0 z0 o K' (pc + 3) lv (.int (K.2.1 p k) :: rest) K) : kV G H mt d n0 z0 o K' pc lv (va_rf (kr G p) :: rest) K := by
  rw [hp.rf]
  exact kw_gi hd hF (Or.inr hp) h1 h2 kk
theorem kw_grN {p c k idx : Nat} (hd : decode mt.2.1 pc = .ok (.getfield idx, 3)) (hF : cp_fl mt.1.cls idx c k) (hp : nd K p c) (h1 : k_fx c k = 0) (h2 : k_ir c k = 1) (kk : kV G H mt d n0 z0 o K' (pc + 3) lv (va_rf (kr G (K.2.2.1 p k)) :: rest) K) : kV G H mt d n0 z0 o K' pc lv (va_rf (kr G p) :: rest) K := by
  rw [hp.rf]
  exact kw_gr hd hF (Or.inr hp) h1 h2 kk
/-- fields are put -/
theorem kw_pi {p c k idx : Nat} {x : Int32} (hd : decode mt.2.1 pc = .ok (.putfield idx, 3)) (hF : cp_fl mt.1.cls idx c k) (hp : ko K p c) (h1 : k_fx c k = 0) (h2 : k_ir c k = 0) (hfin : (cp_F c k).2.2.2 = false) (hx : narrow (cp_ty c k) (.int x) = .int x) (hfit : fits (cp_ty c k) (.int x) = true) (kk : kV G H mt d n0 z0 o K' (pc + 3) lv rest (kI K p k x)) : kV G H mt d n0 z0 o K' pc lv (.int x :: .ref (cp_b G + p) :: rest) K :=
  kv_h (fun _ _ C => ⟨_, _, C.pi hp hF.1.1 h1 h2, fun _ _ v => vv_putf hd hF (hp.lt C.1) (C.at hp hF.1.1) hfin hx hfit v⟩) kk
theorem kw_pr {p c k q idx : Nat} (hd : decode mt.2.1 pc = .ok (.putfield idx, 3)) (hF : cp_fl mt.1.cls idx c k) (hp : ko K p c) (h1 : k_fx c k = 0) (h2 : k_ir c k = 1) (hfin : (cp_F c k).2.2.2 = false) (hx : ∀ v, cp_isr v → narrow (cp_ty c k) v = v ∧ fits (cp_ty c k) v = true) (kk : kV G H mt d n0 z0 o K' (pc + 3) lv rest (kP K p k q)) : kV G H mt d n0 z0 o K' pc lv (va_rf (kr G q) :: .ref (cp_b G + p) :: rest) K :=
  kv_h (fun _ _ C => ⟨_, _, C.pr hp hF.1.1 h1 h2, fun _ _ v => vv_putf hd hF (hp.lt C.1) (C.at hp hF.1.1) hfin (hx _ (cp_isr_rf _)).1 (hx _ (cp_isr_rf _)).2 v⟩) kk
theorem kw_piN {p c k idx : Nat} {x : Int32} (hd : decode mt.2.1 pc = .ok (.putfield idx, 3)) (hF : cp_fl mt.1.cls idx c k) (hp : nd K p c) (h1 : k_fx c k = 0) (h2 : k_ir c k = 0) (hfin : (cp_F c k).2.2.2 = false) (hx : narrow (cp_ty c k) (.int x) = .int x) (hfit : fits (cp_ty c k) (.int x) = true) (kk : kV G H mt d n0 z0 o K' (pc + 3) lv rest (kI K p k x)) : kV G H mt d n0 z0 o K' pc lv (.int x :: va_rf (kr G p) :: rest) K := by
  rw [hp.rf]
  exact kw_pi hd hF (Or.inr hp) h1 h2 hfin hx hfit kk
theorem kw_prN {p c k q idx : Nat} (hd : decode mt.2.1 pc = .ok (.putfield idx, 3)) (hF : cp_fl mt.1.cls idx c k) (hp : nd K p c) (h1 : k_fx c k = 0) (h2 : k_ir c k = 1) (hfin : (cp_F c k).2.2.2 = false) (hx : ∀ v, cp_isr v → narrow (cp_ty c k) v = v ∧ fits (cp_ty c k) v = true) (kk : kV G H mt d n0 z0 o K' (pc + 3) lv rest (kP K p k q)) : kV G H mt d n0 z0 o K' pc lv (va_rf (kr G q) :: va_rf (kr G p) :: rest) K := by
  rw [show va_rf (kr G p) = .ref (cp_b G + p) from hp.rf]
  exact kw_pr hd hF (Or.inr hp) h1 h2 hfin hx kk
/-- final fields, in a constructor -/
theorem kw_piF {p c k idx : Nat} {x : Int32} (hd : decode mt.2.1 pc = .ok (.putfield idx, 3)) (hF : cp_fl mt.1.cls idx c k) (hp : nd K p c) (h1 : k_fx c k = 0) (h2 : k_ir c k = 0) (hfin : (cp_F c k).2.2.2 = true) (hin : mt.1.name = "<init>") (hdecl : (cp_F c k).1 = mt.1.cls) (hx : narrow (cp_ty c k) (.int x) = .int x) (hfit : fits (cp_ty c k) (.int x) = true) (kk : kV G H mt d n0 z0 o K' (pc + 3) lv rest (kI K p k x)) : kV G H mt d n0 z0 o K' pc lv (.int x :: va_rf (kr G p) :: rest) K := by
  rw [hp.rf]
  exact kv_h (fun _ _ C => ⟨_, _, C.pi (Or.inr hp) hF.1.1 h1 h2, fun _ _ v => vv_putF hd hF hp.2.1 (C.at (Or.inr hp) hF.1.1) hfin hin hdecl hx hfit v⟩) kk
theorem kw_prF {p c k q idx : Nat} (hd : decode mt.2.1 pc = .ok (.putfield idx, 3)) (hF : cp_fl mt.1.cls idx c k) (hp : nd K p c) (h1 : k_fx c k = 0) (h2 : k_ir c k = 1) (hfin : (cp_F c k).2.2.2 = true) (hin : mt.1.name = "<init>") (hdecl : (cp_F c k).1 = mt.1.cls) (hx : ∀ v, cp_isr v → narrow (cp_ty c k) v = v ∧ fits (cp_ty c k) v = true) (kk : kV G H mt d n0 z0 o K' (pc + 3) lv rest (kP K p k q)) : kV G H mt d n0 z0 o K' pc lv (va_rf (kr G q) :: va_rf (kr G p) :: rest) K := by
  rw [show va_rf (kr G p) = .ref (cp_b G + p) from hp.rf]
  exact kv_h (fun _ _ C => ⟨_, _, C.pr (Or.inr hp) hF.1.1 h1 h2, fun _ _ v => vv_putF hd hF hp.2.1 (C.at (Or.inr hp) hF.1.1) hfin hin hdecl (hx _ (cp_isr_rf _)).1 (hx _ (cp_isr_rf _)).2 v⟩) kk
/-- arrays of characters -/
theorem kw_cl {p len : Nat} {j : Int32} (hd : decode mt.2.1 pc = .ok (.caload, 1)) (hp : (p, len) ∈ k_cs) (hin : vp_in j len) (kk : kV G H mt d n0 z0 o K' (pc + 1) lv (.int (K.2.1 p j.toNatClampNeg) :: rest) K) : kV G H mt d n0 z0 o K' pc lv (.int j :: .ref (cp_b G + p) :: rest) K :=
  kv_m (fun _ _ _ _ C v => vv_cald hd (by have : p < 26 := (k_ct hp).2.1; have := C.1; omega) (C.2.2.2.1 _ hp) hin v) kk
theorem kw_cs {p len : Nat} {j x : Int32} (hd : decode mt.2.1 pc = .ok (.castore, 1)) (hp : (p, len) ∈ k_cs) (hin : vp_in j len) (kk : kV G H mt d n0 z0 o K' (pc + 1) lv rest (kI K p j.toNatClampNeg (vp_nar .char x))) : kV G H mt d n0 z0 o K' pc lv (.int x :: .int j :: .ref (cp_b G + p) :: rest) K :=
  kv_h (fun _ _ C => ⟨_, _, C.chr hp, fun _ _ v => vv_cast hd (by have : p < 26 := (k_ct hp).2.1; have := C.1; omega) (C.2.2.2.1 _ hp) hin v⟩) kk
theorem kw_al {p len : Nat} (hd : decode mt.2.1 pc = .ok (.arraylength, 1)) (hp : (p, len) ∈ k_cs) (kk : kV G H mt d n0 z0 o K' (pc + 1) lv (.int (nI len) :: rest) K) : kV G H mt d n0 z0 o K' pc lv (.ref (cp_b G + p) :: rest) K :=
  kv_m (fun _ _ _ _ C v => vv_alenC hd (by have : p < 26 := (k_ct hp).2.1; have := C.1; omega) (C.2.2.2.1 _ hp) rfl v) kk
/-- the table of letters -/
theorem kw_el {j : Int32} (hd : decode mt.2.1 pc = .ok (.aaload, 1)) (hin : vp_in j 26) (kk : kV G H mt d n0 z0 o K' (pc + 1) lv (va_rf (kr G (K.2.2.1 4 j.toNatClampNeg)) :: rest) K) : kV G H mt d n0 z0 o K' pc lv (.int j :: .ref (cp_b G + 4) :: rest) K :=
  kv_m (fun _ _ _ _ C v => vv_aald hd (by have := C.1; omega) C.2.2.2.2.1 hin v) kk
theorem kw_es {j : Int32} {q : Nat} (hd : decode mt.2.1 pc = .ok (.aastore, 1)) (hin : vp_in j 26) (hq : nd K q 10) (kk : kV G H mt d n0 z0 o K' (pc + 1) lv rest (kP K 4 j.toNatClampNeg q)) : kV G H mt d n0 z0 o K' pc lv (va_rf (kr G q) :: .int j :: .ref (cp_b G + 4) :: rest) K := by
  rw [hq.rf]
  refine kv_h (fun h z C => ⟨_, _, C.ent (j := j.toNatClampNeg) (q := q), fun _ _ v => vv_aast hd (by have := C.1; omega) C.2.2.2.2.1 hq.2.1 (C.at (Or.inr hq) (by decide)) hin ?_⟩) kk
  rw [show kr G q = some (cp_b G + q) from if_neg (by have := hq.1; omega)] at v
  exact v
/-- a new object -/
theorem kw_new {c idx N : Nat} (hd : decode mt.2.1 pc = .ok (.new idx, 3)) (hC : cp_ok c) (hl : Cond.classLink mt.1.cls idx (cp_R c) ∈ cp_WS) (hN : cp_N c = N) (hN7 : N ≤ 7) (hdef : ∀ k, kg G (kN K c) K.1.1 c k = defaultValue (cp_ty c k)) (kk : kV G H mt d n0 z0 o K' (pc + 3) lv (va_rf (kr G K.1.1) :: rest) (kN K c)) : kV G H mt d n0 z0 o K' pc lv rest K :=
  kv_h (fun h z C => ⟨_, _, C.new (N := N) (fun _ => hdef) hN7, fun _ _ v => vv_new hd hC hl hN (by
    rw [show kr G K.1.1 = some (cp_b G + K.1.1) from if_neg (by have := C.1; omega)] at v
    exact v)⟩) kk
/-- calls -/
theorem kw_cv {i ci D idx : Nat} {As0 : cp_G → List Value} {As : List Value} {r : cp_G → Option Value} (hd : decode mt.2.1 pc = .ok (.invokevirtual idx, 3)) (hm : KC D mk As0 K r K1) (eA : As0 G = .ref (cp_b G + i) :: As) (hc : cp_cd mk As.length) (hl : cp_lv mt.1.cls idx mk ci) (hi : ko K i ci) (hdd : D + 1 ≤ d) (hrs : (rest.map fun v => v.category).sum ≤ 8) (kk : kV G H mt d n0 z0 o K' (pc + 3) lv ((r G).toList ++ rest) K1) :
    kV G H mt d n0 z0 o K' pc lv (As.reverse ++ .ref (cp_b G + i) :: rest) K :=
  kv_h (fun h z C => by
    obtain ⟨h1, z1, C1, hC⟩ := hm G H h z (d - 1) (by omega) C
    rw [eA] at hC
    exact ⟨h1, z1, C1, fun _ _ v => vv_callV hd hC hc hl.1 hl.2.1 hl.2.2.1 hl.2.2.2.1 hl.2.2.2.2 (hi.lt C.1) (C.at hi hl.1) (by omega) hrs v⟩) kk
theorem kw_cn {p ci D idx : Nat} {As0 : cp_G → List Value} {As : List Value} {r : cp_G → Option Value} (hd : decode mt.2.1 pc = .ok (.invokevirtual idx, 3)) (hm : KC D mk As0 K r K1) (eA : As0 G = va_rf (kr G p) :: As) (hc : cp_cd mk As.length) (hl : cp_lv mt.1.cls idx mk ci) (hi : nd K p ci) (hdd : D + 1 ≤ d) (hrs : (rest.map fun v => v.category).sum ≤ 8) (kk : kV G H mt d n0 z0 o K' (pc + 3) lv ((r G).toList ++ rest) K1) :
    kV G H mt d n0 z0 o K' pc lv (As.reverse ++ va_rf (kr G p) :: rest) K := by
  rw [hi.rf] at eA ⊢
  exact kw_cv hd hm eA hc hl (Or.inr hi) hdd hrs kk
theorem kw_cr {i D idx : Nat} {As0 : cp_G → List Value} {As : List Value} {r : cp_G → Option Value} (hd : decode mt.2.1 pc = .ok (.invokevirtual idx, 3)) (hm : KC D mk As0 K r K1) (eA : As0 G = .ref (cp_b G + i) :: As) (hc : cp_cd mk As.length) (hl : cp_lv mt.1.cls idx mk 3) (hi : i ∈ k_rows) (hdd : D + 1 ≤ d) (hrs : (rest.map fun v => v.category).sum ≤ 8) (kk : kV G H mt d n0 z0 o K' (pc + 3) lv ((r G).toList ++ rest) K1) :
    kV G H mt d n0 z0 o K' pc lv (As.reverse ++ .ref (cp_b G + i) :: rest) K :=
  kv_h (fun h z C => by
    obtain ⟨h1, z1, C1, hC⟩ := hm G H h z (d - 1) (by omega) C
    rw [eA] at hC
    obtain ⟨⟨g, a, f, ⟨q1, q2, ⟨q3, q4, q5⟩, q6⟩, -, -⟩, -⟩ := C.rw hi
    exact ⟨h1, z1, C1, fun _ _ v => vv_callV hd hC hc hl.1 hl.2.1 hl.2.2.1 hl.2.2.2.1 hl.2.2.2.2 q1 q3 (by omega) hrs v⟩) kk
theorem kw_ci {p ci D idx : Nat} {As0 : cp_G → List Value} {As : List Value} (hd : decode mt.2.1 pc = .ok (.invokespecial idx, 3)) (hm : KC D mk As0 K (fun _ => none) K1) (eA : As0 G = va_rf (kr G p) :: As) (hc : cp_cd mk As.length) (hl : cp_li mt.1.cls idx mk) (hi : nd K p ci) (hdd : D + 1 ≤ d) (hrs : (rest.map fun v => v.category).sum ≤ 8) (kk : kV G H mt d n0 z0 o K' (pc + 3) lv rest K1) :
    kV G H mt d n0 z0 o K' pc lv (As.reverse ++ va_rf (kr G p) :: rest) K := by
  rw [hi.rf] at eA ⊢
  exact kv_h (fun h z C => by
    obtain ⟨h1, z1, C1, hC⟩ := hm G H h z (d - 1) (by omega) C
    rw [eA] at hC
    exact ⟨h1, z1, C1, fun _ _ v => vv_callI hd hC hc hl.1 hl.2.1 hl.2.2.1 hl.2.2.2 (by omega) hrs v⟩) kk
theorem kw_cst {idx : Nat} {As : List Value} {r : Option Value} (hd : decode mt.2.1 pc = .ok (.invokestatic idx, 3)) (hm : SC mk As r) (hc : cp_cd mk As.length) (hl : cp_ls mt.1.cls idx mk) (hdd : 1 ≤ d) (hrs : (rest.map fun v => v.category).sum ≤ 8) (kk : kV G H mt d n0 z0 o K' (pc + 3) lv (r.toList ++ rest) K) :
    kV G H mt d n0 z0 o K' pc lv (As.reverse ++ rest) K :=
  kv_m (fun h z _ _ _ v => vv_callS hd (hm G h _ z (d - 1)) hc hl.1 hl.2 (by omega) hrs v) kk
theorem kw_csn {idx : Nat} {host : String} {As : List Value} {r : Option Value} (hd : decode mt.2.1 pc = .ok (.invokestatic idx, 3)) (hm : SC mk As r) (hc : cp_cd mk As.length) (hl : Cond.methodLinkNest mt.1.cls idx mk.1 host ∈ cp_nest) (hst : Cond.static mk.1 ∈ cp_WS) (hdd : 1 ≤ d) (hrs : (rest.map fun v => v.category).sum ≤ 8) (kk : kV G H mt d n0 z0 o K' (pc + 3) lv (r.toList ++ rest) K) :
    kV G H mt d n0 z0 o K' pc lv (As.reverse ++ rest) K :=
  kv_m (fun h z _ _ _ v => vv_callSN hd (hm G h _ z (d - 1)) hc hl hst (by omega) hrs v) kk
end CPKV
/-- from a cut point on -/
def JC (D : Nat) (mk : cp_M) (o : cp_G → cp_O) (K' : cp_K) (c : Nat) (lv : cp_G → List (Nat × Value)) (st : cp_G → List Value) (K : cp_K) : Prop := ∀ (G : cp_G) (H : Nat → cp_E) (d n0 z0 : Nat), D ≤ d → kV G H mk d n0 z0 (o G) K' c (lv G) (st G) K
theorem KC.of {D : Nat} {mk : cp_M} {As : cp_G → List Value} {K K' : cp_K} {o : cp_G → Option Value} (hy : plainName mk.1.cls = true) (hlen : ∀ G, (lg_sl (As G)).length ≤ mk.2.2.1) (k : JC D mk (fun G => .inl (o G)) K' 0 (fun G => lv_args 0 (As G)) (fun _ => []) K) : KC D mk As K o K' := fun G H h z d hd C => by
  obtain ⟨h', z', C', v⟩ := k G H d K.1.1 z hd h z C
  exact ⟨h', z', C', cp_C.of hy (hlen G) v⟩
