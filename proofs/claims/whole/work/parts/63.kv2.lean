/-! ===== more rows over the class's state ===== -/
theorem kdef9 {G : cp_G} {K : cp_K} : ∀ k, kg G (kN K 9) K.1.1 9 k = defaultValue (cp_ty 9 k) := by
  intro k
  unfold kg kN
  simp only [va_up_at]
  rcases k with _ | _ | _ | _ | _ | _ | _ | k <;> rfl
theorem kdef10 {G : cp_G} {K : cp_K} : ∀ k, kg G (kN K 10) K.1.1 10 k = defaultValue (cp_ty 10 k) := by
  intro k
  unfold kg kN
  simp only [va_up_at]
  rcases k with _ | _ | _ | _ | _ | k <;> rfl
theorem krf_9_4 : ∀ v, cp_isr v → narrow (cp_ty 9 4) v = v ∧ fits (cp_ty 9 4) v = true := fun v hv => by rcases hv with rfl | ⟨a, rfl⟩ <;> exact ⟨rfl, rfl⟩
theorem krf_9_5 : ∀ v, cp_isr v → narrow (cp_ty 9 5) v = v ∧ fits (cp_ty 9 5) v = true := fun v hv => by rcases hv with rfl | ⟨a, rfl⟩ <;> exact ⟨rfl, rfl⟩
theorem krf_9_6 : ∀ v, cp_isr v → narrow (cp_ty 9 6) v = v ∧ fits (cp_ty 9 6) v = true := fun v hv => by rcases hv with rfl | ⟨a, rfl⟩ <;> exact ⟨rfl, rfl⟩
theorem krf_10_4 : ∀ v, cp_isr v → narrow (cp_ty 10 4) v = v ∧ fits (cp_ty 10 4) v = true := fun v hv => by rcases hv with rfl | ⟨a, rfl⟩ <;> exact ⟨rfl, rfl⟩
theorem krf_0_11 : ∀ v, cp_isr v → narrow (cp_ty 0 11) v = v ∧ fits (cp_ty 0 11) v = true := fun v hv => by rcases hv with rfl | ⟨a, rfl⟩ <;> exact ⟨rfl, rfl⟩
theorem krf_5_0 : ∀ v, cp_isr v → narrow (cp_ty 5 0) v = v ∧ fits (cp_ty 5 0) v = true := fun v hv => by rcases hv with rfl | ⟨a, rfl⟩ <;> exact ⟨rfl, rfl⟩
theorem kr_inj {G : cp_G} {p q : Nat} : kr G p = kr G q ↔ p = q := by
  unfold kr
  by_cases h1 : p = 0
  · by_cases h2 : q = 0
    · simp [h1, h2]
    · simp [h1, h2, Ne.symm h2]
  · by_cases h2 : q = 0
    · simp [h1, h2]
    · simp [h1, h2]
/-- a method of the class throws an object of the class ci, which lies at i -/
def KT (D : Nat) (mk : cp_M) (As : cp_G → List Value) (K : cp_K) (ci i : Nat) (K' : cp_K) : Prop := ∀ (G : cp_G) (H h : Nat → cp_E) (z d : Nat), D ≤ d → CK G H h z K → ∃ h' z', CK G H h' z' K' ∧ cp_CT G d mk (As G) h K.1.1 z ci i h' K'.1.1 z'
theorem KT.of {D ci i : Nat} {mk : cp_M} {As : cp_G → List Value} {K K' : cp_K} (hy : plainName mk.1.cls = true) (hlen : ∀ G, (lg_sl (As G)).length ≤ mk.2.2.1) (k : JC D mk (fun _ => .inr (ci, i)) K' 0 (fun G => lv_args 0 (As G)) (fun _ => []) K) : KT D mk As K ci i K' := fun G H h z d hd C => by
  obtain ⟨h', z', C', v⟩ := k G H d K.1.1 z hd h z C
  exact ⟨h', z', C', cp_CT.of hy (hlen G) v⟩
theorem CK.junk {G : cp_G} {H h : Nat → cp_E} {z N : Nat} {K : cp_K} {e : cp_E} (C : CK G H h z K) (hN : N ≤ 7) : CK G H (va_up h K.1.1 e) (z + N) (kN K 99) := by
  obtain ⟨c1, c2, c3, c4, c5, c6, c7⟩ := C
  have et : ∀ q, q < K.1.1 → kt (kN K 99) q = kt K q := fun q hq => by
    unfold kt kN
    simp only [cp_up_ne (Nat.ne_of_lt hq)]
  refine ⟨by show 86 ≤ K.1.1 + 1; omega, fun i h1 h2 => ?_, fun p h1 h2 => ?_, fun p hp => ?_, ?_, fun r hr => ?_, ?_⟩
  · rw [cp_up_ne (by omega)]; exact c2 i h1 h2
  · by_cases hp : p = K.1.1
    · subst hp
      have e1 : kt (kN K 99) K.1.1 = 99 := by
        unfold kt kN
        rw [if_neg (by omega)]
        simp only [va_up_at]
      omega
    · have h3 : p < K.1.1 := by
        have : p < K.1.1 + 1 := h1
        omega
      rw [et p h3] at h2 ⊢
      rw [cp_up_ne hp, c3 p h3 h2]
      congr 2
      funext k
      unfold kg kN
      simp only [cp_up_ne hp]
  · have := (k_ct hp).2.1
    rw [cp_up_ne (by omega), c4 p hp]
    unfold kN
    simp only [cp_up_ne (show p.1 ≠ K.1.1 by omega)]
  · rw [cp_up_ne (by omega), c5]
    unfold k_ent kN
    simp only [cp_up_ne (show 4 ≠ K.1.1 by omega)]
  · exact (c6 r hr).mv (Nat.le_succ _) et rfl hr (fun p h1 _ => cp_up_ne (by omega))
  · have e1 : k_caps (kN K 99) = k_caps K := rfl
    have e2 : (kN K 99).1.1 = K.1.1 + 1 := rfl
    rw [e1, e2]
    omega
section CPKV2
variable {G : cp_G} {H : Nat → cp_E} {mt mk : cp_M} {d n0 z0 : Nat} {o : cp_O} {K' K K1 : cp_K} {pc pc' : Nat} {lv lv' : List (Nat × Value)} {st st' rest : List Value}
theorem kw_null (hd : decode mt.2.1 pc = .ok (.aconst_null, 1)) (kk : kV G H mt d n0 z0 o K' (pc + 1) lv (va_rf (kr G 0) :: rest) K) : kV G H mt d n0 z0 o K' pc lv rest K := kv_p (fun _ _ _ _ _ _ v => vv_null hd v) kk
theorem kw_ifnull {p tgt : Nat} {off : Int} (hd : decode mt.2.1 pc = .ok (.ifnull off, 3)) (ht : (pc : Int) + off = (tgt : Int)) (k1 : p = 0 → kV G H mt d n0 z0 o K' tgt lv rest K) (k2 : ¬ p = 0 → kV G H mt d n0 z0 o K' (pc + 3) lv rest K) : kV G H mt d n0 z0 o K' pc lv (va_rf (kr G p) :: rest) K := by
  by_cases hp : p = 0
  · subst hp
    exact kv_p (fun _ _ _ _ _ _ v => vv_ifnullN hd ht v) (k1 rfl)
  · rw [show kr G p = some (cp_b G + p) from if_neg hp]
    exact kv_p (fun _ _ _ _ _ _ v => vv_ifnull hd v) (k2 hp)
theorem kw_ifnonnull {p tgt : Nat} {off : Int} (hd : decode mt.2.1 pc = .ok (.ifnonnull off, 3)) (ht : (pc : Int) + off = (tgt : Int)) (k1 : ¬ p = 0 → kV G H mt d n0 z0 o K' tgt lv rest K) (k2 : p = 0 → kV G H mt d n0 z0 o K' (pc + 3) lv rest K) : kV G H mt d n0 z0 o K' pc lv (va_rf (kr G p) :: rest) K := by
  by_cases hp : p = 0
  · subst hp
    exact kv_p (fun _ _ _ _ _ _ v => vv_ifnonnullN hd v) (k2 rfl)
  · rw [show kr G p = some (cp_b G + p) from if_neg hp]
    exact kv_p (fun _ _ _ _ _ _ v => vv_ifnonnull hd ht v) (k1 hp)
theorem kw_acmp_eq {p q tgt : Nat} {off : Int} (hd : decode mt.2.1 pc = .ok (.if_acmp .eq off, 3)) (ht : (pc : Int) + off = (tgt : Int)) (k1 : p = q → kV G H mt d n0 z0 o K' tgt lv rest K) (k2 : ¬ p = q → kV G H mt d n0 z0 o K' (pc + 3) lv rest K) : kV G H mt d n0 z0 o K' pc lv (va_rf (kr G q) :: va_rf (kr G p) :: rest) K := by
  by_cases hp : p = q
  · exact kv_p (fun _ _ _ _ _ _ v => vv_acmp_eq hd ht (fun _ => v) (fun hn => absurd (kr_inj.mpr hp) hn)) (k1 hp)
  · exact kv_p (fun _ _ _ _ _ _ v => vv_acmp_eq hd ht (fun hn => absurd (kr_inj.mp hn) hp) (fun _ => v)) (k2 hp)
theorem kw_acmp_ne {p q tgt : Nat} {off : Int} (hd : decode mt.2.1 pc = .ok (.if_acmp .ne off, 3)) (ht : (pc : Int) + off = (tgt : Int)) (k1 : ¬ p = q → kV G H mt d n0 z0 o K' tgt lv rest K) (k2 : p = q → kV G H mt d n0 z0 o K' (pc + 3) lv rest K) : kV G H mt d n0 z0 o K' pc lv (va_rf (kr G q) :: va_rf (kr G p) :: rest) K := by
  by_cases hp : p = q
  · exact kv_p (fun _ _ _ _ _ _ v => vv_acmp_ne hd ht (fun hn => absurd (kr_inj.mpr hp) hn) (fun _ => v)) (k2 hp)
  · exact kv_p (fun _ _ _ _ _ _ v => vv_acmp_ne hd ht (fun _ => v) (fun hn => absurd (kr_inj.mp hn) hp)) (k1 hp)
theorem kw_clN {e : Nat} {j : Int32} (hd : decode mt.2.1 pc = .ok (.caload, 1)) (he : e = 1) (hin : vp_in j 80) (kk : kV G H mt d n0 z0 o K' (pc + 1) lv (.int (K.2.1 1 j.toNatClampNeg) :: rest) K) : kV G H mt d n0 z0 o K' pc lv (.int j :: va_rf (kr G e) :: rest) K := by
  subst he
  exact kw_cl hd (by decide) hin kk
theorem kw_throw {ci idx sidx ic N : Nat} {tx : String} (hd0 : decode mt.2.1 pc = .ok (.new idx, 3)) (hd3 : decode mt.2.1 (pc + 3) = .ok (.dup, 1)) (hd4 : decode mt.2.1 (pc + 4) = .ok (.ldc sidx, 2)) (hd6 : decode mt.2.1 (pc + 6) = .ok (.invokespecial ic, 3)) (hd9 : decode mt.2.1 (pc + 9) = .ok (.athrow, 1))
    (hC : cp_ok ci) (hl : Cond.classLink mt.1.cls idx (cp_R ci) ∈ cp_WS) (hcls : mt.1.cls = "ConditionedProofs") (hthr : ∀ w ∈ Bundle.ownAtoms "ConditionedProofs" ic (cp_R ci) cp_up, w ∈ cp_thr) (hs : (sidx, tx) ∈ cp_strs) (hfit : Bundle.fit (cp_R ci) = true) (hd5 : 6 ≤ d) (hrs : (rest.map fun v => v.category).sum ≤ 8)
    (hme : Cond.code mt.1 mt.2.1 mt.2.2.1 mt.2.2.2 ∈ cp_WS) (hN : cp_N ci = N) (hN7 : N ≤ 7) : kV G H mt d n0 z0 (.inr (ci, K.1.1)) (kN K 99) pc lv rest K := fun h z C => ⟨_, _, C.junk (N := cp_N ci) (by omega), vv_throw hd0 hd3 hd4 hd6 hd9 hC hl hcls hthr hs hfit hd5 hrs hme⟩
theorem kw_thv {i0 cr D idx ci i : Nat} {As0 : cp_G → List Value} {As : List Value} (hd : decode mt.2.1 pc = .ok (.invokevirtual idx, 3)) (hm : KT D mk As0 K ci i K1) (eA : As0 G = .ref (cp_b G + i0) :: As) (hc : cp_cd mk As.length) (hl : cp_lv mt.1.cls idx mk cr) (hi : ko K i0 cr) (hdd : D + 1 ≤ d) (hrs : (rest.map fun v => v.category).sum ≤ 8) (hme : Cond.code mt.1 mt.2.1 mt.2.2.1 mt.2.2.2 ∈ cp_WS) :
    kV G H mt d n0 z0 (.inr (ci, i)) K1 pc lv (As.reverse ++ .ref (cp_b G + i0) :: rest) K := fun h z C => by
  obtain ⟨h1, z1, C1, hC⟩ := hm G H h z (d - 1) (by omega) C
  rw [eA] at hC
  exact ⟨h1, z1, C1, vv_thV hd hC hc hl.1 hl.2.1 hl.2.2.1 hl.2.2.2.1 hl.2.2.2.2 (hi.lt C.1) (C.at hi hl.1) (by omega) hrs hme⟩
theorem kw_topi {x y : Int32} (e : x = y) (k : kV G H mt d n0 z0 o K' pc lv (.int y :: rest) K) : kV G H mt d n0 z0 o K' pc lv (.int x :: rest) K := e ▸ k
theorem kw_sub (is : List Nat) (e : is.map (fun i => lv'[i]?) = lv.map some) (k : kV G H mt d n0 z0 o K' pc lv st K) : kV G H mt d n0 z0 o K' pc lv' st K := kv_p (fun _ _ _ _ _ _ v => vv_sub is e v) k
end CPKV2
theorem cl_swout {x : Int32} (cs : List Int32) (hx : ∀ c ∈ cs, ¬ x = c) (df : Int) : ∀ (ps : List (Int × Int)), ps.all (fun q => cs.contains (Int32.ofInt q.1)) = true → Op.lookupswitch.offset ps df x.toInt = df
  | [], _ => rfl
  | (a, o) :: r, hc => by
    rw [List.all_cons, Bool.and_eq_true] at hc
    rw [Op.lookupswitch.offset_cons, if_neg ?_]
    · exact cl_swout cs hx df r hc.2
    · intro e
      have h1 := hc.1
      simp only [e, Int32.ofInt_toInt] at h1
      exact hx x (by simpa using h1) rfl
