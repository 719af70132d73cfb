/-! ===== null into the table of letters; the class's static methods; Object's constructor ===== -/
theorem vv_aastN {G : cp_G} {mt : cp_M} {d n0 z0 : Nat} {o : cp_O} {h' : Nat → cp_E} {n' z' pc : Nat} {lv : List (Nat × Value)} {rest : List Value} {h : Nat → cp_E} {n z i len : Nat} {f : Nat → Option Nat} {j : Int32} (hd : decode mt.2.1 pc = .ok (.aastore, 1)) (hi : i < n) (hh : h i = .inl (cp_cE G, len, .inr (.inr (.inr (.inr f))))) (hin : vp_in j len) (kk : cp_V G mt d n0 z0 o h' n' z' (pc + 1) lv rest (va_up h i (.inl (cp_cE G, len, .inr (.inr (.inr (.inr (va_up f j.toNatClampNeg none))))))) n z) :
    cp_V G mt d n0 z0 o h' n' z' pc lv (.null :: .int j :: .ref (cp_b G + i) :: rest) h n z :=
  cp_gp hi kk (fun p l e0 R s m args below meth c H locs cells slots Q ls B X w => by
    obtain ⟨hx, hb, -, -, -, hown, -, hts, hT, -⟩ := B
    have hK := hT.K
    refine va_WaastN (C := "ConditionedProofs$Entry") hx hb (X.1.a hi hh 0 _ rfl) ((hK.2 3 _ rfl).1 len (fun j => va_rf (f j))) (fun h => by cases h) (by show ¬ (j < 0 ∨ (arrV _ _ _).slots.size ≤ _); rw [arrV_size]; exact hin) rfl rfl hd fun H1 e z oq => ?_
    refine w H1 _ ?_ z oq
    show H1[cp_b G + i]? = some (vp_cell _ _)
    rw [e, vp_cell_q, vp_cell_q, arrV_store]
    congr 2
    funext q
    by_cases hq : q = j.toNatClampNeg
    · subst hq; simp [updV, va_up, va_rf]
    · simp [updV, va_up, hq])
theorem kr_cat (r : Option Nat) : (va_rf r).category = 1 := by cases r <;> rfl
section CPKV3
variable {G : cp_G} {H : Nat → cp_E} {mt mk : cp_M} {d n0 z0 : Nat} {o : cp_O} {K' K K1 : cp_K} {pc pc' : Nat} {lv lv' : List (Nat × Value)} {st st' rest : List Value}
theorem kw_es0 {j : Int32} (hd : decode mt.2.1 pc = .ok (.aastore, 1)) (hin : vp_in j 26) (kk : kV G H mt d n0 z0 o K' (pc + 1) lv rest (kP K 4 j.toNatClampNeg 0)) : kV G H mt d n0 z0 o K' pc lv (va_rf (kr G 0) :: .int j :: .ref (cp_b G + 4) :: rest) K :=
  kv_h (fun h z C => ⟨_, _, C.ent (j := j.toNatClampNeg) (q := 0), fun _ _ v => vv_aastN hd (by have := C.1; omega) C.2.2.2.2.1 hin v⟩) kk
theorem kw_obj {p c idx : Nat} (hd : decode mt.2.1 pc = .ok (.invokespecial idx, 3)) (hl : Cond.methodLink mt.1.cls idx Lib.objectInit ∈ cp_WS) (hp : nd K p c) (hd1 : 1 ≤ d) (hr : (rest.map fun v => v.category).sum ≤ 8) (kk : kV G H mt d n0 z0 o K' (pc + 3) lv rest K) : kV G H mt d n0 z0 o K' pc lv (va_rf (kr G p) :: rest) K := by
  rw [hp.rf]
  exact kv_p (fun _ _ _ _ _ _ v => vv_obj hd hl cp_oi cp_oc hd1 hr v) kk
theorem kw_lv (e : lv' = lv) (k : kV G H mt d n0 z0 o K' pc lv st K) : kV G H mt d n0 z0 o K' pc lv' st K := e ▸ k
end CPKV3
theorem SC_P_isVariable (x : Int32) : SC m_P_isVariable [.int x] (some (.int (if 97 ≤ x ∧ x ≤ 122 then 1 else 0))) := by
  intro G h n z d
  refine cp_C.of rfl (Nat.le_of_ble_eq_true rfl) ?_
  refine vv_iload_n (pc := 0) d_P_isVariable_0 rfl ?_
  refine vv_bipush (pc := 1) (v := 97) d_P_isVariable_1 rfl ?_
  refine vv_icmp_lt (pc := 3) (tgt := 16) d_P_isVariable_3 rfl (fun hc => ?_) (fun hc => ?_)
  · rw [if_neg (fun hh => Int32.not_le.mpr hc hh.1)]
    refine vv_iconst (pc := 16) (v := 0) d_P_isVariable_16 rfl ?_
    exact vv_zret (pc := 17) d_P_isVariable_17 rfl rfl
  · refine vv_iload_n (pc := 6) d_P_isVariable_6 rfl ?_
    refine vv_bipush (pc := 7) (v := 122) d_P_isVariable_7 rfl ?_
    refine vv_icmp_gt (pc := 9) (tgt := 16) d_P_isVariable_9 rfl (fun hc2 => ?_) (fun hc2 => ?_)
    · rw [if_neg (fun hh => Int32.not_le.mpr hc2 hh.2)]
      refine vv_iconst (pc := 16) (v := 0) d_P_isVariable_16 rfl ?_
      exact vv_zret (pc := 17) d_P_isVariable_17 rfl rfl
    · rw [if_pos ⟨Int32.not_lt.mp hc, Int32.not_lt.mp hc2⟩]
      refine vv_iconst (pc := 12) (v := 1) d_P_isVariable_12 rfl ?_
      refine vv_goto (pc := 13) (tgt := 17) d_P_isVariable_13 rfl ?_
      exact vv_zret (pc := 17) d_P_isVariable_17 rfl rfl
theorem SC_P_isLetter (x : Int32) : SC m_P_isLetter [.int x] (some (.int (if 65 ≤ x ∧ x ≤ 90 then 1 else 0))) := by
  intro G h n z d
  refine cp_C.of rfl (Nat.le_of_ble_eq_true rfl) ?_
  refine vv_iload_n (pc := 0) d_P_isLetter_0 rfl ?_
  refine vv_bipush (pc := 1) (v := 65) d_P_isLetter_1 rfl ?_
  refine vv_icmp_lt (pc := 3) (tgt := 16) d_P_isLetter_3 rfl (fun hc => ?_) (fun hc => ?_)
  · rw [if_neg (fun hh => Int32.not_le.mpr hc hh.1)]
    refine vv_iconst (pc := 16) (v := 0) d_P_isLetter_16 rfl ?_
    exact vv_zret (pc := 17) d_P_isLetter_17 rfl rfl
  · refine vv_iload_n (pc := 6) d_P_isLetter_6 rfl ?_
    refine vv_bipush (pc := 7) (v := 90) d_P_isLetter_7 rfl ?_
    refine vv_icmp_gt (pc := 9) (tgt := 16) d_P_isLetter_9 rfl (fun hc2 => ?_) (fun hc2 => ?_)
    · rw [if_neg (fun hh => Int32.not_le.mpr hc2 hh.2)]
      refine vv_iconst (pc := 16) (v := 0) d_P_isLetter_16 rfl ?_
      exact vv_zret (pc := 17) d_P_isLetter_17 rfl rfl
    · rw [if_pos ⟨Int32.not_lt.mp hc, Int32.not_lt.mp hc2⟩]
      refine vv_iconst (pc := 12) (v := 1) d_P_isLetter_12 rfl ?_
      refine vv_goto (pc := 13) (tgt := 17) d_P_isLetter_13 rfl ?_
      exact vv_zret (pc := 17) d_P_isLetter_17 rfl rfl
theorem SC_P_isDigit (x : Int32) : SC m_P_isDigit [.int x] (some (.int (if 48 ≤ x ∧ x ≤ 57 then 1 else 0))) := by
  intro G h n z d
  refine cp_C.of rfl (Nat.le_of_ble_eq_true rfl) ?_
  refine vv_iload_n (pc := 0) d_P_isDigit_0 rfl ?_
  refine vv_bipush (pc := 1) (v := 48) d_P_isDigit_1 rfl ?_
  refine vv_icmp_lt (pc := 3) (tgt := 16) d_P_isDigit_3 rfl (fun hc => ?_) (fun hc => ?_)
  · rw [if_neg (fun hh => Int32.not_le.mpr hc hh.1)]
    refine vv_iconst (pc := 16) (v := 0) d_P_isDigit_16 rfl ?_
    exact vv_zret (pc := 17) d_P_isDigit_17 rfl rfl
  · refine vv_iload_n (pc := 6) d_P_isDigit_6 rfl ?_
    refine vv_bipush (pc := 7) (v := 57) d_P_isDigit_7 rfl ?_
    refine vv_icmp_gt (pc := 9) (tgt := 16) d_P_isDigit_9 rfl (fun hc2 => ?_) (fun hc2 => ?_)
    · rw [if_neg (fun hh => Int32.not_le.mpr hc2 hh.2)]
      refine vv_iconst (pc := 16) (v := 0) d_P_isDigit_16 rfl ?_
      exact vv_zret (pc := 17) d_P_isDigit_17 rfl rfl
    · rw [if_pos ⟨Int32.not_lt.mp hc, Int32.not_lt.mp hc2⟩]
      refine vv_iconst (pc := 12) (v := 1) d_P_isDigit_12 rfl ?_
      refine vv_goto (pc := 13) (tgt := 17) d_P_isDigit_13 rfl ?_
      exact vv_zret (pc := 17) d_P_isDigit_17 rfl rfl
theorem KC.of2 {D : Nat} {mk : cp_M} {As : cp_G → List Value} {lv : cp_G → List (Nat × Value)} {K K' : cp_K} {o : cp_G → Option Value} (hy : plainName mk.1.cls = true) (hb : ∀ G, (lg_sl (As G)).length ≤ mk.2.2.1 ∧ lv_args 0 (As G) = lv G) (k : JC D mk (fun G => .inl (o G)) K' 0 lv (fun _ => []) K) : KC D mk As K o K' := KC.of hy (fun G => (hb G).1) (by
  rw [show (fun G => lv_args 0 (As G)) = lv from funext fun G => (hb G).2]
  exact k)
theorem KT.of2 {D ci i : Nat} {mk : cp_M} {As : cp_G → List Value} {lv : cp_G → List (Nat × Value)} {K K' : cp_K} (hy : plainName mk.1.cls = true) (hb : ∀ G, (lg_sl (As G)).length ≤ mk.2.2.1 ∧ lv_args 0 (As G) = lv G) (k : JC D mk (fun _ => .inr (ci, i)) K' 0 lv (fun _ => []) K) : KT D mk As K ci i K' := KT.of hy (fun G => (hb G).1) (by
  rw [show (fun G => lv_args 0 (As G)) = lv from funext fun G => (hb G).2]
  exact k)
