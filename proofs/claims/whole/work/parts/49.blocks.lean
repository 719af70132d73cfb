/-! ===== the reference's methods, block by block (printed by wx.py) ===== -/
/-- a method of the reference, at most D calls deep, brings S to S' and gives o -/
def MC (D : Nat) (mk : cp_M) (As : List Value) (S : cp_S) (o : Option Value) (S' : cp_S) : Prop := ∀ (G : cp_G) (h : Nat → cp_E) (n z d : Nat), 86 ≤ n → D ≤ d → cp_C G d mk (.ref (cp_b G + 26) :: As) (mm G h S) n z o (mm G h S') n z
/-- a static method that looks at nothing -/
def SC (mk : cp_M) (As : List Value) (o : Option Value) : Prop := ∀ (G : cp_G) (h : Nat → cp_E) (n z d : Nat), cp_C G d mk As h n z o h n z
/-- the same from a cut point on -/
def JJ (D : Nat) (mk : cp_M) (o : Option Value) (S' : cp_S) (c : Nat) (lv : List (Nat × Value)) (S : cp_S) : Prop := ∀ (G : cp_G) (h : Nat → cp_E) (n z d : Nat), 86 ≤ n → D ≤ d → cp_V G mk d n z (.inl o) (mm G h S') n z c ((0, .ref (cp_b G + 26)) :: lv) [] (mm G h S) n z
/-- the same, with something on the stack -/
def JK (D : Nat) (mk : cp_M) (o : Option Value) (S' : cp_S) (c : Nat) (lv : List (Nat × Value)) (st : cp_G → List Value) (S : cp_S) : Prop := ∀ (G : cp_G) (h : Nat → cp_E) (n z d : Nat), 86 ≤ n → D ≤ d → cp_V G mk d n z (.inl o) (mm G h S') n z c ((0, .ref (cp_b G + 26)) :: lv) (st G) (mm G h S) n z
theorem cp_swout {x : Int32} (lo hi : Int) (cs : List Int32) (hx : ∀ c ∈ cs, ¬ x = c) (hc : (List.range (hi - lo + 1).toNat).all (fun k => cs.contains (Int32.ofInt (lo + k))) = true) : x.toInt < lo ∨ hi < x.toInt := by
  by_cases h1 : x.toInt < lo
  · exact Or.inl h1
  by_cases h2 : hi < x.toInt
  · exact Or.inr h2
  exfalso
  have h3 := List.all_eq_true.mp hc (x.toInt - lo).toNat (List.mem_range.mpr (by omega))
  have h4 : lo + (((x.toInt - lo).toNat : Nat) : Int) = x.toInt := by omega
  rw [h4, Int32.ofInt_toInt] at h3
  exact hx x (by simpa using h3) rfl
theorem vv_sub {G : cp_G} {mt : cp_M} {d n0 z0 : Nat} {o : cp_O} {h' : Nat → cp_E} {n' z' pc : Nat} {lv lv' : List (Nat × Value)} {st : List Value} {h : Nat → cp_E} {n z : Nat} (is : List Nat) (e : is.map (fun i => lv'[i]?) = lv.map some) (k : cp_V G mt d n0 z0 o h' n' z' pc lv st h n z) : cp_V G mt d n0 z0 o h' n' z' pc lv' st h n z :=
  ⟨k.1, fun p l e0 R s m args below meth c B h0 h1 H locs ls X => k.2 p l e0 R s m args below meth c B h0 h1 H locs ls ⟨X.1, X.2.1, X.2.2.1, X.2.2.2.1, fun q hq => X.2.2.2.2 q (by
    have h2 : some q ∈ lv.map some := List.mem_map_of_mem hq
    rw [← e] at h2
    obtain ⟨i, -, hi⟩ := List.mem_map.mp h2
    exact List.mem_of_getElem? hi)⟩⟩

def wp_M_thrown_0 (o : Option Value) (S' : cp_S) (S : cp_S) : Prop := (o = some (.int (S.1 0)) ∧ S' = S)
theorem b_M_thrown_0 {o : Option Value} {S' S : cp_S} (w : wp_M_thrown_0 o S' S) : JJ 0 m_M_thrown o S' 0 [] S := by
  unfold wp_M_thrown_0 at w
  intro G h n z d hn hd
  refine vv_aload_n (pc := 0) d_M_thrown_0 rfl ?_
  refine ww_gi (pc := 1) 0 d_M_thrown_1 fl_M_184 (by omega) rfl ?_
  obtain ⟨rfl, rfl⟩ := w
  exact vv_iret (pc := 4) d_M_thrown_4 rfl
theorem c_M_thrown {o : Option Value} {S' S : cp_S} (w : JJ 0 m_M_thrown o S' 0 [] S) : MC 0 m_M_thrown [] S o S' := fun G h n z d hn hd => cp_C.of rfl (Nat.le_of_ble_eq_true rfl) (w G h n z d hn hd)
def wp_M_type_0 (o : Option Value) (S' : cp_S) (S : cp_S) (x1 : Int32) : Prop := (((x1 : Int32) < 32 → (o = some (.int 0) ∧ S' = ((va_up S.1 0 0), S.2) ∧ narrow .boolean (.int 0) = .int 0)) ∧ (¬ (x1 : Int32) < 32 → ((126 < (x1 : Int32) → (o = some (.int 0) ∧ S' = ((va_up S.1 0 0), S.2) ∧ narrow .boolean (.int 0) = .int 0)) ∧ (¬ 126 < (x1 : Int32) → ((¬ ((S.1 1) : Int32) = 80 → vp_in (S.1 1) (cp_ml 27) ∧ (o = some (.int 1) ∧ S' = ((va_up (va_up S.1 0 0) 1 ((S.1 1) + 1)), (va_up S.2 27 (upd (S.2 27) (Int32.toNatClampNeg (S.1 1)) x1))) ∧ narrow .boolean (.int 1) = .int 1)) ∧ (((S.1 1) : Int32) = 80 → (o = some (.int 0) ∧ S' = ((va_up S.1 0 0), S.2) ∧ narrow .boolean (.int 0) = .int 0)))))))
theorem b_M_type_0 {o : Option Value} {S' S : cp_S} {x1 : Int32} (w : wp_M_type_0 o S' S x1) : JJ 0 m_M_type o S' 0 [(1, .int x1)] S := by
  unfold wp_M_type_0 at w
  intro G h n z d hn hd
  refine vv_aload_n (pc := 0) d_M_type_0 rfl ?_
  refine vv_iconst (pc := 1) (v := 0) d_M_type_1 rfl ?_
  refine ww_pi (pc := 2) 0 d_M_type_2 fl_M_184 (by omega) rfl rfl rfl rfl ?_
  refine vv_iload_n (pc := 5) d_M_type_5 rfl ?_
  refine vv_bipush (pc := 6) (v := 32) d_M_type_6 rfl ?_
  refine vv_icmp_lt (pc := 8) (tgt := 26) d_M_type_8 rfl (fun hc => ?_) (fun hc => ?_)
  · replace w := w.1 hc
    refine vv_iconst (pc := 26) (v := 0) d_M_type_26 rfl ?_
    obtain ⟨rfl, rfl, hx⟩ := w
    exact vv_zret (pc := 27) d_M_type_27 rfl hx
  · replace w := w.2 hc
    refine vv_iload_n (pc := 11) d_M_type_11 rfl ?_
    refine vv_bipush (pc := 12) (v := 126) d_M_type_12 rfl ?_
    refine vv_icmp_gt (pc := 14) (tgt := 26) d_M_type_14 rfl (fun hc => ?_) (fun hc => ?_)
    · replace w := w.1 hc
      refine vv_iconst (pc := 26) (v := 0) d_M_type_26 rfl ?_
      obtain ⟨rfl, rfl, hx⟩ := w
      exact vv_zret (pc := 27) d_M_type_27 rfl hx
    · replace w := w.2 hc
      refine vv_aload_n (pc := 17) d_M_type_17 rfl ?_
      refine ww_gi (pc := 18) 1 d_M_type_18 fl_M_188 (by omega) rfl ?_
      refine vv_bipush (pc := 21) (v := 80) d_M_type_21 rfl ?_
      refine vv_icmp_ne (pc := 23) (tgt := 28) d_M_type_23 rfl (fun hc => ?_) (fun hc => ?_)
      · replace w := w.1 hc
        refine vv_aload_n (pc := 28) d_M_type_28 rfl ?_
        refine ww_gr (pc := 29) 2 27 d_M_type_29 fl_M_7 (by omega) rfl (by decide) ?_
        refine vv_aload_n (pc := 32) d_M_type_32 rfl ?_
        refine ww_gi (pc := 33) 1 d_M_type_33 fl_M_188 (by omega) rfl ?_
        refine vv_iload_n (pc := 36) d_M_type_36 rfl ?_
        obtain ⟨b1, w⟩ := w
        refine ww_st (pc := 37) 27 d_M_type_37 (by omega) (by decide) b1 ?_
        refine vv_aload_n (pc := 38) d_M_type_38 rfl ?_
        refine vv_dup (pc := 39) d_M_type_39 rfl ?_
        refine ww_gi (pc := 40) 1 d_M_type_40 fl_M_188 (by omega) rfl ?_
        refine vv_iconst (pc := 43) (v := 1) d_M_type_43 rfl ?_
        refine vv_iadd (pc := 44) d_M_type_44 ?_
        refine ww_pi (pc := 45) 1 d_M_type_45 fl_M_188 (by omega) rfl rfl rfl rfl ?_
        refine vv_iconst (pc := 48) (v := 1) d_M_type_48 rfl ?_
        obtain ⟨rfl, rfl, hx⟩ := w
        exact vv_zret (pc := 49) d_M_type_49 rfl hx
      · replace w := w.2 hc
        refine vv_iconst (pc := 26) (v := 0) d_M_type_26 rfl ?_
        obtain ⟨rfl, rfl, hx⟩ := w
        exact vv_zret (pc := 27) d_M_type_27 rfl hx
theorem c_M_type {o : Option Value} {S' S : cp_S} {x1 : Int32} (w : JJ 0 m_M_type o S' 0 [(1, .int x1)] S) : MC 0 m_M_type [.int x1] S o S' := fun G h n z d hn hd => cp_C.of rfl (Nat.le_of_ble_eq_true rfl) (w G h n z d hn hd)
def wp_M_wipe_0 (o : Option Value) (S' : cp_S) (S : cp_S) : Prop := (o = some (.int (S.1 1)) ∧ S' = ((va_up (va_up S.1 0 0) 1 0), S.2))
theorem b_M_wipe_0 {o : Option Value} {S' S : cp_S} (w : wp_M_wipe_0 o S' S) : JJ 0 m_M_wipe o S' 0 [] S := by
  unfold wp_M_wipe_0 at w
  intro G h n z d hn hd
  refine vv_aload_n (pc := 0) d_M_wipe_0 rfl ?_
  refine vv_iconst (pc := 1) (v := 0) d_M_wipe_1 rfl ?_
  refine ww_pi (pc := 2) 0 d_M_wipe_2 fl_M_184 (by omega) rfl rfl rfl rfl ?_
  refine vv_aload_n (pc := 5) d_M_wipe_5 rfl ?_
  refine ww_gi (pc := 6) 1 d_M_wipe_6 fl_M_188 (by omega) rfl ?_
  refine vv_istore_n (pc := 9) d_M_wipe_9 (Nat.le_of_ble_eq_true rfl) ?_
  refine vv_aload_n (pc := 10) d_M_wipe_10 rfl ?_
  refine vv_iconst (pc := 11) (v := 0) d_M_wipe_11 rfl ?_
  refine ww_pi (pc := 12) 1 d_M_wipe_12 fl_M_188 (by omega) rfl rfl rfl rfl ?_
  refine vv_iload_n (pc := 15) d_M_wipe_15 rfl ?_
  obtain ⟨rfl, rfl⟩ := w
  exact vv_iret (pc := 16) d_M_wipe_16 rfl
theorem c_M_wipe {o : Option Value} {S' S : cp_S} (w : JJ 0 m_M_wipe o S' 0 [] S) : MC 0 m_M_wipe [] S o S' := fun G h n z d hn hd => cp_C.of rfl (Nat.le_of_ble_eq_true rfl) (w G h n z d hn hd)
def wp_M_push_0 (o : Option Value) (S' : cp_S) (S : cp_S) (x1 : Int32) (x2 : Int32) (x3 : Int32) : Prop := vp_in (S.1 29) (cp_ml 49) ∧ vp_in (S.1 29) (cp_ml 50) ∧ vp_in (S.1 29) (cp_ml 51) ∧ (o = none ∧ S' = ((va_up S.1 29 ((S.1 29) + 1)), (va_up (va_up (va_up S.2 49 (upd (S.2 49) (Int32.toNatClampNeg (S.1 29)) x1)) 50 (upd (S.2 50) (Int32.toNatClampNeg (S.1 29)) x2)) 51 (upd (S.2 51) (Int32.toNatClampNeg (S.1 29)) x3))))
theorem b_M_push_0 {o : Option Value} {S' S : cp_S} {x1 : Int32} {x2 : Int32} {x3 : Int32} (w : wp_M_push_0 o S' S x1 x2 x3) : JJ 0 m_M_push o S' 0 [(1, .int x1), (2, .int x2), (3, .int x3)] S := by
  unfold wp_M_push_0 at w
  intro G h n z d hn hd
  refine vv_aload_n (pc := 0) d_M_push_0 rfl ?_
  refine ww_gr (pc := 1) 30 49 d_M_push_1 fl_M_76 (by omega) rfl (by decide) ?_
  refine vv_aload_n (pc := 4) d_M_push_4 rfl ?_
  refine ww_gi (pc := 5) 29 d_M_push_5 fl_M_191 (by omega) rfl ?_
  refine vv_iload_n (pc := 8) d_M_push_8 rfl ?_
  obtain ⟨b1, w⟩ := w
  refine ww_st (pc := 9) 49 d_M_push_9 (by omega) (by decide) b1 ?_
  refine vv_aload_n (pc := 10) d_M_push_10 rfl ?_
  refine ww_gr (pc := 11) 31 50 d_M_push_11 fl_M_79 (by omega) rfl (by decide) ?_
  refine vv_aload_n (pc := 14) d_M_push_14 rfl ?_
  refine ww_gi (pc := 15) 29 d_M_push_15 fl_M_191 (by omega) rfl ?_
  refine vv_iload_n (pc := 18) d_M_push_18 rfl ?_
  obtain ⟨b2, w⟩ := w
  refine ww_st (pc := 19) 50 d_M_push_19 (by omega) (by decide) b2 ?_
  refine vv_aload_n (pc := 20) d_M_push_20 rfl ?_
  refine ww_gr (pc := 21) 32 51 d_M_push_21 fl_M_82 (by omega) rfl (by decide) ?_
  refine vv_aload_n (pc := 24) d_M_push_24 rfl ?_
  refine ww_gi (pc := 25) 29 d_M_push_25 fl_M_191 (by omega) rfl ?_
  refine vv_iload_n (pc := 28) d_M_push_28 rfl ?_
  obtain ⟨b3, w⟩ := w
  refine ww_st (pc := 29) 51 d_M_push_29 (by omega) (by decide) b3 ?_
  refine vv_aload_n (pc := 30) d_M_push_30 rfl ?_
  refine vv_dup (pc := 31) d_M_push_31 rfl ?_
  refine ww_gi (pc := 32) 29 d_M_push_32 fl_M_191 (by omega) rfl ?_
  refine vv_iconst (pc := 35) (v := 1) d_M_push_35 rfl ?_
  refine vv_iadd (pc := 36) d_M_push_36 ?_
  refine ww_pi (pc := 37) 29 d_M_push_37 fl_M_191 (by omega) rfl rfl rfl rfl ?_
  obtain ⟨rfl, rfl⟩ := w
  exact vv_vret (pc := 40) d_M_push_40 rfl
theorem c_M_push {o : Option Value} {S' S : cp_S} {x1 : Int32} {x2 : Int32} {x3 : Int32} (w : JJ 0 m_M_push o S' 0 [(1, .int x1), (2, .int x2), (3, .int x3)] S) : MC 0 m_M_push [.int x1, .int x2, .int x3] S o S' := fun G h n z d hn hd => cp_C.of rfl (Nat.le_of_ble_eq_true rfl) (w G h n z d hn hd)
def wp_M_node_0 (o : Option Value) (S' : cp_S) (S : cp_S) (x1 : Int32) (x2 : Int32) (x3 : Int32) : Prop := vp_in (S.1 16) (cp_ml 39) ∧ vp_in (S.1 16) (cp_ml 40) ∧ vp_in (S.1 16) (cp_ml 41) ∧ ((((S.1 16) : Int32) < (S.1 20) → JJ 0 m_M_node o S' 85 [(1, .int x1), (2, .int x2), (3, .int x3)] (S.1, (va_up (va_up (va_up S.2 39 (upd (S.2 39) (Int32.toNatClampNeg (S.1 16)) x1)) 40 (upd (S.2 40) (Int32.toNatClampNeg (S.1 16)) x2)) 41 (upd (S.2 41) (Int32.toNatClampNeg (S.1 16)) 0)))) ∧ (¬ ((S.1 16) : Int32) < (S.1 20) → ((82 ≤ (((S.1 16) - (S.1 20)) : Int32) → JJ 0 m_M_node o S' 85 [(1, .int x1), (2, .int x2), (3, .int x3)] (S.1, (va_up (va_up (va_up S.2 39 (upd (S.2 39) (Int32.toNatClampNeg (S.1 16)) x1)) 40 (upd (S.2 40) (Int32.toNatClampNeg (S.1 16)) x2)) 41 (upd (S.2 41) (Int32.toNatClampNeg (S.1 16)) 0)))) ∧ (¬ 82 ≤ (((S.1 16) - (S.1 20)) : Int32) → vp_in ((S.1 16) - (S.1 20)) (cp_ml 42) ∧ vp_in ((S.1 16) - (S.1 20)) (cp_ml 43) ∧ JJ 0 m_M_node o S' 85 [(1, .int x1), (2, .int x2), (3, .int x3)] (S.1, (va_up (va_up (va_up (va_up (va_up S.2 39 (upd (S.2 39) (Int32.toNatClampNeg (S.1 16)) x1)) 40 (upd (S.2 40) (Int32.toNatClampNeg (S.1 16)) x2)) 41 (upd (S.2 41) (Int32.toNatClampNeg (S.1 16)) 0)) 42 (upd (S.2 42) (Int32.toNatClampNeg ((S.1 16) - (S.1 20))) x3)) 43 (upd (S.2 43) (Int32.toNatClampNeg ((S.1 16) - (S.1 20))) (-1))))))))
theorem b_M_node_0 {o : Option Value} {S' S : cp_S} {x1 : Int32} {x2 : Int32} {x3 : Int32} (w : wp_M_node_0 o S' S x1 x2 x3) : JJ 0 m_M_node o S' 0 [(1, .int x1), (2, .int x2), (3, .int x3)] S := by
  unfold wp_M_node_0 at w
  intro G h n z d hn hd
  refine vv_aload_n (pc := 0) d_M_node_0 rfl ?_
  refine ww_gr (pc := 1) 17 39 d_M_node_1 fl_M_46 (by omega) rfl (by decide) ?_
  refine vv_aload_n (pc := 4) d_M_node_4 rfl ?_
  refine ww_gi (pc := 5) 16 d_M_node_5 fl_M_194 (by omega) rfl ?_
  refine vv_iload_n (pc := 8) d_M_node_8 rfl ?_
  obtain ⟨b1, w⟩ := w
  refine ww_st (pc := 9) 39 d_M_node_9 (by omega) (by decide) b1 ?_
  refine vv_aload_n (pc := 10) d_M_node_10 rfl ?_
  refine ww_gr (pc := 11) 18 40 d_M_node_11 fl_M_49 (by omega) rfl (by decide) ?_
  refine vv_aload_n (pc := 14) d_M_node_14 rfl ?_
  refine ww_gi (pc := 15) 16 d_M_node_15 fl_M_194 (by omega) rfl ?_
  refine vv_iload_n (pc := 18) d_M_node_18 rfl ?_
  obtain ⟨b2, w⟩ := w
  refine ww_st (pc := 19) 40 d_M_node_19 (by omega) (by decide) b2 ?_
  refine vv_aload_n (pc := 20) d_M_node_20 rfl ?_
  refine ww_gr (pc := 21) 19 41 d_M_node_21 fl_M_52 (by omega) rfl (by decide) ?_
  refine vv_aload_n (pc := 24) d_M_node_24 rfl ?_
  refine ww_gi (pc := 25) 16 d_M_node_25 fl_M_194 (by omega) rfl ?_
  refine vv_iconst (pc := 28) (v := 0) d_M_node_28 rfl ?_
  obtain ⟨b3, w⟩ := w
  refine ww_st (pc := 29) 41 d_M_node_29 (by omega) (by decide) b3 ?_
  refine vv_aload_n (pc := 30) d_M_node_30 rfl ?_
  refine ww_gi (pc := 31) 16 d_M_node_31 fl_M_194 (by omega) rfl ?_
  refine vv_aload_n (pc := 34) d_M_node_34 rfl ?_
  refine ww_gi (pc := 35) 20 d_M_node_35 fl_M_197 (by omega) rfl ?_
  refine vv_icmp_lt (pc := 38) (tgt := 85) d_M_node_38 rfl (fun hc => ?_) (fun hc => ?_)
  · replace w := w.1 hc
    exact vv_sub [0, 1, 2, 3] rfl (w G h n z d hn hd)
  · replace w := w.2 hc
    refine vv_aload_n (pc := 41) d_M_node_41 rfl ?_
    refine ww_gi (pc := 42) 16 d_M_node_42 fl_M_194 (by omega) rfl ?_
    refine vv_aload_n (pc := 45) d_M_node_45 rfl ?_
    refine ww_gi (pc := 46) 20 d_M_node_46 fl_M_197 (by omega) rfl ?_
    refine vv_isub (pc := 49) d_M_node_49 ?_
    refine vv_bipush (pc := 50) (v := 82) d_M_node_50 rfl ?_
    refine vv_icmp_ge (pc := 52) (tgt := 85) d_M_node_52 rfl (fun hc => ?_) (fun hc => ?_)
    · replace w := w.1 hc
      exact vv_sub [0, 1, 2, 3] rfl (w G h n z d hn hd)
    · replace w := w.2 hc
      refine vv_aload_n (pc := 55) d_M_node_55 rfl ?_
      refine ww_gr (pc := 56) 21 42 d_M_node_56 fl_M_55 (by omega) rfl (by decide) ?_
      refine vv_aload_n (pc := 59) d_M_node_59 rfl ?_
      refine ww_gi (pc := 60) 16 d_M_node_60 fl_M_194 (by omega) rfl ?_
      refine vv_aload_n (pc := 63) d_M_node_63 rfl ?_
      refine ww_gi (pc := 64) 20 d_M_node_64 fl_M_197 (by omega) rfl ?_
      refine vv_isub (pc := 67) d_M_node_67 ?_
      refine vv_iload_n (pc := 68) d_M_node_68 rfl ?_
      obtain ⟨b4, w⟩ := w
      refine ww_st (pc := 69) 42 d_M_node_69 (by omega) (by decide) b4 ?_
      refine vv_aload_n (pc := 70) d_M_node_70 rfl ?_
      refine ww_gr (pc := 71) 22 43 d_M_node_71 fl_M_58 (by omega) rfl (by decide) ?_
      refine vv_aload_n (pc := 74) d_M_node_74 rfl ?_
      refine ww_gi (pc := 75) 16 d_M_node_75 fl_M_194 (by omega) rfl ?_
      refine vv_aload_n (pc := 78) d_M_node_78 rfl ?_
      refine ww_gi (pc := 79) 20 d_M_node_79 fl_M_197 (by omega) rfl ?_
      refine vv_isub (pc := 82) d_M_node_82 ?_
      refine vv_iconst (pc := 83) (v := (-1)) d_M_node_83 rfl ?_
      obtain ⟨b5, w⟩ := w
      refine ww_st (pc := 84) 43 d_M_node_84 (by omega) (by decide) b5 ?_
      exact vv_sub [0, 1, 2, 3] rfl (w G h n z d hn hd)
theorem c_M_node {o : Option Value} {S' S : cp_S} {x1 : Int32} {x2 : Int32} {x3 : Int32} (w : JJ 0 m_M_node o S' 0 [(1, .int x1), (2, .int x2), (3, .int x3)] S) : MC 0 m_M_node [.int x1, .int x2, .int x3] S o S' := fun G h n z d hn hd => cp_C.of rfl (Nat.le_of_ble_eq_true rfl) (w G h n z d hn hd)
def wp_M_node_85 (o : Option Value) (S' : cp_S) (S : cp_S) (x1 : Int32) (x2 : Int32) (x3 : Int32) : Prop := (o = some (.int (((S.1 16) + 1) - 1)) ∧ S' = ((va_up S.1 16 ((S.1 16) + 1)), S.2))
theorem b_M_node_85 {o : Option Value} {S' S : cp_S} {x1 : Int32} {x2 : Int32} {x3 : Int32} (w : wp_M_node_85 o S' S x1 x2 x3) : JJ 0 m_M_node o S' 85 [(1, .int x1), (2, .int x2), (3, .int x3)] S := by
  unfold wp_M_node_85 at w
  intro G h n z d hn hd
  refine vv_aload_n (pc := 85) d_M_node_85 rfl ?_
  refine vv_dup (pc := 86) d_M_node_86 rfl ?_
  refine ww_gi (pc := 87) 16 d_M_node_87 fl_M_194 (by omega) rfl ?_
  refine vv_iconst (pc := 90) (v := 1) d_M_node_90 rfl ?_
  refine vv_iadd (pc := 91) d_M_node_91 ?_
  refine ww_pi (pc := 92) 16 d_M_node_92 fl_M_194 (by omega) rfl rfl rfl rfl ?_
  refine vv_aload_n (pc := 95) d_M_node_95 rfl ?_
  refine ww_gi (pc := 96) 16 d_M_node_96 fl_M_194 (by omega) rfl ?_
  refine vv_topi (y := ((S.1 16) + 1)) rfl ?_
  refine vv_iconst (pc := 99) (v := 1) d_M_node_99 rfl ?_
  refine vv_isub (pc := 100) d_M_node_100 ?_
  obtain ⟨rfl, rfl⟩ := w
  exact vv_iret (pc := 101) d_M_node_101 rfl
def wp_M_below_0 (o : Option Value) (S' : cp_S) (S : cp_S) (x1 : Int32) : Prop := vp_in x1 (cp_ml 39) ∧ ((((S.2 39) (Int32.toNatClampNeg x1)) = (5 : Int32) → vp_in x1 (cp_ml 41) ∧ (o = some (.int ((S.2 41) (Int32.toNatClampNeg x1))) ∧ S' = S)) ∧ (((S.2 39) (Int32.toNatClampNeg x1)) = (6 : Int32) → (o = some (.int 2) ∧ S' = S)) ∧ (((S.2 39) (Int32.toNatClampNeg x1)) = (7 : Int32) → (o = some (.int 2) ∧ S' = S)) ∧ (((S.2 39) (Int32.toNatClampNeg x1)) = (8 : Int32) → vp_in x1 (cp_ml 41) ∧ (o = some (.int (1 + (2 * ((S.2 41) (Int32.toNatClampNeg x1))))) ∧ S' = S)) ∧ (((S.2 39) (Int32.toNatClampNeg x1)) = (9 : Int32) → (o = some (.int 4) ∧ S' = S)) ∧ (((S.2 39) (Int32.toNatClampNeg x1)) = (10 : Int32) → (o = some (.int 0) ∧ S' = S)) ∧ (((S.2 39) (Int32.toNatClampNeg x1)) = (11 : Int32) → (o = some (.int 0) ∧ S' = S)) ∧ (((S.2 39) (Int32.toNatClampNeg x1)) = (12 : Int32) → (o = some (.int 0) ∧ S' = S)) ∧ (((S.2 39) (Int32.toNatClampNeg x1)) = (13 : Int32) → vp_in x1 (cp_ml 41) ∧ (o = some (.int ((S.2 41) (Int32.toNatClampNeg x1))) ∧ S' = S)) ∧ ((∀ c ∈ ([5, 6, 7, 8, 9, 10, 11, 12, 13] : List Int32), ¬ ((S.2 39) (Int32.toNatClampNeg x1)) = c) → (o = some (.int 0) ∧ S' = S)))
theorem b_M_below_0 {o : Option Value} {S' S : cp_S} {x1 : Int32} (w : wp_M_below_0 o S' S x1) : JJ 0 m_M_below o S' 0 [(1, .int x1)] S := by
  unfold wp_M_below_0 at w
  intro G h n z d hn hd
  refine vv_aload_n (pc := 0) d_M_below_0 rfl ?_
  refine ww_gr (pc := 1) 17 39 d_M_below_1 fl_M_46 (by omega) rfl (by decide) ?_
  refine vv_iload_n (pc := 4) d_M_below_4 rfl ?_
  obtain ⟨b1, w⟩ := w
  refine ww_ld (pc := 5) 39 d_M_below_5 (by omega) (by decide) b1 ?_
  by_cases e6_0 : ((S.2 39) (Int32.toNatClampNeg x1)) = (5 : Int32)
  · replace w := w.1 e6_0
    refine vv_topi (y := 5) e6_0 ?_
    refine vv_tableIn (pc := 6) (off := 50) (tgt := 56) d_M_below_6 (by decide +kernel) (by decide +kernel) (by decide +kernel) rfl ?_
    refine vv_aload_n (pc := 56) d_M_below_56 rfl ?_
    refine ww_gr (pc := 57) 19 41 d_M_below_57 fl_M_52 (by omega) rfl (by decide) ?_
    refine vv_iload_n (pc := 60) d_M_below_60 rfl ?_
    obtain ⟨b2, w⟩ := w
    refine ww_ld (pc := 61) 41 d_M_below_61 (by omega) (by decide) b2 ?_
    obtain ⟨rfl, rfl⟩ := w
    exact vv_iret (pc := 62) d_M_below_62 rfl
  by_cases e6_1 : ((S.2 39) (Int32.toNatClampNeg x1)) = (6 : Int32)
  · replace w := w.2.1 e6_1
    refine vv_topi (y := 6) e6_1 ?_
    refine vv_tableIn (pc := 6) (off := 57) (tgt := 63) d_M_below_6 (by decide +kernel) (by decide +kernel) (by decide +kernel) rfl ?_
    refine vv_iconst (pc := 63) (v := 2) d_M_below_63 rfl ?_
    obtain ⟨rfl, rfl⟩ := w
    exact vv_iret (pc := 64) d_M_below_64 rfl
  by_cases e6_2 : ((S.2 39) (Int32.toNatClampNeg x1)) = (7 : Int32)
  · replace w := w.2.2.1 e6_2
    refine vv_topi (y := 7) e6_2 ?_
    refine vv_tableIn (pc := 6) (off := 57) (tgt := 63) d_M_below_6 (by decide +kernel) (by decide +kernel) (by decide +kernel) rfl ?_
    refine vv_iconst (pc := 63) (v := 2) d_M_below_63 rfl ?_
    obtain ⟨rfl, rfl⟩ := w
    exact vv_iret (pc := 64) d_M_below_64 rfl
  by_cases e6_3 : ((S.2 39) (Int32.toNatClampNeg x1)) = (8 : Int32)
  · replace w := w.2.2.2.1 e6_3
    refine vv_topi (y := 8) e6_3 ?_
    refine vv_tableIn (pc := 6) (off := 61) (tgt := 67) d_M_below_6 (by decide +kernel) (by decide +kernel) (by decide +kernel) rfl ?_
    refine vv_iconst (pc := 67) (v := 1) d_M_below_67 rfl ?_
    refine vv_iconst (pc := 68) (v := 2) d_M_below_68 rfl ?_
    refine vv_aload_n (pc := 69) d_M_below_69 rfl ?_
    refine ww_gr (pc := 70) 19 41 d_M_below_70 fl_M_52 (by omega) rfl (by decide) ?_
    refine vv_iload_n (pc := 73) d_M_below_73 rfl ?_
    obtain ⟨b3, w⟩ := w
    refine ww_ld (pc := 74) 41 d_M_below_74 (by omega) (by decide) b3 ?_
    refine vv_imul (pc := 75) d_M_below_75 ?_
    refine vv_iadd (pc := 76) d_M_below_76 ?_
    obtain ⟨rfl, rfl⟩ := w
    exact vv_iret (pc := 77) d_M_below_77 rfl
  by_cases e6_4 : ((S.2 39) (Int32.toNatClampNeg x1)) = (9 : Int32)
  · replace w := w.2.2.2.2.1 e6_4
    refine vv_topi (y := 9) e6_4 ?_
    refine vv_tableIn (pc := 6) (off := 59) (tgt := 65) d_M_below_6 (by decide +kernel) (by decide +kernel) (by decide +kernel) rfl ?_
    refine vv_iconst (pc := 65) (v := 4) d_M_below_65 rfl ?_
    obtain ⟨rfl, rfl⟩ := w
    exact vv_iret (pc := 66) d_M_below_66 rfl
  by_cases e6_5 : ((S.2 39) (Int32.toNatClampNeg x1)) = (10 : Int32)
  · replace w := w.2.2.2.2.2.1 e6_5
    refine vv_topi (y := 10) e6_5 ?_
    refine vv_tableIn (pc := 6) (off := 72) (tgt := 78) d_M_below_6 (by decide +kernel) (by decide +kernel) (by decide +kernel) rfl ?_
    refine vv_iconst (pc := 78) (v := 0) d_M_below_78 rfl ?_
    obtain ⟨rfl, rfl⟩ := w
    exact vv_iret (pc := 79) d_M_below_79 rfl
  by_cases e6_6 : ((S.2 39) (Int32.toNatClampNeg x1)) = (11 : Int32)
  · replace w := w.2.2.2.2.2.2.1 e6_6
    refine vv_topi (y := 11) e6_6 ?_
    refine vv_tableIn (pc := 6) (off := 72) (tgt := 78) d_M_below_6 (by decide +kernel) (by decide +kernel) (by decide +kernel) rfl ?_
    refine vv_iconst (pc := 78) (v := 0) d_M_below_78 rfl ?_
    obtain ⟨rfl, rfl⟩ := w
    exact vv_iret (pc := 79) d_M_below_79 rfl
  by_cases e6_7 : ((S.2 39) (Int32.toNatClampNeg x1)) = (12 : Int32)
  · replace w := w.2.2.2.2.2.2.2.1 e6_7
    refine vv_topi (y := 12) e6_7 ?_
    refine vv_tableIn (pc := 6) (off := 72) (tgt := 78) d_M_below_6 (by decide +kernel) (by decide +kernel) (by decide +kernel) rfl ?_
    refine vv_iconst (pc := 78) (v := 0) d_M_below_78 rfl ?_
    obtain ⟨rfl, rfl⟩ := w
    exact vv_iret (pc := 79) d_M_below_79 rfl
  by_cases e6_8 : ((S.2 39) (Int32.toNatClampNeg x1)) = (13 : Int32)
  · replace w := w.2.2.2.2.2.2.2.2.1 e6_8
    refine vv_topi (y := 13) e6_8 ?_
    refine vv_tableIn (pc := 6) (off := 50) (tgt := 56) d_M_below_6 (by decide +kernel) (by decide +kernel) (by decide +kernel) rfl ?_
    refine vv_aload_n (pc := 56) d_M_below_56 rfl ?_
    refine ww_gr (pc := 57) 19 41 d_M_below_57 fl_M_52 (by omega) rfl (by decide) ?_
    refine vv_iload_n (pc := 60) d_M_below_60 rfl ?_
    obtain ⟨b4, w⟩ := w
    refine ww_ld (pc := 61) 41 d_M_below_61 (by omega) (by decide) b4 ?_
    obtain ⟨rfl, rfl⟩ := w
    exact vv_iret (pc := 62) d_M_below_62 rfl
  have hx : ∀ c ∈ ([5, 6, 7, 8, 9, 10, 11, 12, 13] : List Int32), ¬ ((S.2 39) (Int32.toNatClampNeg x1)) = c := by
    intro c hc
    simp only [List.mem_cons, List.not_mem_nil, or_false] at hc
    rcases hc with rfl | rfl | rfl | rfl | rfl | rfl | rfl | rfl | rfl
    · exact e6_0
    · exact e6_1
    · exact e6_2
    · exact e6_3
    · exact e6_4
    · exact e6_5
    · exact e6_6
    · exact e6_7
    · exact e6_8
  replace w := w.2.2.2.2.2.2.2.2.2 hx
  refine vv_tableOut (pc := 6) (tgt := 78) d_M_below_6 (cp_swout 5 13 ([5, 6, 7, 8, 9, 10, 11, 12, 13] : List Int32) hx (by decide +kernel)) rfl ?_
  refine vv_iconst (pc := 78) (v := 0) d_M_below_78 rfl ?_
  obtain ⟨rfl, rfl⟩ := w
  exact vv_iret (pc := 79) d_M_below_79 rfl
theorem c_M_below {o : Option Value} {S' S : cp_S} {x1 : Int32} (w : JJ 0 m_M_below o S' 0 [(1, .int x1)] S) : MC 0 m_M_below [.int x1] S o S' := fun G h n z d hn hd => cp_C.of rfl (Nat.le_of_ble_eq_true rfl) (w G h n z d hn hd)
def wp_M_behind_0 (o : Option Value) (S' : cp_S) (S : cp_S) (x1 : Int32) : Prop := JJ 1 m_M_behind o S' 4 [(1, .int x1), (2, .int 1), (3, .int x1)] S
theorem b_M_behind_0 {o : Option Value} {S' S : cp_S} {x1 : Int32} (w : wp_M_behind_0 o S' S x1) : JJ 1 m_M_behind o S' 0 [(1, .int x1)] S := by
  unfold wp_M_behind_0 at w
  intro G h n z d hn hd
  refine vv_iconst (pc := 0) (v := 1) d_M_behind_0 rfl ?_
  refine vv_istore_n (pc := 1) d_M_behind_1 (Nat.le_of_ble_eq_true rfl) ?_
  refine vv_iload_n (pc := 2) d_M_behind_2 rfl ?_
  refine vv_istore_n (pc := 3) d_M_behind_3 (Nat.le_of_ble_eq_true rfl) ?_
  exact vv_sub [2, 3, 1, 0] rfl (w G h n z d hn hd)
theorem c_M_behind {o : Option Value} {S' S : cp_S} {x1 : Int32} (w : JJ 1 m_M_behind o S' 0 [(1, .int x1)] S) : MC 1 m_M_behind [.int x1] S o S' := fun G h n z d hn hd => cp_C.of rfl (Nat.le_of_ble_eq_true rfl) (w G h n z d hn hd)
def wp_M_behind_4 (o : Option Value) (S' : cp_S) (S : cp_S) (x1 : Int32) (x2 : Int32) (x3 : Int32) : Prop := (((x2 : Int32) ≤ 0 → (o = some (.int x3) ∧ S' = S)) ∧ (¬ (x2 : Int32) ≤ 0 → ∃ r3 T2, MC 0 m_M_below [.int x3] S (some (.int r3)) T2 ∧ JJ 1 m_M_behind o S' 4 [(1, .int x1), (2, .int ((x2 - 1) + r3)), (3, .int (x3 + 1))] T2))
theorem b_M_behind_4 {o : Option Value} {S' S : cp_S} {x1 : Int32} {x2 : Int32} {x3 : Int32} (w : wp_M_behind_4 o S' S x1 x2 x3) : JJ 1 m_M_behind o S' 4 [(1, .int x1), (2, .int x2), (3, .int x3)] S := by
  unfold wp_M_behind_4 at w
  intro G h n z d hn hd
  refine vv_iload_n (pc := 4) d_M_behind_4 rfl ?_
  refine vv_if_le (pc := 5) (tgt := 24) d_M_behind_5 rfl (fun hc => ?_) (fun hc => ?_)
  · replace w := w.1 hc
    refine vv_iload_n (pc := 24) d_M_behind_24 rfl ?_
    obtain ⟨rfl, rfl⟩ := w
    exact vv_iret (pc := 25) d_M_behind_25 rfl
  · replace w := w.2 hc
    refine vv_iload_n (pc := 8) d_M_behind_8 rfl ?_
    refine vv_iconst (pc := 9) (v := 1) d_M_behind_9 rfl ?_
    refine vv_isub (pc := 10) d_M_behind_10 ?_
    refine vv_aload_n (pc := 11) d_M_behind_11 rfl ?_
    refine vv_iload_n (pc := 12) d_M_behind_12 rfl ?_
    obtain ⟨r3, T2, c1, w⟩ := w
    refine vv_callV (pc := 13) (As := [.int x3]) d_M_behind_13 (c1 G h n z (d - 1) hn (by omega)) k_M_below ml_M_200.1 ml_M_200.2.1 ml_M_200.2.2.1 ml_M_200.2.2.2.1 ml_M_200.2.2.2.2 (by omega) mm_26 (by omega) (Nat.le_of_ble_eq_true rfl) ?_
    refine vv_iadd (pc := 16) d_M_behind_16 ?_
    refine vv_istore_n (pc := 17) d_M_behind_17 (Nat.le_of_ble_eq_true rfl) ?_
    refine vv_iinc (pc := 18) (v := (x3 + 1)) d_M_behind_18 rfl rfl (Nat.le_of_ble_eq_true rfl) ?_
    refine vv_goto (pc := 21) (tgt := 4) d_M_behind_21 rfl ?_
    exact vv_sub [2, 3, 1, 0] rfl (w G h n z d hn hd)
def wp_M_beginTerm_0 (o : Option Value) (S' : cp_S) (S : cp_S) (x1 : Int32) (x2 : Int32) (x3 : Int32) : Prop := ∃ r2, SC m_M_isVariable [.int x1] (some (.int r2)) ∧ ((¬ (r2 : Int32) = 0 → JJ 1 m_M_beginTerm o S' 14 [(1, .int x1), (2, .int x2), (3, .int x3)] S) ∧ ((r2 : Int32) = 0 → ∃ r4, SC m_M_isDigit [.int x1] (some (.int r4)) ∧ (((r4 : Int32) = 0 → (((x1 : Int32) = 35 → JJ 1 m_M_beginTerm o S' 71 [(1, .int x1), (2, .int x2), (3, .int x3)] S) ∧ (¬ (x1 : Int32) = 35 → ((¬ (x1 : Int32) = 95 → JJ 1 m_M_beginTerm o S' 91 [(1, .int x1), (2, .int x2), (3, .int x3)] S) ∧ ((x1 : Int32) = 95 → ((¬ ((x3 - x3 / 2 * 2) : Int32) = 1 → JJ 1 m_M_beginTerm o S' 91 [(1, .int x1), (2, .int x2), (3, .int x3)] S) ∧ (((x3 - x3 / 2 * 2) : Int32) = 1 → JJ 1 m_M_beginTerm o S' 71 [(1, .int x1), (2, .int x2), (3, .int x3)] S))))))) ∧ (¬ (r4 : Int32) = 0 → JJ 1 m_M_beginTerm o S' 14 [(1, .int x1), (2, .int x2), (3, .int x3)] S))))
theorem b_M_beginTerm_0 {o : Option Value} {S' S : cp_S} {x1 : Int32} {x2 : Int32} {x3 : Int32} (w : wp_M_beginTerm_0 o S' S x1 x2 x3) : JJ 1 m_M_beginTerm o S' 0 [(1, .int x1), (2, .int x2), (3, .int x3)] S := by
  unfold wp_M_beginTerm_0 at w
  intro G h n z d hn hd
  refine vv_iload_n (pc := 0) d_M_beginTerm_0 rfl ?_
  obtain ⟨r2, c1, w⟩ := w
  refine vv_callS (pc := 1) (As := [.int x1]) d_M_beginTerm_1 (c1 G (mm G h S) n z (d - 1)) k_M_isVariable ml_M_204.1 ml_M_204.2 (by omega) (Nat.le_of_ble_eq_true rfl) ?_
  refine vv_if_ne (pc := 4) (tgt := 14) d_M_beginTerm_4 rfl (fun hc => ?_) (fun hc => ?_)
  · replace w := w.1 hc
    exact vv_sub [0, 1, 2, 3] rfl (w G h n z d hn hd)
  · replace w := w.2 hc
    refine vv_iload_n (pc := 7) d_M_beginTerm_7 rfl ?_
    obtain ⟨r4, c3, w⟩ := w
    refine vv_callS (pc := 8) (As := [.int x1]) d_M_beginTerm_8 (c3 G (mm G h S) n z (d - 1)) k_M_isDigit ml_M_208.1 ml_M_208.2 (by omega) (Nat.le_of_ble_eq_true rfl) ?_
    refine vv_if_eq (pc := 11) (tgt := 52) d_M_beginTerm_11 rfl (fun hc => ?_) (fun hc => ?_)
    · replace w := w.1 hc
      refine vv_iload_n (pc := 52) d_M_beginTerm_52 rfl ?_
      refine vv_bipush (pc := 53) (v := 35) d_M_beginTerm_53 rfl ?_
      refine vv_icmp_eq (pc := 55) (tgt := 71) d_M_beginTerm_55 rfl (fun hc => ?_) (fun hc => ?_)
      · replace w := w.1 hc
        exact vv_sub [0, 1, 2, 3] rfl (w G h n z d hn hd)
      · replace w := w.2 hc
        refine vv_iload_n (pc := 58) d_M_beginTerm_58 rfl ?_
        refine vv_bipush (pc := 59) (v := 95) d_M_beginTerm_59 rfl ?_
        refine vv_icmp_ne (pc := 61) (tgt := 91) d_M_beginTerm_61 rfl (fun hc => ?_) (fun hc => ?_)
        · replace w := w.1 hc
          exact vv_sub [0, 1, 2, 3] rfl (w G h n z d hn hd)
        · replace w := w.2 hc
          refine vv_iload_n (pc := 64) d_M_beginTerm_64 rfl ?_
          refine vv_iconst (pc := 65) (v := 2) d_M_beginTerm_65 rfl ?_
          refine vv_irem (pc := 66) d_M_beginTerm_66 (by decide) ?_
          refine vv_iconst (pc := 67) (v := 1) d_M_beginTerm_67 rfl ?_
          refine vv_icmp_ne (pc := 68) (tgt := 91) d_M_beginTerm_68 rfl (fun hc => ?_) (fun hc => ?_)
          · replace w := w.1 hc
            exact vv_sub [0, 1, 2, 3] rfl (w G h n z d hn hd)
          · replace w := w.2 hc
            exact vv_sub [0, 1, 2, 3] rfl (w G h n z d hn hd)
    · replace w := w.2 hc
      exact vv_sub [0, 1, 2, 3] rfl (w G h n z d hn hd)
theorem c_M_beginTerm {o : Option Value} {S' S : cp_S} {x1 : Int32} {x2 : Int32} {x3 : Int32} (w : JJ 1 m_M_beginTerm o S' 0 [(1, .int x1), (2, .int x2), (3, .int x3)] S) : MC 1 m_M_beginTerm [.int x1, .int x2, .int x3] S o S' := fun G h n z d hn hd => cp_C.of rfl (Nat.le_of_ble_eq_true rfl) (w G h n z d hn hd)
def wp_M_beginTerm_14 (o : Option Value) (S' : cp_S) (S : cp_S) (x1 : Int32) (x2 : Int32) (x3 : Int32) : Prop := ∃ r2, SC m_M_isVariable [.int x1] (some (.int r2)) ∧ (((r2 : Int32) = 0 → ∃ r4, SC m_M_isVariable [.int x1] (some (.int r4)) ∧ (((r4 : Int32) = 0 → ∃ r7 T6, MC 0 m_M_node [.int 2, .int (x1 - 48), .int x2] S (some (.int r7)) T6 ∧ (o = some (.int 1) ∧ S' = T6 ∧ narrow .boolean (.int 1) = .int 1)) ∧ (¬ (r4 : Int32) = 0 → ∃ r10 T9, MC 0 m_M_node [.int 2, .int (x1 - 97), .int x2] S (some (.int r10)) T9 ∧ (o = some (.int 1) ∧ S' = T9 ∧ narrow .boolean (.int 1) = .int 1)))) ∧ (¬ (r2 : Int32) = 0 → ∃ r12, SC m_M_isVariable [.int x1] (some (.int r12)) ∧ (((r12 : Int32) = 0 → ∃ r15 T14, MC 0 m_M_node [.int 1, .int (x1 - 48), .int x2] S (some (.int r15)) T14 ∧ (o = some (.int 1) ∧ S' = T14 ∧ narrow .boolean (.int 1) = .int 1)) ∧ (¬ (r12 : Int32) = 0 → ∃ r18 T17, MC 0 m_M_node [.int 1, .int (x1 - 97), .int x2] S (some (.int r18)) T17 ∧ (o = some (.int 1) ∧ S' = T17 ∧ narrow .boolean (.int 1) = .int 1)))))
theorem b_M_beginTerm_14 {o : Option Value} {S' S : cp_S} {x1 : Int32} {x2 : Int32} {x3 : Int32} (w : wp_M_beginTerm_14 o S' S x1 x2 x3) : JJ 1 m_M_beginTerm o S' 14 [(1, .int x1), (2, .int x2), (3, .int x3)] S := by
  unfold wp_M_beginTerm_14 at w
  intro G h n z d hn hd
  refine vv_aload_n (pc := 14) d_M_beginTerm_14 rfl ?_
  refine vv_iload_n (pc := 15) d_M_beginTerm_15 rfl ?_
  obtain ⟨r2, c1, w⟩ := w
  refine vv_callS (pc := 16) (As := [.int x1]) d_M_beginTerm_16 (c1 G (mm G h S) n z (d - 1)) k_M_isVariable ml_M_204.1 ml_M_204.2 (by omega) (Nat.le_of_ble_eq_true rfl) ?_
  refine vv_if_eq (pc := 19) (tgt := 26) d_M_beginTerm_19 rfl (fun hc => ?_) (fun hc => ?_)
  · replace w := w.1 hc
    refine vv_iconst (pc := 26) (v := 2) d_M_beginTerm_26 rfl ?_
    refine vv_iload_n (pc := 27) d_M_beginTerm_27 rfl ?_
    obtain ⟨r4, c3, w⟩ := w
    refine vv_callS (pc := 28) (As := [.int x1]) d_M_beginTerm_28 (c3 G (mm G h S) n z (d - 1)) k_M_isVariable ml_M_204.1 ml_M_204.2 (by omega) (Nat.le_of_ble_eq_true rfl) ?_
    refine vv_if_eq (pc := 31) (tgt := 41) d_M_beginTerm_31 rfl (fun hc => ?_) (fun hc => ?_)
    · replace w := w.1 hc
      refine vv_iload_n (pc := 41) d_M_beginTerm_41 rfl ?_
      refine vv_bipush (pc := 42) (v := 48) d_M_beginTerm_42 rfl ?_
      refine vv_isub (pc := 44) d_M_beginTerm_44 ?_
      refine vv_iload_n (pc := 45) d_M_beginTerm_45 rfl ?_
      obtain ⟨r7, T6, c5, w⟩ := w
      refine vv_callV (pc := 46) (As := [.int 2, .int (x1 - 48), .int x2]) d_M_beginTerm_46 (c5 G h n z (d - 1) hn (by omega)) k_M_node ml_M_211.1 ml_M_211.2.1 ml_M_211.2.2.1 ml_M_211.2.2.2.1 ml_M_211.2.2.2.2 (by omega) mm_26 (by omega) (Nat.le_of_ble_eq_true rfl) ?_
      refine vv_pop (pc := 49) d_M_beginTerm_49 rfl ?_
      refine vv_iconst (pc := 50) (v := 1) d_M_beginTerm_50 rfl ?_
      obtain ⟨rfl, rfl, hx⟩ := w
      exact vv_zret (pc := 51) d_M_beginTerm_51 rfl hx
    · replace w := w.2 hc
      refine vv_iload_n (pc := 34) d_M_beginTerm_34 rfl ?_
      refine vv_bipush (pc := 35) (v := 97) d_M_beginTerm_35 rfl ?_
      refine vv_isub (pc := 37) d_M_beginTerm_37 ?_
      refine vv_goto (pc := 38) (tgt := 45) d_M_beginTerm_38 rfl ?_
      refine vv_iload_n (pc := 45) d_M_beginTerm_45 rfl ?_
      obtain ⟨r10, T9, c8, w⟩ := w
      refine vv_callV (pc := 46) (As := [.int 2, .int (x1 - 97), .int x2]) d_M_beginTerm_46 (c8 G h n z (d - 1) hn (by omega)) k_M_node ml_M_211.1 ml_M_211.2.1 ml_M_211.2.2.1 ml_M_211.2.2.2.1 ml_M_211.2.2.2.2 (by omega) mm_26 (by omega) (Nat.le_of_ble_eq_true rfl) ?_
      refine vv_pop (pc := 49) d_M_beginTerm_49 rfl ?_
      refine vv_iconst (pc := 50) (v := 1) d_M_beginTerm_50 rfl ?_
      obtain ⟨rfl, rfl, hx⟩ := w
      exact vv_zret (pc := 51) d_M_beginTerm_51 rfl hx
  · replace w := w.2 hc
    refine vv_iconst (pc := 22) (v := 1) d_M_beginTerm_22 rfl ?_
    refine vv_goto (pc := 23) (tgt := 27) d_M_beginTerm_23 rfl ?_
    refine vv_iload_n (pc := 27) d_M_beginTerm_27 rfl ?_
    obtain ⟨r12, c11, w⟩ := w
    refine vv_callS (pc := 28) (As := [.int x1]) d_M_beginTerm_28 (c11 G (mm G h S) n z (d - 1)) k_M_isVariable ml_M_204.1 ml_M_204.2 (by omega) (Nat.le_of_ble_eq_true rfl) ?_
    refine vv_if_eq (pc := 31) (tgt := 41) d_M_beginTerm_31 rfl (fun hc => ?_) (fun hc => ?_)
    · replace w := w.1 hc
      refine vv_iload_n (pc := 41) d_M_beginTerm_41 rfl ?_
      refine vv_bipush (pc := 42) (v := 48) d_M_beginTerm_42 rfl ?_
      refine vv_isub (pc := 44) d_M_beginTerm_44 ?_
      refine vv_iload_n (pc := 45) d_M_beginTerm_45 rfl ?_
      obtain ⟨r15, T14, c13, w⟩ := w
      refine vv_callV (pc := 46) (As := [.int 1, .int (x1 - 48), .int x2]) d_M_beginTerm_46 (c13 G h n z (d - 1) hn (by omega)) k_M_node ml_M_211.1 ml_M_211.2.1 ml_M_211.2.2.1 ml_M_211.2.2.2.1 ml_M_211.2.2.2.2 (by omega) mm_26 (by omega) (Nat.le_of_ble_eq_true rfl) ?_
      refine vv_pop (pc := 49) d_M_beginTerm_49 rfl ?_
      refine vv_iconst (pc := 50) (v := 1) d_M_beginTerm_50 rfl ?_
      obtain ⟨rfl, rfl, hx⟩ := w
      exact vv_zret (pc := 51) d_M_beginTerm_51 rfl hx
    · replace w := w.2 hc
      refine vv_iload_n (pc := 34) d_M_beginTerm_34 rfl ?_
      refine vv_bipush (pc := 35) (v := 97) d_M_beginTerm_35 rfl ?_
      refine vv_isub (pc := 37) d_M_beginTerm_37 ?_
      refine vv_goto (pc := 38) (tgt := 45) d_M_beginTerm_38 rfl ?_
      refine vv_iload_n (pc := 45) d_M_beginTerm_45 rfl ?_
      obtain ⟨r18, T17, c16, w⟩ := w
      refine vv_callV (pc := 46) (As := [.int 1, .int (x1 - 97), .int x2]) d_M_beginTerm_46 (c16 G h n z (d - 1) hn (by omega)) k_M_node ml_M_211.1 ml_M_211.2.1 ml_M_211.2.2.1 ml_M_211.2.2.2.1 ml_M_211.2.2.2.2 (by omega) mm_26 (by omega) (Nat.le_of_ble_eq_true rfl) ?_
      refine vv_pop (pc := 49) d_M_beginTerm_49 rfl ?_
      refine vv_iconst (pc := 50) (v := 1) d_M_beginTerm_50 rfl ?_
      obtain ⟨rfl, rfl, hx⟩ := w
      exact vv_zret (pc := 51) d_M_beginTerm_51 rfl hx
def wp_M_beginTerm_71 (o : Option Value) (S' : cp_S) (S : cp_S) (x1 : Int32) (x2 : Int32) (x3 : Int32) : Prop := ((¬ (x1 : Int32) = 35 → ∃ r3 T2, MC 0 m_M_node [.int 4, .int 0, .int x2] S (some (.int r3)) T2 ∧ (o = some (.int 1) ∧ S' = T2 ∧ narrow .boolean (.int 1) = .int 1)) ∧ ((x1 : Int32) = 35 → ∃ r6 T5, MC 0 m_M_node [.int 3, .int 0, .int x2] S (some (.int r6)) T5 ∧ (o = some (.int 1) ∧ S' = T5 ∧ narrow .boolean (.int 1) = .int 1)))
theorem b_M_beginTerm_71 {o : Option Value} {S' S : cp_S} {x1 : Int32} {x2 : Int32} {x3 : Int32} (w : wp_M_beginTerm_71 o S' S x1 x2 x3) : JJ 1 m_M_beginTerm o S' 71 [(1, .int x1), (2, .int x2), (3, .int x3)] S := by
  unfold wp_M_beginTerm_71 at w
  intro G h n z d hn hd
  refine vv_aload_n (pc := 71) d_M_beginTerm_71 rfl ?_
  refine vv_iload_n (pc := 72) d_M_beginTerm_72 rfl ?_
  refine vv_bipush (pc := 73) (v := 35) d_M_beginTerm_73 rfl ?_
  refine vv_icmp_ne (pc := 75) (tgt := 82) d_M_beginTerm_75 rfl (fun hc => ?_) (fun hc => ?_)
  · replace w := w.1 hc
    refine vv_iconst (pc := 82) (v := 4) d_M_beginTerm_82 rfl ?_
    refine vv_iconst (pc := 83) (v := 0) d_M_beginTerm_83 rfl ?_
    refine vv_iload_n (pc := 84) d_M_beginTerm_84 rfl ?_
    obtain ⟨r3, T2, c1, w⟩ := w
    refine vv_callV (pc := 85) (As := [.int 4, .int 0, .int x2]) d_M_beginTerm_85 (c1 G h n z (d - 1) hn (by omega)) k_M_node ml_M_211.1 ml_M_211.2.1 ml_M_211.2.2.1 ml_M_211.2.2.2.1 ml_M_211.2.2.2.2 (by omega) mm_26 (by omega) (Nat.le_of_ble_eq_true rfl) ?_
    refine vv_pop (pc := 88) d_M_beginTerm_88 rfl ?_
    refine vv_iconst (pc := 89) (v := 1) d_M_beginTerm_89 rfl ?_
    obtain ⟨rfl, rfl, hx⟩ := w
    exact vv_zret (pc := 90) d_M_beginTerm_90 rfl hx
  · replace w := w.2 hc
    refine vv_iconst (pc := 78) (v := 3) d_M_beginTerm_78 rfl ?_
    refine vv_goto (pc := 79) (tgt := 83) d_M_beginTerm_79 rfl ?_
    refine vv_iconst (pc := 83) (v := 0) d_M_beginTerm_83 rfl ?_
    refine vv_iload_n (pc := 84) d_M_beginTerm_84 rfl ?_
    obtain ⟨r6, T5, c4, w⟩ := w
    refine vv_callV (pc := 85) (As := [.int 3, .int 0, .int x2]) d_M_beginTerm_85 (c4 G h n z (d - 1) hn (by omega)) k_M_node ml_M_211.1 ml_M_211.2.1 ml_M_211.2.2.1 ml_M_211.2.2.2.1 ml_M_211.2.2.2.2 (by omega) mm_26 (by omega) (Nat.le_of_ble_eq_true rfl) ?_
    refine vv_pop (pc := 88) d_M_beginTerm_88 rfl ?_
    refine vv_iconst (pc := 89) (v := 1) d_M_beginTerm_89 rfl ?_
    obtain ⟨rfl, rfl, hx⟩ := w
    exact vv_zret (pc := 90) d_M_beginTerm_90 rfl hx
def wp_M_beginTerm_91 (o : Option Value) (S' : cp_S) (S : cp_S) (x1 : Int32) (x2 : Int32) (x3 : Int32) : Prop := ∃ r2, SC m_M_isLetter [.int x1] (some (.int r2)) ∧ (((r2 : Int32) = 0 → (o = some (.int 0) ∧ S' = S ∧ narrow .boolean (.int 0) = .int 0)) ∧ (¬ (r2 : Int32) = 0 → ∃ r5 T4, MC 0 m_M_node [.int 5, .int (x1 - 65), .int x2] S (some (.int r5)) T4 ∧ ∃ T7, MC 0 m_M_push [.int 201, .int r5, .int x3] T4 none T7 ∧ (o = some (.int 1) ∧ S' = T7 ∧ narrow .boolean (.int 1) = .int 1)))
theorem b_M_beginTerm_91 {o : Option Value} {S' S : cp_S} {x1 : Int32} {x2 : Int32} {x3 : Int32} (w : wp_M_beginTerm_91 o S' S x1 x2 x3) : JJ 1 m_M_beginTerm o S' 91 [(1, .int x1), (2, .int x2), (3, .int x3)] S := by
  unfold wp_M_beginTerm_91 at w
  intro G h n z d hn hd
  refine vv_iload_n (pc := 91) d_M_beginTerm_91 rfl ?_
  obtain ⟨r2, c1, w⟩ := w
  refine vv_callS (pc := 92) (As := [.int x1]) d_M_beginTerm_92 (c1 G (mm G h S) n z (d - 1)) k_M_isLetter ml_M_215.1 ml_M_215.2 (by omega) (Nat.le_of_ble_eq_true rfl) ?_
  refine vv_if_eq (pc := 95) (tgt := 118) d_M_beginTerm_95 rfl (fun hc => ?_) (fun hc => ?_)
  · replace w := w.1 hc
    refine vv_iconst (pc := 118) (v := 0) d_M_beginTerm_118 rfl ?_
    obtain ⟨rfl, rfl, hx⟩ := w
    exact vv_zret (pc := 119) d_M_beginTerm_119 rfl hx
  · replace w := w.2 hc
    refine vv_aload_n (pc := 98) d_M_beginTerm_98 rfl ?_
    refine vv_sipush (pc := 99) (v := 201) d_M_beginTerm_99 rfl ?_
    refine vv_aload_n (pc := 102) d_M_beginTerm_102 rfl ?_
    refine vv_iconst (pc := 103) (v := 5) d_M_beginTerm_103 rfl ?_
    refine vv_iload_n (pc := 104) d_M_beginTerm_104 rfl ?_
    refine vv_bipush (pc := 105) (v := 65) d_M_beginTerm_105 rfl ?_
    refine vv_isub (pc := 107) d_M_beginTerm_107 ?_
    refine vv_iload_n (pc := 108) d_M_beginTerm_108 rfl ?_
    obtain ⟨r5, T4, c3, w⟩ := w
    refine vv_callV (pc := 109) (As := [.int 5, .int (x1 - 65), .int x2]) d_M_beginTerm_109 (c3 G h n z (d - 1) hn (by omega)) k_M_node ml_M_211.1 ml_M_211.2.1 ml_M_211.2.2.1 ml_M_211.2.2.2.1 ml_M_211.2.2.2.2 (by omega) mm_26 (by omega) (Nat.le_of_ble_eq_true rfl) ?_
    refine vv_iload_n (pc := 112) d_M_beginTerm_112 rfl ?_
    obtain ⟨T7, c6, w⟩ := w
    refine vv_callV (pc := 113) (As := [.int 201, .int r5, .int x3]) d_M_beginTerm_113 (c6 G h n z (d - 1) hn (by omega)) k_M_push ml_M_218.1 ml_M_218.2.1 ml_M_218.2.2.1 ml_M_218.2.2.2.1 ml_M_218.2.2.2.2 (by omega) mm_26 (by omega) (Nat.le_of_ble_eq_true rfl) ?_
    refine vv_iconst (pc := 116) (v := 1) d_M_beginTerm_116 rfl ?_
    obtain ⟨rfl, rfl, hx⟩ := w
    exact vv_zret (pc := 117) d_M_beginTerm_117 rfl hx
def wp_M_beginCode_0 (o : Option Value) (S' : cp_S) (S : cp_S) (x1 : Int32) (x2 : Int32) (x3 : Int32) : Prop := ∃ r2, SC m_M_isVariable [.int x1] (some (.int r2)) ∧ ((¬ (r2 : Int32) = 0 → JJ 1 m_M_beginCode o S' 20 [(1, .int x1), (2, .int x2), (3, .int x3)] S) ∧ ((r2 : Int32) = 0 → ∃ r4, SC m_M_isDigit [.int x1] (some (.int r4)) ∧ ((¬ (r4 : Int32) = 0 → JJ 1 m_M_beginCode o S' 20 [(1, .int x1), (2, .int x2), (3, .int x3)] S) ∧ ((r4 : Int32) = 0 → ((¬ (x1 : Int32) = 126 → ∃ r6, SC m_M_isLetter [.int x1] (some (.int r6)) ∧ (((r6 : Int32) = 0 → ((¬ (x3 : Int32) = 12 → (((x1 : Int32) = 43 → JJ 1 m_M_beginCode o S' 116 [(1, .int x1), (2, .int x2), (3, .int x3)] S) ∧ (¬ (x1 : Int32) = 43 → ((¬ (x1 : Int32) = 45 → ((¬ (x1 : Int32) = 123 → (((x1 : Int32) = 91 → ∃ r9 T8, MC 0 m_M_node [.int 9, .int 0, .int x2] S (some (.int r9)) T8 ∧ ∃ T11, MC 0 m_M_push [.int 93, .int 0, .int 0] T8 none T11 ∧ ∃ T13, MC 0 m_M_push [.int 210, .int (x3 + 1), .int 0] T11 none T13 ∧ ∃ T15, MC 0 m_M_push [.int 58, .int 0, .int 0] T13 none T15 ∧ ∃ T17, MC 0 m_M_push [.int 210, .int (x3 + 1), .int 0] T15 none T17 ∧ ∃ T19, MC 0 m_M_push [.int 63, .int 0, .int 0] T17 none T19 ∧ ∃ T21, MC 0 m_M_push [.int 210, .int (x3 + 1), .int 0] T19 none T21 ∧ ∃ T23, MC 0 m_M_push [.int 217, .int r9, .int 0] T21 none T23 ∧ ∃ T25, MC 0 m_M_push [.int 210, .int (x3 + 1), .int 0] T23 none T25 ∧ (o = some (.int 1) ∧ S' = T25 ∧ narrow .boolean (.int 1) = .int 1)) ∧ (¬ (x1 : Int32) = 91 → (o = some (.int 0) ∧ S' = S ∧ narrow .boolean (.int 0) = .int 0)))) ∧ ((x1 : Int32) = 123 → ∃ r28 T27, MC 0 m_M_node [.int 8, .int 0, .int x2] S (some (.int r28)) T27 ∧ ∃ T30, MC 0 m_M_push [.int 213, .int r28, .int x3] T27 none T30 ∧ ∃ T32, MC 0 m_M_push [.int 210, .int (x3 + 1), .int 0] T30 none T32 ∧ (o = some (.int 1) ∧ S' = T32 ∧ narrow .boolean (.int 1) = .int 1)))) ∧ ((x1 : Int32) = 45 → JJ 1 m_M_beginCode o S' 116 [(1, .int x1), (2, .int x2), (3, .int x3)] S))))) ∧ ((x3 : Int32) = 12 → (o = some (.int 0) ∧ S' = S ∧ narrow .boolean (.int 0) = .int 0)))) ∧ (¬ (r6 : Int32) = 0 → ∃ r35 T34, MC 0 m_M_node [.int 5, .int (x1 - 65), .int x2] S (some (.int r35)) T34 ∧ ∃ T37, MC 0 m_M_push [.int 211, .int r35, .int x3] T34 none T37 ∧ (o = some (.int 1) ∧ S' = T37 ∧ narrow .boolean (.int 1) = .int 1)))) ∧ ((x1 : Int32) = 126 → JJ 1 m_M_beginCode o S' 20 [(1, .int x1), (2, .int x2), (3, .int x3)] S))))))
theorem b_M_beginCode_0 {o : Option Value} {S' S : cp_S} {x1 : Int32} {x2 : Int32} {x3 : Int32} (w : wp_M_beginCode_0 o S' S x1 x2 x3) : JJ 1 m_M_beginCode o S' 0 [(1, .int x1), (2, .int x2), (3, .int x3)] S := by
  unfold wp_M_beginCode_0 at w
  intro G h n z d hn hd
  refine vv_iload_n (pc := 0) d_M_beginCode_0 rfl ?_
  obtain ⟨r2, c1, w⟩ := w
  refine vv_callS (pc := 1) (As := [.int x1]) d_M_beginCode_1 (c1 G (mm G h S) n z (d - 1)) k_M_isVariable ml_M_204.1 ml_M_204.2 (by omega) (Nat.le_of_ble_eq_true rfl) ?_
  refine vv_if_ne (pc := 4) (tgt := 20) d_M_beginCode_4 rfl (fun hc => ?_) (fun hc => ?_)
  · replace w := w.1 hc
    exact vv_sub [0, 1, 2, 3] rfl (w G h n z d hn hd)
  · replace w := w.2 hc
    refine vv_iload_n (pc := 7) d_M_beginCode_7 rfl ?_
    obtain ⟨r4, c3, w⟩ := w
    refine vv_callS (pc := 8) (As := [.int x1]) d_M_beginCode_8 (c3 G (mm G h S) n z (d - 1)) k_M_isDigit ml_M_208.1 ml_M_208.2 (by omega) (Nat.le_of_ble_eq_true rfl) ?_
    refine vv_if_ne (pc := 11) (tgt := 20) d_M_beginCode_11 rfl (fun hc => ?_) (fun hc => ?_)
    · replace w := w.1 hc
      exact vv_sub [0, 1, 2, 3] rfl (w G h n z d hn hd)
    · replace w := w.2 hc
      refine vv_iload_n (pc := 14) d_M_beginCode_14 rfl ?_
      refine vv_bipush (pc := 15) (v := 126) d_M_beginCode_15 rfl ?_
      refine vv_icmp_ne (pc := 17) (tgt := 69) d_M_beginCode_17 rfl (fun hc => ?_) (fun hc => ?_)
      · replace w := w.1 hc
        refine vv_iload_n (pc := 69) d_M_beginCode_69 rfl ?_
        obtain ⟨r6, c5, w⟩ := w
        refine vv_callS (pc := 70) (As := [.int x1]) d_M_beginCode_70 (c5 G (mm G h S) n z (d - 1)) k_M_isLetter ml_M_215.1 ml_M_215.2 (by omega) (Nat.le_of_ble_eq_true rfl) ?_
        refine vv_if_eq (pc := 73) (tgt := 96) d_M_beginCode_73 rfl (fun hc => ?_) (fun hc => ?_)
        · replace w := w.1 hc
          refine vv_iload_n (pc := 96) d_M_beginCode_96 rfl ?_
          refine vv_bipush (pc := 97) (v := 12) d_M_beginCode_97 rfl ?_
          refine vv_icmp_ne (pc := 99) (tgt := 104) d_M_beginCode_99 rfl (fun hc => ?_) (fun hc => ?_)
          · replace w := w.1 hc
            refine vv_iload_n (pc := 104) d_M_beginCode_104 rfl ?_
            refine vv_bipush (pc := 105) (v := 43) d_M_beginCode_105 rfl ?_
            refine vv_icmp_eq (pc := 107) (tgt := 116) d_M_beginCode_107 rfl (fun hc => ?_) (fun hc => ?_)
            · replace w := w.1 hc
              exact vv_sub [0, 1, 2, 3] rfl (w G h n z d hn hd)
            · replace w := w.2 hc
              refine vv_iload_n (pc := 110) d_M_beginCode_110 rfl ?_
              refine vv_bipush (pc := 111) (v := 45) d_M_beginCode_111 rfl ?_
              refine vv_icmp_ne (pc := 113) (tgt := 160) d_M_beginCode_113 rfl (fun hc => ?_) (fun hc => ?_)
              · replace w := w.1 hc
                refine vv_iload_n (pc := 160) d_M_beginCode_160 rfl ?_
                refine vv_bipush (pc := 161) (v := 123) d_M_beginCode_161 rfl ?_
                refine vv_icmp_ne (pc := 163) (tgt := 195) d_M_beginCode_163 rfl (fun hc => ?_) (fun hc => ?_)
                · replace w := w.1 hc
                  refine vv_iload_n (pc := 195) d_M_beginCode_195 rfl ?_
                  refine vv_bipush (pc := 196) (v := 91) d_M_beginCode_196 rfl ?_
                  refine vv_icmp_eq (pc := 198) (tgt := 203) d_M_beginCode_198 rfl (fun hc => ?_) (fun hc => ?_)
                  · replace w := w.1 hc
                    refine vv_aload_n (pc := 203) d_M_beginCode_203 rfl ?_
                    refine vv_bipush (pc := 204) (v := 9) d_M_beginCode_204 rfl ?_
                    refine vv_iconst (pc := 206) (v := 0) d_M_beginCode_206 rfl ?_
                    refine vv_iload_n (pc := 207) d_M_beginCode_207 rfl ?_
                    obtain ⟨r9, T8, c7, w⟩ := w
                    refine vv_callV (pc := 208) (As := [.int 9, .int 0, .int x2]) d_M_beginCode_208 (c7 G h n z (d - 1) hn (by omega)) k_M_node ml_M_211.1 ml_M_211.2.1 ml_M_211.2.2.1 ml_M_211.2.2.2.1 ml_M_211.2.2.2.2 (by omega) mm_26 (by omega) (Nat.le_of_ble_eq_true rfl) ?_
                    refine vv_istore (pc := 211) d_M_beginCode_211 (Nat.le_of_ble_eq_true rfl) ?_
                    refine vv_aload_n (pc := 213) d_M_beginCode_213 rfl ?_
                    refine vv_bipush (pc := 214) (v := 93) d_M_beginCode_214 rfl ?_
                    refine vv_iconst (pc := 216) (v := 0) d_M_beginCode_216 rfl ?_
                    refine vv_iconst (pc := 217) (v := 0) d_M_beginCode_217 rfl ?_
                    obtain ⟨T11, c10, w⟩ := w
                    refine vv_callV (pc := 218) (As := [.int 93, .int 0, .int 0]) d_M_beginCode_218 (c10 G h n z (d - 1) hn (by omega)) k_M_push ml_M_218.1 ml_M_218.2.1 ml_M_218.2.2.1 ml_M_218.2.2.2.1 ml_M_218.2.2.2.2 (by omega) mm_26 (by omega) (Nat.le_of_ble_eq_true rfl) ?_
                    refine vv_aload_n (pc := 221) d_M_beginCode_221 rfl ?_
                    refine vv_sipush (pc := 222) (v := 210) d_M_beginCode_222 rfl ?_
                    refine vv_iload_n (pc := 225) d_M_beginCode_225 rfl ?_
                    refine vv_iconst (pc := 226) (v := 1) d_M_beginCode_226 rfl ?_
                    refine vv_iadd (pc := 227) d_M_beginCode_227 ?_
                    refine vv_iconst (pc := 228) (v := 0) d_M_beginCode_228 rfl ?_
                    obtain ⟨T13, c12, w⟩ := w
                    refine vv_callV (pc := 229) (As := [.int 210, .int (x3 + 1), .int 0]) d_M_beginCode_229 (c12 G h n z (d - 1) hn (by omega)) k_M_push ml_M_218.1 ml_M_218.2.1 ml_M_218.2.2.1 ml_M_218.2.2.2.1 ml_M_218.2.2.2.2 (by omega) mm_26 (by omega) (Nat.le_of_ble_eq_true rfl) ?_
                    refine vv_aload_n (pc := 232) d_M_beginCode_232 rfl ?_
                    refine vv_bipush (pc := 233) (v := 58) d_M_beginCode_233 rfl ?_
                    refine vv_iconst (pc := 235) (v := 0) d_M_beginCode_235 rfl ?_
                    refine vv_iconst (pc := 236) (v := 0) d_M_beginCode_236 rfl ?_
                    obtain ⟨T15, c14, w⟩ := w
                    refine vv_callV (pc := 237) (As := [.int 58, .int 0, .int 0]) d_M_beginCode_237 (c14 G h n z (d - 1) hn (by omega)) k_M_push ml_M_218.1 ml_M_218.2.1 ml_M_218.2.2.1 ml_M_218.2.2.2.1 ml_M_218.2.2.2.2 (by omega) mm_26 (by omega) (Nat.le_of_ble_eq_true rfl) ?_
                    refine vv_aload_n (pc := 240) d_M_beginCode_240 rfl ?_
                    refine vv_sipush (pc := 241) (v := 210) d_M_beginCode_241 rfl ?_
                    refine vv_iload_n (pc := 244) d_M_beginCode_244 rfl ?_
                    refine vv_iconst (pc := 245) (v := 1) d_M_beginCode_245 rfl ?_
                    refine vv_iadd (pc := 246) d_M_beginCode_246 ?_
                    refine vv_iconst (pc := 247) (v := 0) d_M_beginCode_247 rfl ?_
                    obtain ⟨T17, c16, w⟩ := w
                    refine vv_callV (pc := 248) (As := [.int 210, .int (x3 + 1), .int 0]) d_M_beginCode_248 (c16 G h n z (d - 1) hn (by omega)) k_M_push ml_M_218.1 ml_M_218.2.1 ml_M_218.2.2.1 ml_M_218.2.2.2.1 ml_M_218.2.2.2.2 (by omega) mm_26 (by omega) (Nat.le_of_ble_eq_true rfl) ?_
                    refine vv_aload_n (pc := 251) d_M_beginCode_251 rfl ?_
                    refine vv_bipush (pc := 252) (v := 63) d_M_beginCode_252 rfl ?_
                    refine vv_iconst (pc := 254) (v := 0) d_M_beginCode_254 rfl ?_
                    refine vv_iconst (pc := 255) (v := 0) d_M_beginCode_255 rfl ?_
                    obtain ⟨T19, c18, w⟩ := w
                    refine vv_callV (pc := 256) (As := [.int 63, .int 0, .int 0]) d_M_beginCode_256 (c18 G h n z (d - 1) hn (by omega)) k_M_push ml_M_218.1 ml_M_218.2.1 ml_M_218.2.2.1 ml_M_218.2.2.2.1 ml_M_218.2.2.2.2 (by omega) mm_26 (by omega) (Nat.le_of_ble_eq_true rfl) ?_
                    refine vv_aload_n (pc := 259) d_M_beginCode_259 rfl ?_
                    refine vv_sipush (pc := 260) (v := 210) d_M_beginCode_260 rfl ?_
                    refine vv_iload_n (pc := 263) d_M_beginCode_263 rfl ?_
                    refine vv_iconst (pc := 264) (v := 1) d_M_beginCode_264 rfl ?_
                    refine vv_iadd (pc := 265) d_M_beginCode_265 ?_
                    refine vv_iconst (pc := 266) (v := 0) d_M_beginCode_266 rfl ?_
                    obtain ⟨T21, c20, w⟩ := w
                    refine vv_callV (pc := 267) (As := [.int 210, .int (x3 + 1), .int 0]) d_M_beginCode_267 (c20 G h n z (d - 1) hn (by omega)) k_M_push ml_M_218.1 ml_M_218.2.1 ml_M_218.2.2.1 ml_M_218.2.2.2.1 ml_M_218.2.2.2.2 (by omega) mm_26 (by omega) (Nat.le_of_ble_eq_true rfl) ?_
                    refine vv_aload_n (pc := 270) d_M_beginCode_270 rfl ?_
                    refine vv_sipush (pc := 271) (v := 217) d_M_beginCode_271 rfl ?_
                    refine vv_iload (pc := 274) d_M_beginCode_274 rfl ?_
                    refine vv_iconst (pc := 276) (v := 0) d_M_beginCode_276 rfl ?_
                    obtain ⟨T23, c22, w⟩ := w
                    refine vv_callV (pc := 277) (As := [.int 217, .int r9, .int 0]) d_M_beginCode_277 (c22 G h n z (d - 1) hn (by omega)) k_M_push ml_M_218.1 ml_M_218.2.1 ml_M_218.2.2.1 ml_M_218.2.2.2.1 ml_M_218.2.2.2.2 (by omega) mm_26 (by omega) (Nat.le_of_ble_eq_true rfl) ?_
                    refine vv_aload_n (pc := 280) d_M_beginCode_280 rfl ?_
                    refine vv_sipush (pc := 281) (v := 210) d_M_beginCode_281 rfl ?_
                    refine vv_iload_n (pc := 284) d_M_beginCode_284 rfl ?_
                    refine vv_iconst (pc := 285) (v := 1) d_M_beginCode_285 rfl ?_
                    refine vv_iadd (pc := 286) d_M_beginCode_286 ?_
                    refine vv_iconst (pc := 287) (v := 0) d_M_beginCode_287 rfl ?_
                    obtain ⟨T25, c24, w⟩ := w
                    refine vv_callV (pc := 288) (As := [.int 210, .int (x3 + 1), .int 0]) d_M_beginCode_288 (c24 G h n z (d - 1) hn (by omega)) k_M_push ml_M_218.1 ml_M_218.2.1 ml_M_218.2.2.1 ml_M_218.2.2.2.1 ml_M_218.2.2.2.2 (by omega) mm_26 (by omega) (Nat.le_of_ble_eq_true rfl) ?_
                    refine vv_iconst (pc := 291) (v := 1) d_M_beginCode_291 rfl ?_
                    obtain ⟨rfl, rfl, hx⟩ := w
                    exact vv_zret (pc := 292) d_M_beginCode_292 rfl hx
                  · replace w := w.2 hc
                    refine vv_iconst (pc := 201) (v := 0) d_M_beginCode_201 rfl ?_
                    obtain ⟨rfl, rfl, hx⟩ := w
                    exact vv_zret (pc := 202) d_M_beginCode_202 rfl hx
                · replace w := w.2 hc
                  refine vv_aload_n (pc := 166) d_M_beginCode_166 rfl ?_
                  refine vv_sipush (pc := 167) (v := 213) d_M_beginCode_167 rfl ?_
                  refine vv_aload_n (pc := 170) d_M_beginCode_170 rfl ?_
                  refine vv_bipush (pc := 171) (v := 8) d_M_beginCode_171 rfl ?_
                  refine vv_iconst (pc := 173) (v := 0) d_M_beginCode_173 rfl ?_
                  refine vv_iload_n (pc := 174) d_M_beginCode_174 rfl ?_
                  obtain ⟨r28, T27, c26, w⟩ := w
                  refine vv_callV (pc := 175) (As := [.int 8, .int 0, .int x2]) d_M_beginCode_175 (c26 G h n z (d - 1) hn (by omega)) k_M_node ml_M_211.1 ml_M_211.2.1 ml_M_211.2.2.1 ml_M_211.2.2.2.1 ml_M_211.2.2.2.2 (by omega) mm_26 (by omega) (Nat.le_of_ble_eq_true rfl) ?_
                  refine vv_iload_n (pc := 178) d_M_beginCode_178 rfl ?_
                  obtain ⟨T30, c29, w⟩ := w
                  refine vv_callV (pc := 179) (As := [.int 213, .int r28, .int x3]) d_M_beginCode_179 (c29 G h n z (d - 1) hn (by omega)) k_M_push ml_M_218.1 ml_M_218.2.1 ml_M_218.2.2.1 ml_M_218.2.2.2.1 ml_M_218.2.2.2.2 (by omega) mm_26 (by omega) (Nat.le_of_ble_eq_true rfl) ?_
                  refine vv_aload_n (pc := 182) d_M_beginCode_182 rfl ?_
                  refine vv_sipush (pc := 183) (v := 210) d_M_beginCode_183 rfl ?_
                  refine vv_iload_n (pc := 186) d_M_beginCode_186 rfl ?_
                  refine vv_iconst (pc := 187) (v := 1) d_M_beginCode_187 rfl ?_
                  refine vv_iadd (pc := 188) d_M_beginCode_188 ?_
                  refine vv_iconst (pc := 189) (v := 0) d_M_beginCode_189 rfl ?_
                  obtain ⟨T32, c31, w⟩ := w
                  refine vv_callV (pc := 190) (As := [.int 210, .int (x3 + 1), .int 0]) d_M_beginCode_190 (c31 G h n z (d - 1) hn (by omega)) k_M_push ml_M_218.1 ml_M_218.2.1 ml_M_218.2.2.1 ml_M_218.2.2.2.1 ml_M_218.2.2.2.2 (by omega) mm_26 (by omega) (Nat.le_of_ble_eq_true rfl) ?_
                  refine vv_iconst (pc := 193) (v := 1) d_M_beginCode_193 rfl ?_
                  obtain ⟨rfl, rfl, hx⟩ := w
                  exact vv_zret (pc := 194) d_M_beginCode_194 rfl hx
              · replace w := w.2 hc
                exact vv_sub [0, 1, 2, 3] rfl (w G h n z d hn hd)
          · replace w := w.2 hc
            refine vv_iconst (pc := 102) (v := 0) d_M_beginCode_102 rfl ?_
            obtain ⟨rfl, rfl, hx⟩ := w
            exact vv_zret (pc := 103) d_M_beginCode_103 rfl hx
        · replace w := w.2 hc
          refine vv_aload_n (pc := 76) d_M_beginCode_76 rfl ?_
          refine vv_sipush (pc := 77) (v := 211) d_M_beginCode_77 rfl ?_
          refine vv_aload_n (pc := 80) d_M_beginCode_80 rfl ?_
          refine vv_iconst (pc := 81) (v := 5) d_M_beginCode_81 rfl ?_
          refine vv_iload_n (pc := 82) d_M_beginCode_82 rfl ?_
          refine vv_bipush (pc := 83) (v := 65) d_M_beginCode_83 rfl ?_
          refine vv_isub (pc := 85) d_M_beginCode_85 ?_
          refine vv_iload_n (pc := 86) d_M_beginCode_86 rfl ?_
          obtain ⟨r35, T34, c33, w⟩ := w
          refine vv_callV (pc := 87) (As := [.int 5, .int (x1 - 65), .int x2]) d_M_beginCode_87 (c33 G h n z (d - 1) hn (by omega)) k_M_node ml_M_211.1 ml_M_211.2.1 ml_M_211.2.2.1 ml_M_211.2.2.2.1 ml_M_211.2.2.2.2 (by omega) mm_26 (by omega) (Nat.le_of_ble_eq_true rfl) ?_
          refine vv_iload_n (pc := 90) d_M_beginCode_90 rfl ?_
          obtain ⟨T37, c36, w⟩ := w
          refine vv_callV (pc := 91) (As := [.int 211, .int r35, .int x3]) d_M_beginCode_91 (c36 G h n z (d - 1) hn (by omega)) k_M_push ml_M_218.1 ml_M_218.2.1 ml_M_218.2.2.1 ml_M_218.2.2.2.1 ml_M_218.2.2.2.2 (by omega) mm_26 (by omega) (Nat.le_of_ble_eq_true rfl) ?_
          refine vv_iconst (pc := 94) (v := 1) d_M_beginCode_94 rfl ?_
          obtain ⟨rfl, rfl, hx⟩ := w
          exact vv_zret (pc := 95) d_M_beginCode_95 rfl hx
      · replace w := w.2 hc
        exact vv_sub [0, 1, 2, 3] rfl (w G h n z d hn hd)
theorem c_M_beginCode {o : Option Value} {S' S : cp_S} {x1 : Int32} {x2 : Int32} {x3 : Int32} (w : JJ 1 m_M_beginCode o S' 0 [(1, .int x1), (2, .int x2), (3, .int x3)] S) : MC 1 m_M_beginCode [.int x1, .int x2, .int x3] S o S' := fun G h n z d hn hd => cp_C.of rfl (Nat.le_of_ble_eq_true rfl) (w G h n z d hn hd)
def wp_M_beginCode_20 (o : Option Value) (S' : cp_S) (S : cp_S) (x1 : Int32) (x2 : Int32) (x3 : Int32) : Prop := ∃ r2, SC m_M_isVariable [.int x1] (some (.int r2)) ∧ (((r2 : Int32) = 0 → ((¬ (x1 : Int32) = 126 → ∃ r4, SC m_M_isVariable [.int x1] (some (.int r4)) ∧ (((r4 : Int32) = 0 → ∃ r7 T6, MC 0 m_M_node [.int 2, .int (x1 - 48), .int x2] S (some (.int r7)) T6 ∧ (o = some (.int 1) ∧ S' = T6 ∧ narrow .boolean (.int 1) = .int 1)) ∧ (¬ (r4 : Int32) = 0 → ∃ r10 T9, MC 0 m_M_node [.int 2, .int (x1 - 97), .int x2] S (some (.int r10)) T9 ∧ (o = some (.int 1) ∧ S' = T9 ∧ narrow .boolean (.int 1) = .int 1)))) ∧ ((x1 : Int32) = 126 → ∃ r12, SC m_M_isVariable [.int x1] (some (.int r12)) ∧ (((r12 : Int32) = 0 → ∃ r15 T14, MC 0 m_M_node [.int 10, .int (x1 - 48), .int x2] S (some (.int r15)) T14 ∧ (o = some (.int 1) ∧ S' = T14 ∧ narrow .boolean (.int 1) = .int 1)) ∧ (¬ (r12 : Int32) = 0 → ∃ r18 T17, MC 0 m_M_node [.int 10, .int (x1 - 97), .int x2] S (some (.int r18)) T17 ∧ (o = some (.int 1) ∧ S' = T17 ∧ narrow .boolean (.int 1) = .int 1)))))) ∧ (¬ (r2 : Int32) = 0 → ∃ r20, SC m_M_isVariable [.int x1] (some (.int r20)) ∧ (((r20 : Int32) = 0 → ∃ r23 T22, MC 0 m_M_node [.int 1, .int (x1 - 48), .int x2] S (some (.int r23)) T22 ∧ (o = some (.int 1) ∧ S' = T22 ∧ narrow .boolean (.int 1) = .int 1)) ∧ (¬ (r20 : Int32) = 0 → ∃ r26 T25, MC 0 m_M_node [.int 1, .int (x1 - 97), .int x2] S (some (.int r26)) T25 ∧ (o = some (.int 1) ∧ S' = T25 ∧ narrow .boolean (.int 1) = .int 1)))))
theorem b_M_beginCode_20 {o : Option Value} {S' S : cp_S} {x1 : Int32} {x2 : Int32} {x3 : Int32} (w : wp_M_beginCode_20 o S' S x1 x2 x3) : JJ 1 m_M_beginCode o S' 20 [(1, .int x1), (2, .int x2), (3, .int x3)] S := by
  unfold wp_M_beginCode_20 at w
  intro G h n z d hn hd
  refine vv_aload_n (pc := 20) d_M_beginCode_20 rfl ?_
  refine vv_iload_n (pc := 21) d_M_beginCode_21 rfl ?_
  obtain ⟨r2, c1, w⟩ := w
  refine vv_callS (pc := 22) (As := [.int x1]) d_M_beginCode_22 (c1 G (mm G h S) n z (d - 1)) k_M_isVariable ml_M_204.1 ml_M_204.2 (by omega) (Nat.le_of_ble_eq_true rfl) ?_
  refine vv_if_eq (pc := 25) (tgt := 32) d_M_beginCode_25 rfl (fun hc => ?_) (fun hc => ?_)
  · replace w := w.1 hc
    refine vv_iload_n (pc := 32) d_M_beginCode_32 rfl ?_
    refine vv_bipush (pc := 33) (v := 126) d_M_beginCode_33 rfl ?_
    refine vv_icmp_ne (pc := 35) (tgt := 43) d_M_beginCode_35 rfl (fun hc => ?_) (fun hc => ?_)
    · replace w := w.1 hc
      refine vv_iconst (pc := 43) (v := 2) d_M_beginCode_43 rfl ?_
      refine vv_iload_n (pc := 44) d_M_beginCode_44 rfl ?_
      obtain ⟨r4, c3, w⟩ := w
      refine vv_callS (pc := 45) (As := [.int x1]) d_M_beginCode_45 (c3 G (mm G h S) n z (d - 1)) k_M_isVariable ml_M_204.1 ml_M_204.2 (by omega) (Nat.le_of_ble_eq_true rfl) ?_
      refine vv_if_eq (pc := 48) (tgt := 58) d_M_beginCode_48 rfl (fun hc => ?_) (fun hc => ?_)
      · replace w := w.1 hc
        refine vv_iload_n (pc := 58) d_M_beginCode_58 rfl ?_
        refine vv_bipush (pc := 59) (v := 48) d_M_beginCode_59 rfl ?_
        refine vv_isub (pc := 61) d_M_beginCode_61 ?_
        refine vv_iload_n (pc := 62) d_M_beginCode_62 rfl ?_
        obtain ⟨r7, T6, c5, w⟩ := w
        refine vv_callV (pc := 63) (As := [.int 2, .int (x1 - 48), .int x2]) d_M_beginCode_63 (c5 G h n z (d - 1) hn (by omega)) k_M_node ml_M_211.1 ml_M_211.2.1 ml_M_211.2.2.1 ml_M_211.2.2.2.1 ml_M_211.2.2.2.2 (by omega) mm_26 (by omega) (Nat.le_of_ble_eq_true rfl) ?_
        refine vv_pop (pc := 66) d_M_beginCode_66 rfl ?_
        refine vv_iconst (pc := 67) (v := 1) d_M_beginCode_67 rfl ?_
        obtain ⟨rfl, rfl, hx⟩ := w
        exact vv_zret (pc := 68) d_M_beginCode_68 rfl hx
      · replace w := w.2 hc
        refine vv_iload_n (pc := 51) d_M_beginCode_51 rfl ?_
        refine vv_bipush (pc := 52) (v := 97) d_M_beginCode_52 rfl ?_
        refine vv_isub (pc := 54) d_M_beginCode_54 ?_
        refine vv_goto (pc := 55) (tgt := 62) d_M_beginCode_55 rfl ?_
        refine vv_iload_n (pc := 62) d_M_beginCode_62 rfl ?_
        obtain ⟨r10, T9, c8, w⟩ := w
        refine vv_callV (pc := 63) (As := [.int 2, .int (x1 - 97), .int x2]) d_M_beginCode_63 (c8 G h n z (d - 1) hn (by omega)) k_M_node ml_M_211.1 ml_M_211.2.1 ml_M_211.2.2.1 ml_M_211.2.2.2.1 ml_M_211.2.2.2.2 (by omega) mm_26 (by omega) (Nat.le_of_ble_eq_true rfl) ?_
        refine vv_pop (pc := 66) d_M_beginCode_66 rfl ?_
        refine vv_iconst (pc := 67) (v := 1) d_M_beginCode_67 rfl ?_
        obtain ⟨rfl, rfl, hx⟩ := w
        exact vv_zret (pc := 68) d_M_beginCode_68 rfl hx
    · replace w := w.2 hc
      refine vv_bipush (pc := 38) (v := 10) d_M_beginCode_38 rfl ?_
      refine vv_goto (pc := 40) (tgt := 44) d_M_beginCode_40 rfl ?_
      refine vv_iload_n (pc := 44) d_M_beginCode_44 rfl ?_
      obtain ⟨r12, c11, w⟩ := w
      refine vv_callS (pc := 45) (As := [.int x1]) d_M_beginCode_45 (c11 G (mm G h S) n z (d - 1)) k_M_isVariable ml_M_204.1 ml_M_204.2 (by omega) (Nat.le_of_ble_eq_true rfl) ?_
      refine vv_if_eq (pc := 48) (tgt := 58) d_M_beginCode_48 rfl (fun hc => ?_) (fun hc => ?_)
      · replace w := w.1 hc
        refine vv_iload_n (pc := 58) d_M_beginCode_58 rfl ?_
        refine vv_bipush (pc := 59) (v := 48) d_M_beginCode_59 rfl ?_
        refine vv_isub (pc := 61) d_M_beginCode_61 ?_
        refine vv_iload_n (pc := 62) d_M_beginCode_62 rfl ?_
        obtain ⟨r15, T14, c13, w⟩ := w
        refine vv_callV (pc := 63) (As := [.int 10, .int (x1 - 48), .int x2]) d_M_beginCode_63 (c13 G h n z (d - 1) hn (by omega)) k_M_node ml_M_211.1 ml_M_211.2.1 ml_M_211.2.2.1 ml_M_211.2.2.2.1 ml_M_211.2.2.2.2 (by omega) mm_26 (by omega) (Nat.le_of_ble_eq_true rfl) ?_
        refine vv_pop (pc := 66) d_M_beginCode_66 rfl ?_
        refine vv_iconst (pc := 67) (v := 1) d_M_beginCode_67 rfl ?_
        obtain ⟨rfl, rfl, hx⟩ := w
        exact vv_zret (pc := 68) d_M_beginCode_68 rfl hx
      · replace w := w.2 hc
        refine vv_iload_n (pc := 51) d_M_beginCode_51 rfl ?_
        refine vv_bipush (pc := 52) (v := 97) d_M_beginCode_52 rfl ?_
        refine vv_isub (pc := 54) d_M_beginCode_54 ?_
        refine vv_goto (pc := 55) (tgt := 62) d_M_beginCode_55 rfl ?_
        refine vv_iload_n (pc := 62) d_M_beginCode_62 rfl ?_
        obtain ⟨r18, T17, c16, w⟩ := w
        refine vv_callV (pc := 63) (As := [.int 10, .int (x1 - 97), .int x2]) d_M_beginCode_63 (c16 G h n z (d - 1) hn (by omega)) k_M_node ml_M_211.1 ml_M_211.2.1 ml_M_211.2.2.1 ml_M_211.2.2.2.1 ml_M_211.2.2.2.2 (by omega) mm_26 (by omega) (Nat.le_of_ble_eq_true rfl) ?_
        refine vv_pop (pc := 66) d_M_beginCode_66 rfl ?_
        refine vv_iconst (pc := 67) (v := 1) d_M_beginCode_67 rfl ?_
        obtain ⟨rfl, rfl, hx⟩ := w
        exact vv_zret (pc := 68) d_M_beginCode_68 rfl hx
  · replace w := w.2 hc
    refine vv_iconst (pc := 28) (v := 1) d_M_beginCode_28 rfl ?_
    refine vv_goto (pc := 29) (tgt := 44) d_M_beginCode_29 rfl ?_
    refine vv_iload_n (pc := 44) d_M_beginCode_44 rfl ?_
    obtain ⟨r20, c19, w⟩ := w
    refine vv_callS (pc := 45) (As := [.int x1]) d_M_beginCode_45 (c19 G (mm G h S) n z (d - 1)) k_M_isVariable ml_M_204.1 ml_M_204.2 (by omega) (Nat.le_of_ble_eq_true rfl) ?_
    refine vv_if_eq (pc := 48) (tgt := 58) d_M_beginCode_48 rfl (fun hc => ?_) (fun hc => ?_)
    · replace w := w.1 hc
      refine vv_iload_n (pc := 58) d_M_beginCode_58 rfl ?_
      refine vv_bipush (pc := 59) (v := 48) d_M_beginCode_59 rfl ?_
      refine vv_isub (pc := 61) d_M_beginCode_61 ?_
      refine vv_iload_n (pc := 62) d_M_beginCode_62 rfl ?_
      obtain ⟨r23, T22, c21, w⟩ := w
      refine vv_callV (pc := 63) (As := [.int 1, .int (x1 - 48), .int x2]) d_M_beginCode_63 (c21 G h n z (d - 1) hn (by omega)) k_M_node ml_M_211.1 ml_M_211.2.1 ml_M_211.2.2.1 ml_M_211.2.2.2.1 ml_M_211.2.2.2.2 (by omega) mm_26 (by omega) (Nat.le_of_ble_eq_true rfl) ?_
      refine vv_pop (pc := 66) d_M_beginCode_66 rfl ?_
      refine vv_iconst (pc := 67) (v := 1) d_M_beginCode_67 rfl ?_
      obtain ⟨rfl, rfl, hx⟩ := w
      exact vv_zret (pc := 68) d_M_beginCode_68 rfl hx
    · replace w := w.2 hc
      refine vv_iload_n (pc := 51) d_M_beginCode_51 rfl ?_
      refine vv_bipush (pc := 52) (v := 97) d_M_beginCode_52 rfl ?_
      refine vv_isub (pc := 54) d_M_beginCode_54 ?_
      refine vv_goto (pc := 55) (tgt := 62) d_M_beginCode_55 rfl ?_
      refine vv_iload_n (pc := 62) d_M_beginCode_62 rfl ?_
      obtain ⟨r26, T25, c24, w⟩ := w
      refine vv_callV (pc := 63) (As := [.int 1, .int (x1 - 97), .int x2]) d_M_beginCode_63 (c24 G h n z (d - 1) hn (by omega)) k_M_node ml_M_211.1 ml_M_211.2.1 ml_M_211.2.2.1 ml_M_211.2.2.2.1 ml_M_211.2.2.2.2 (by omega) mm_26 (by omega) (Nat.le_of_ble_eq_true rfl) ?_
      refine vv_pop (pc := 66) d_M_beginCode_66 rfl ?_
      refine vv_iconst (pc := 67) (v := 1) d_M_beginCode_67 rfl ?_
      obtain ⟨rfl, rfl, hx⟩ := w
      exact vv_zret (pc := 68) d_M_beginCode_68 rfl hx
def wp_M_beginCode_116 (o : Option Value) (S' : cp_S) (S : cp_S) (x1 : Int32) (x2 : Int32) (x3 : Int32) : Prop := ((¬ (x1 : Int32) = 43 → ∃ r3 T2, MC 0 m_M_node [.int 7, .int 0, .int x2] S (some (.int r3)) T2 ∧ ∃ T5, MC 0 m_M_push [.int 210, .int (x3 + 1), .int 0] T2 none T5 ∧ ∃ T7, MC 0 m_M_push [.int 210, .int (x3 + 1), .int 0] T5 none T7 ∧ (o = some (.int 1) ∧ S' = T7 ∧ narrow .boolean (.int 1) = .int 1)) ∧ ((x1 : Int32) = 43 → ∃ r10 T9, MC 0 m_M_node [.int 6, .int 0, .int x2] S (some (.int r10)) T9 ∧ ∃ T12, MC 0 m_M_push [.int 210, .int (x3 + 1), .int 0] T9 none T12 ∧ ∃ T14, MC 0 m_M_push [.int 210, .int (x3 + 1), .int 0] T12 none T14 ∧ (o = some (.int 1) ∧ S' = T14 ∧ narrow .boolean (.int 1) = .int 1)))
theorem b_M_beginCode_116 {o : Option Value} {S' S : cp_S} {x1 : Int32} {x2 : Int32} {x3 : Int32} (w : wp_M_beginCode_116 o S' S x1 x2 x3) : JJ 1 m_M_beginCode o S' 116 [(1, .int x1), (2, .int x2), (3, .int x3)] S := by
  unfold wp_M_beginCode_116 at w
  intro G h n z d hn hd
  refine vv_aload_n (pc := 116) d_M_beginCode_116 rfl ?_
  refine vv_iload_n (pc := 117) d_M_beginCode_117 rfl ?_
  refine vv_bipush (pc := 118) (v := 43) d_M_beginCode_118 rfl ?_
  refine vv_icmp_ne (pc := 120) (tgt := 128) d_M_beginCode_120 rfl (fun hc => ?_) (fun hc => ?_)
  · replace w := w.1 hc
    refine vv_bipush (pc := 128) (v := 7) d_M_beginCode_128 rfl ?_
    refine vv_iconst (pc := 130) (v := 0) d_M_beginCode_130 rfl ?_
    refine vv_iload_n (pc := 131) d_M_beginCode_131 rfl ?_
    obtain ⟨r3, T2, c1, w⟩ := w
    refine vv_callV (pc := 132) (As := [.int 7, .int 0, .int x2]) d_M_beginCode_132 (c1 G h n z (d - 1) hn (by omega)) k_M_node ml_M_211.1 ml_M_211.2.1 ml_M_211.2.2.1 ml_M_211.2.2.2.1 ml_M_211.2.2.2.2 (by omega) mm_26 (by omega) (Nat.le_of_ble_eq_true rfl) ?_
    refine vv_pop (pc := 135) d_M_beginCode_135 rfl ?_
    refine vv_aload_n (pc := 136) d_M_beginCode_136 rfl ?_
    refine vv_sipush (pc := 137) (v := 210) d_M_beginCode_137 rfl ?_
    refine vv_iload_n (pc := 140) d_M_beginCode_140 rfl ?_
    refine vv_iconst (pc := 141) (v := 1) d_M_beginCode_141 rfl ?_
    refine vv_iadd (pc := 142) d_M_beginCode_142 ?_
    refine vv_iconst (pc := 143) (v := 0) d_M_beginCode_143 rfl ?_
    obtain ⟨T5, c4, w⟩ := w
    refine vv_callV (pc := 144) (As := [.int 210, .int (x3 + 1), .int 0]) d_M_beginCode_144 (c4 G h n z (d - 1) hn (by omega)) k_M_push ml_M_218.1 ml_M_218.2.1 ml_M_218.2.2.1 ml_M_218.2.2.2.1 ml_M_218.2.2.2.2 (by omega) mm_26 (by omega) (Nat.le_of_ble_eq_true rfl) ?_
    refine vv_aload_n (pc := 147) d_M_beginCode_147 rfl ?_
    refine vv_sipush (pc := 148) (v := 210) d_M_beginCode_148 rfl ?_
    refine vv_iload_n (pc := 151) d_M_beginCode_151 rfl ?_
    refine vv_iconst (pc := 152) (v := 1) d_M_beginCode_152 rfl ?_
    refine vv_iadd (pc := 153) d_M_beginCode_153 ?_
    refine vv_iconst (pc := 154) (v := 0) d_M_beginCode_154 rfl ?_
    obtain ⟨T7, c6, w⟩ := w
    refine vv_callV (pc := 155) (As := [.int 210, .int (x3 + 1), .int 0]) d_M_beginCode_155 (c6 G h n z (d - 1) hn (by omega)) k_M_push ml_M_218.1 ml_M_218.2.1 ml_M_218.2.2.1 ml_M_218.2.2.2.1 ml_M_218.2.2.2.2 (by omega) mm_26 (by omega) (Nat.le_of_ble_eq_true rfl) ?_
    refine vv_iconst (pc := 158) (v := 1) d_M_beginCode_158 rfl ?_
    obtain ⟨rfl, rfl, hx⟩ := w
    exact vv_zret (pc := 159) d_M_beginCode_159 rfl hx
  · replace w := w.2 hc
    refine vv_bipush (pc := 123) (v := 6) d_M_beginCode_123 rfl ?_
    refine vv_goto (pc := 125) (tgt := 130) d_M_beginCode_125 rfl ?_
    refine vv_iconst (pc := 130) (v := 0) d_M_beginCode_130 rfl ?_
    refine vv_iload_n (pc := 131) d_M_beginCode_131 rfl ?_
    obtain ⟨r10, T9, c8, w⟩ := w
    refine vv_callV (pc := 132) (As := [.int 6, .int 0, .int x2]) d_M_beginCode_132 (c8 G h n z (d - 1) hn (by omega)) k_M_node ml_M_211.1 ml_M_211.2.1 ml_M_211.2.2.1 ml_M_211.2.2.2.1 ml_M_211.2.2.2.2 (by omega) mm_26 (by omega) (Nat.le_of_ble_eq_true rfl) ?_
    refine vv_pop (pc := 135) d_M_beginCode_135 rfl ?_
    refine vv_aload_n (pc := 136) d_M_beginCode_136 rfl ?_
    refine vv_sipush (pc := 137) (v := 210) d_M_beginCode_137 rfl ?_
    refine vv_iload_n (pc := 140) d_M_beginCode_140 rfl ?_
    refine vv_iconst (pc := 141) (v := 1) d_M_beginCode_141 rfl ?_
    refine vv_iadd (pc := 142) d_M_beginCode_142 ?_
    refine vv_iconst (pc := 143) (v := 0) d_M_beginCode_143 rfl ?_
    obtain ⟨T12, c11, w⟩ := w
    refine vv_callV (pc := 144) (As := [.int 210, .int (x3 + 1), .int 0]) d_M_beginCode_144 (c11 G h n z (d - 1) hn (by omega)) k_M_push ml_M_218.1 ml_M_218.2.1 ml_M_218.2.2.1 ml_M_218.2.2.2.1 ml_M_218.2.2.2.2 (by omega) mm_26 (by omega) (Nat.le_of_ble_eq_true rfl) ?_
    refine vv_aload_n (pc := 147) d_M_beginCode_147 rfl ?_
    refine vv_sipush (pc := 148) (v := 210) d_M_beginCode_148 rfl ?_
    refine vv_iload_n (pc := 151) d_M_beginCode_151 rfl ?_
    refine vv_iconst (pc := 152) (v := 1) d_M_beginCode_152 rfl ?_
    refine vv_iadd (pc := 153) d_M_beginCode_153 ?_
    refine vv_iconst (pc := 154) (v := 0) d_M_beginCode_154 rfl ?_
    obtain ⟨T14, c13, w⟩ := w
    refine vv_callV (pc := 155) (As := [.int 210, .int (x3 + 1), .int 0]) d_M_beginCode_155 (c13 G h n z (d - 1) hn (by omega)) k_M_push ml_M_218.1 ml_M_218.2.1 ml_M_218.2.2.1 ml_M_218.2.2.2.1 ml_M_218.2.2.2.2 (by omega) mm_26 (by omega) (Nat.le_of_ble_eq_true rfl) ?_
    refine vv_iconst (pc := 158) (v := 1) d_M_beginCode_158 rfl ?_
    obtain ⟨rfl, rfl, hx⟩ := w
    exact vv_zret (pc := 159) d_M_beginCode_159 rfl hx
def wp_M_part_0 (o : Option Value) (S' : cp_S) (S : cp_S) (x1 : Int32) (x2 : Int32) (x3 : Int32) (x4 : Int32) : Prop := vp_in (S.1 33) (cp_ml 44) ∧ vp_in (S.1 33) (cp_ml 45) ∧ vp_in (S.1 33) (cp_ml 46) ∧ vp_in (S.1 33) (cp_ml 47) ∧ vp_in (S.1 33) (cp_ml 48) ∧ (o = some (.int (((S.1 33) + 1) - 1)) ∧ S' = ((va_up S.1 33 ((S.1 33) + 1)), (va_up (va_up (va_up (va_up (va_up S.2 44 (upd (S.2 44) (Int32.toNatClampNeg (S.1 33)) x1)) 45 (upd (S.2 45) (Int32.toNatClampNeg (S.1 33)) x2)) 46 (upd (S.2 46) (Int32.toNatClampNeg (S.1 33)) (S.1 16))) 47 (upd (S.2 47) (Int32.toNatClampNeg (S.1 33)) x3)) 48 (upd (S.2 48) (Int32.toNatClampNeg (S.1 33)) x4))))
theorem b_M_part_0 {o : Option Value} {S' S : cp_S} {x1 : Int32} {x2 : Int32} {x3 : Int32} {x4 : Int32} (w : wp_M_part_0 o S' S x1 x2 x3 x4) : JJ 0 m_M_part o S' 0 [(1, .int x1), (2, .int x2), (3, .int x3), (4, .int x4)] S := by
  unfold wp_M_part_0 at w
  intro G h n z d hn hd
  refine vv_aload_n (pc := 0) d_M_part_0 rfl ?_
  refine ww_gr (pc := 1) 24 44 d_M_part_1 fl_M_61 (by omega) rfl (by decide) ?_
  refine vv_aload_n (pc := 4) d_M_part_4 rfl ?_
  refine ww_gi (pc := 5) 33 d_M_part_5 fl_M_222 (by omega) rfl ?_
  refine vv_iload_n (pc := 8) d_M_part_8 rfl ?_
  obtain ⟨b1, w⟩ := w
  refine ww_st (pc := 9) 44 d_M_part_9 (by omega) (by decide) b1 ?_
  refine vv_aload_n (pc := 10) d_M_part_10 rfl ?_
  refine ww_gr (pc := 11) 25 45 d_M_part_11 fl_M_64 (by omega) rfl (by decide) ?_
  refine vv_aload_n (pc := 14) d_M_part_14 rfl ?_
  refine ww_gi (pc := 15) 33 d_M_part_15 fl_M_222 (by omega) rfl ?_
  refine vv_iload_n (pc := 18) d_M_part_18 rfl ?_
  obtain ⟨b2, w⟩ := w
  refine ww_st (pc := 19) 45 d_M_part_19 (by omega) (by decide) b2 ?_
  refine vv_aload_n (pc := 20) d_M_part_20 rfl ?_
  refine ww_gr (pc := 21) 26 46 d_M_part_21 fl_M_67 (by omega) rfl (by decide) ?_
  refine vv_aload_n (pc := 24) d_M_part_24 rfl ?_
  refine ww_gi (pc := 25) 33 d_M_part_25 fl_M_222 (by omega) rfl ?_
  refine vv_aload_n (pc := 28) d_M_part_28 rfl ?_
  refine ww_gi (pc := 29) 16 d_M_part_29 fl_M_194 (by omega) rfl ?_
  obtain ⟨b3, w⟩ := w
  refine ww_st (pc := 32) 46 d_M_part_32 (by omega) (by decide) b3 ?_
  refine vv_aload_n (pc := 33) d_M_part_33 rfl ?_
  refine ww_gr (pc := 34) 27 47 d_M_part_34 fl_M_70 (by omega) rfl (by decide) ?_
  refine vv_aload_n (pc := 37) d_M_part_37 rfl ?_
  refine ww_gi (pc := 38) 33 d_M_part_38 fl_M_222 (by omega) rfl ?_
  refine vv_iload_n (pc := 41) d_M_part_41 rfl ?_
  obtain ⟨b4, w⟩ := w
  refine ww_st (pc := 42) 47 d_M_part_42 (by omega) (by decide) b4 ?_
  refine vv_aload_n (pc := 43) d_M_part_43 rfl ?_
  refine ww_gr (pc := 44) 28 48 d_M_part_44 fl_M_73 (by omega) rfl (by decide) ?_
  refine vv_aload_n (pc := 47) d_M_part_47 rfl ?_
  refine ww_gi (pc := 48) 33 d_M_part_48 fl_M_222 (by omega) rfl ?_
  refine vv_iload (pc := 51) d_M_part_51 rfl ?_
  obtain ⟨b5, w⟩ := w
  refine ww_st (pc := 53) 48 d_M_part_53 (by omega) (by decide) b5 ?_
  refine vv_aload_n (pc := 54) d_M_part_54 rfl ?_
  refine vv_dup (pc := 55) d_M_part_55 rfl ?_
  refine ww_gi (pc := 56) 33 d_M_part_56 fl_M_222 (by omega) rfl ?_
  refine vv_iconst (pc := 59) (v := 1) d_M_part_59 rfl ?_
  refine vv_iadd (pc := 60) d_M_part_60 ?_
  refine ww_pi (pc := 61) 33 d_M_part_61 fl_M_222 (by omega) rfl rfl rfl rfl ?_
  refine vv_aload_n (pc := 64) d_M_part_64 rfl ?_
  refine ww_gi (pc := 65) 33 d_M_part_65 fl_M_222 (by omega) rfl ?_
  refine vv_topi (y := ((S.1 33) + 1)) rfl ?_
  refine vv_iconst (pc := 68) (v := 1) d_M_part_68 rfl ?_
  refine vv_isub (pc := 69) d_M_part_69 ?_
  obtain ⟨rfl, rfl⟩ := w
  exact vv_iret (pc := 70) d_M_part_70 rfl
theorem c_M_part {o : Option Value} {S' S : cp_S} {x1 : Int32} {x2 : Int32} {x3 : Int32} {x4 : Int32} (w : JJ 0 m_M_part o S' 0 [(1, .int x1), (2, .int x2), (3, .int x3), (4, .int x4)] S) : MC 0 m_M_part [.int x1, .int x2, .int x3, .int x4] S o S' := fun G h n z d hn hd => cp_C.of rfl (Nat.le_of_ble_eq_true rfl) (w G h n z d hn hd)
def wp_M_beginPart_0 (o : Option Value) (S' : cp_S) (S : cp_S) (x1 : Int32) (x2 : Int32) (x3 : Int32) : Prop := ∃ T2, MC 0 m_M_push [.int 205, .int (x3 + 1), .int 0] S none T2 ∧ ∃ r4, SC m_M_isVariable [.int x1] (some (.int r4)) ∧ (((r4 : Int32) = 0 → (((x1 : Int32) = 35 → JJ 2 m_M_beginPart o S' 62 [(1, .int x1), (2, .int x2), (3, .int x3)] T2) ∧ (¬ (x1 : Int32) = 35 → ∃ r6, SC m_M_isLetter [.int x1] (some (.int r6)) ∧ (((r6 : Int32) = 0 → (((x1 : Int32) = 63 → ∃ r9 T8, MC 0 m_M_part [.int 2, .int (-1), .int 1, .int x2] T2 (some (.int r9)) T8 ∧ ∃ T11, MC 0 m_M_push [.int 200, .int 2, .int 0] T8 none T11 ∧ ∃ T13, MC 0 m_M_push [.int 61, .int 0, .int 0] T11 none T13 ∧ ∃ T15, MC 0 m_M_push [.int 208, .int r9, .int 0] T13 none T15 ∧ ∃ T17, MC 0 m_M_push [.int 200, .int 2, .int 0] T15 none T17 ∧ ∃ T19, MC 0 m_M_push [.int 40, .int 0, .int 0] T17 none T19 ∧ ∃ T21, MC 0 m_M_push [.int 207, .int r9, .int 0] T19 none T21 ∧ (o = some (.int 1) ∧ S' = T21 ∧ narrow .boolean (.int 1) = .int 1)) ∧ (¬ (x1 : Int32) = 63 → (o = some (.int 0) ∧ S' = T2 ∧ narrow .boolean (.int 0) = .int 0)))) ∧ (¬ (r6 : Int32) = 0 → JJ 2 m_M_beginPart o S' 62 [(1, .int x1), (2, .int x2), (3, .int x3)] T2))))) ∧ (¬ (r4 : Int32) = 0 → ∃ r24 T23, MC 0 m_M_part [.int 0, .int (x1 - 97), .int 1, .int x2] T2 (some (.int r24)) T23 ∧ ∃ T26, MC 0 m_M_push [.int 200, .int 2, .int 0] T23 none T26 ∧ ∃ T28, MC 0 m_M_push [.int 58, .int 0, .int 0] T26 none T28 ∧ (o = some (.int 1) ∧ S' = T28 ∧ narrow .boolean (.int 1) = .int 1)))
theorem b_M_beginPart_0 {o : Option Value} {S' S : cp_S} {x1 : Int32} {x2 : Int32} {x3 : Int32} (w : wp_M_beginPart_0 o S' S x1 x2 x3) : JJ 2 m_M_beginPart o S' 0 [(1, .int x1), (2, .int x2), (3, .int x3)] S := by
  unfold wp_M_beginPart_0 at w
  intro G h n z d hn hd
  refine vv_aload_n (pc := 0) d_M_beginPart_0 rfl ?_
  refine vv_sipush (pc := 1) (v := 205) d_M_beginPart_1 rfl ?_
  refine vv_iload_n (pc := 4) d_M_beginPart_4 rfl ?_
  refine vv_iconst (pc := 5) (v := 1) d_M_beginPart_5 rfl ?_
  refine vv_iadd (pc := 6) d_M_beginPart_6 ?_
  refine vv_iconst (pc := 7) (v := 0) d_M_beginPart_7 rfl ?_
  obtain ⟨T2, c1, w⟩ := w
  refine vv_callV (pc := 8) (As := [.int 205, .int (x3 + 1), .int 0]) d_M_beginPart_8 (c1 G h n z (d - 1) hn (by omega)) k_M_push ml_M_218.1 ml_M_218.2.1 ml_M_218.2.2.1 ml_M_218.2.2.2.1 ml_M_218.2.2.2.2 (by omega) mm_26 (by omega) (Nat.le_of_ble_eq_true rfl) ?_
  refine vv_iload_n (pc := 11) d_M_beginPart_11 rfl ?_
  obtain ⟨r4, c3, w⟩ := w
  refine vv_callS (pc := 12) (As := [.int x1]) d_M_beginPart_12 (c3 G (mm G h T2) n z (d - 1)) k_M_isVariable ml_M_204.1 ml_M_204.2 (by omega) (Nat.le_of_ble_eq_true rfl) ?_
  refine vv_if_eq (pc := 15) (tgt := 49) d_M_beginPart_15 rfl (fun hc => ?_) (fun hc => ?_)
  · replace w := w.1 hc
    refine vv_iload_n (pc := 49) d_M_beginPart_49 rfl ?_
    refine vv_bipush (pc := 50) (v := 35) d_M_beginPart_50 rfl ?_
    refine vv_icmp_eq (pc := 52) (tgt := 62) d_M_beginPart_52 rfl (fun hc => ?_) (fun hc => ?_)
    · replace w := w.1 hc
      exact vv_sub [0, 1, 2, 3] rfl (w G h n z d hn hd)
    · replace w := w.2 hc
      refine vv_iload_n (pc := 55) d_M_beginPart_55 rfl ?_
      obtain ⟨r6, c5, w⟩ := w
      refine vv_callS (pc := 56) (As := [.int x1]) d_M_beginPart_56 (c5 G (mm G h T2) n z (d - 1)) k_M_isLetter ml_M_215.1 ml_M_215.2 (by omega) (Nat.le_of_ble_eq_true rfl) ?_
      refine vv_if_eq (pc := 59) (tgt := 79) d_M_beginPart_59 rfl (fun hc => ?_) (fun hc => ?_)
      · replace w := w.1 hc
        refine vv_iload_n (pc := 79) d_M_beginPart_79 rfl ?_
        refine vv_bipush (pc := 80) (v := 63) d_M_beginPart_80 rfl ?_
        refine vv_icmp_eq (pc := 82) (tgt := 87) d_M_beginPart_82 rfl (fun hc => ?_) (fun hc => ?_)
        · replace w := w.1 hc
          refine vv_aload_n (pc := 87) d_M_beginPart_87 rfl ?_
          refine vv_iconst (pc := 88) (v := 2) d_M_beginPart_88 rfl ?_
          refine vv_iconst (pc := 89) (v := (-1)) d_M_beginPart_89 rfl ?_
          refine vv_iconst (pc := 90) (v := 1) d_M_beginPart_90 rfl ?_
          refine vv_iload_n (pc := 91) d_M_beginPart_91 rfl ?_
          obtain ⟨r9, T8, c7, w⟩ := w
          refine vv_callV (pc := 92) (As := [.int 2, .int (-1), .int 1, .int x2]) d_M_beginPart_92 (c7 G h n z (d - 1) hn (by omega)) k_M_part ml_M_225.1 ml_M_225.2.1 ml_M_225.2.2.1 ml_M_225.2.2.2.1 ml_M_225.2.2.2.2 (by omega) mm_26 (by omega) (Nat.le_of_ble_eq_true rfl) ?_
          refine vv_istore (pc := 95) d_M_beginPart_95 (Nat.le_of_ble_eq_true rfl) ?_
          refine vv_aload_n (pc := 97) d_M_beginPart_97 rfl ?_
          refine vv_sipush (pc := 98) (v := 200) d_M_beginPart_98 rfl ?_
          refine vv_iconst (pc := 101) (v := 2) d_M_beginPart_101 rfl ?_
          refine vv_iconst (pc := 102) (v := 0) d_M_beginPart_102 rfl ?_
          obtain ⟨T11, c10, w⟩ := w
          refine vv_callV (pc := 103) (As := [.int 200, .int 2, .int 0]) d_M_beginPart_103 (c10 G h n z (d - 1) hn (by omega)) k_M_push ml_M_218.1 ml_M_218.2.1 ml_M_218.2.2.1 ml_M_218.2.2.2.1 ml_M_218.2.2.2.2 (by omega) mm_26 (by omega) (Nat.le_of_ble_eq_true rfl) ?_
          refine vv_aload_n (pc := 106) d_M_beginPart_106 rfl ?_
          refine vv_bipush (pc := 107) (v := 61) d_M_beginPart_107 rfl ?_
          refine vv_iconst (pc := 109) (v := 0) d_M_beginPart_109 rfl ?_
          refine vv_iconst (pc := 110) (v := 0) d_M_beginPart_110 rfl ?_
          obtain ⟨T13, c12, w⟩ := w
          refine vv_callV (pc := 111) (As := [.int 61, .int 0, .int 0]) d_M_beginPart_111 (c12 G h n z (d - 1) hn (by omega)) k_M_push ml_M_218.1 ml_M_218.2.1 ml_M_218.2.2.1 ml_M_218.2.2.2.1 ml_M_218.2.2.2.2 (by omega) mm_26 (by omega) (Nat.le_of_ble_eq_true rfl) ?_
          refine vv_aload_n (pc := 114) d_M_beginPart_114 rfl ?_
          refine vv_sipush (pc := 115) (v := 208) d_M_beginPart_115 rfl ?_
          refine vv_iload (pc := 118) d_M_beginPart_118 rfl ?_
          refine vv_iconst (pc := 120) (v := 0) d_M_beginPart_120 rfl ?_
          obtain ⟨T15, c14, w⟩ := w
          refine vv_callV (pc := 121) (As := [.int 208, .int r9, .int 0]) d_M_beginPart_121 (c14 G h n z (d - 1) hn (by omega)) k_M_push ml_M_218.1 ml_M_218.2.1 ml_M_218.2.2.1 ml_M_218.2.2.2.1 ml_M_218.2.2.2.2 (by omega) mm_26 (by omega) (Nat.le_of_ble_eq_true rfl) ?_
          refine vv_aload_n (pc := 124) d_M_beginPart_124 rfl ?_
          refine vv_sipush (pc := 125) (v := 200) d_M_beginPart_125 rfl ?_
          refine vv_iconst (pc := 128) (v := 2) d_M_beginPart_128 rfl ?_
          refine vv_iconst (pc := 129) (v := 0) d_M_beginPart_129 rfl ?_
          obtain ⟨T17, c16, w⟩ := w
          refine vv_callV (pc := 130) (As := [.int 200, .int 2, .int 0]) d_M_beginPart_130 (c16 G h n z (d - 1) hn (by omega)) k_M_push ml_M_218.1 ml_M_218.2.1 ml_M_218.2.2.1 ml_M_218.2.2.2.1 ml_M_218.2.2.2.2 (by omega) mm_26 (by omega) (Nat.le_of_ble_eq_true rfl) ?_
          refine vv_aload_n (pc := 133) d_M_beginPart_133 rfl ?_
          refine vv_bipush (pc := 134) (v := 40) d_M_beginPart_134 rfl ?_
          refine vv_iconst (pc := 136) (v := 0) d_M_beginPart_136 rfl ?_
          refine vv_iconst (pc := 137) (v := 0) d_M_beginPart_137 rfl ?_
          obtain ⟨T19, c18, w⟩ := w
          refine vv_callV (pc := 138) (As := [.int 40, .int 0, .int 0]) d_M_beginPart_138 (c18 G h n z (d - 1) hn (by omega)) k_M_push ml_M_218.1 ml_M_218.2.1 ml_M_218.2.2.1 ml_M_218.2.2.2.1 ml_M_218.2.2.2.2 (by omega) mm_26 (by omega) (Nat.le_of_ble_eq_true rfl) ?_
          refine vv_aload_n (pc := 141) d_M_beginPart_141 rfl ?_
          refine vv_sipush (pc := 142) (v := 207) d_M_beginPart_142 rfl ?_
          refine vv_iload (pc := 145) d_M_beginPart_145 rfl ?_
          refine vv_iconst (pc := 147) (v := 0) d_M_beginPart_147 rfl ?_
          obtain ⟨T21, c20, w⟩ := w
          refine vv_callV (pc := 148) (As := [.int 207, .int r9, .int 0]) d_M_beginPart_148 (c20 G h n z (d - 1) hn (by omega)) k_M_push ml_M_218.1 ml_M_218.2.1 ml_M_218.2.2.1 ml_M_218.2.2.2.1 ml_M_218.2.2.2.2 (by omega) mm_26 (by omega) (Nat.le_of_ble_eq_true rfl) ?_
          refine vv_iconst (pc := 151) (v := 1) d_M_beginPart_151 rfl ?_
          obtain ⟨rfl, rfl, hx⟩ := w
          exact vv_zret (pc := 152) d_M_beginPart_152 rfl hx
        · replace w := w.2 hc
          refine vv_iconst (pc := 85) (v := 0) d_M_beginPart_85 rfl ?_
          obtain ⟨rfl, rfl, hx⟩ := w
          exact vv_zret (pc := 86) d_M_beginPart_86 rfl hx
      · replace w := w.2 hc
        exact vv_sub [0, 1, 2, 3] rfl (w G h n z d hn hd)
  · replace w := w.2 hc
    refine vv_aload_n (pc := 18) d_M_beginPart_18 rfl ?_
    refine vv_iconst (pc := 19) (v := 0) d_M_beginPart_19 rfl ?_
    refine vv_iload_n (pc := 20) d_M_beginPart_20 rfl ?_
    refine vv_bipush (pc := 21) (v := 97) d_M_beginPart_21 rfl ?_
    refine vv_isub (pc := 23) d_M_beginPart_23 ?_
    refine vv_iconst (pc := 24) (v := 1) d_M_beginPart_24 rfl ?_
    refine vv_iload_n (pc := 25) d_M_beginPart_25 rfl ?_
    obtain ⟨r24, T23, c22, w⟩ := w
    refine vv_callV (pc := 26) (As := [.int 0, .int (x1 - 97), .int 1, .int x2]) d_M_beginPart_26 (c22 G h n z (d - 1) hn (by omega)) k_M_part ml_M_225.1 ml_M_225.2.1 ml_M_225.2.2.1 ml_M_225.2.2.2.1 ml_M_225.2.2.2.2 (by omega) mm_26 (by omega) (Nat.le_of_ble_eq_true rfl) ?_
    refine vv_pop (pc := 29) d_M_beginPart_29 rfl ?_
    refine vv_aload_n (pc := 30) d_M_beginPart_30 rfl ?_
    refine vv_sipush (pc := 31) (v := 200) d_M_beginPart_31 rfl ?_
    refine vv_iconst (pc := 34) (v := 2) d_M_beginPart_34 rfl ?_
    refine vv_iconst (pc := 35) (v := 0) d_M_beginPart_35 rfl ?_
    obtain ⟨T26, c25, w⟩ := w
    refine vv_callV (pc := 36) (As := [.int 200, .int 2, .int 0]) d_M_beginPart_36 (c25 G h n z (d - 1) hn (by omega)) k_M_push ml_M_218.1 ml_M_218.2.1 ml_M_218.2.2.1 ml_M_218.2.2.2.1 ml_M_218.2.2.2.2 (by omega) mm_26 (by omega) (Nat.le_of_ble_eq_true rfl) ?_
    refine vv_aload_n (pc := 39) d_M_beginPart_39 rfl ?_
    refine vv_bipush (pc := 40) (v := 58) d_M_beginPart_40 rfl ?_
    refine vv_iconst (pc := 42) (v := 0) d_M_beginPart_42 rfl ?_
    refine vv_iconst (pc := 43) (v := 0) d_M_beginPart_43 rfl ?_
    obtain ⟨T28, c27, w⟩ := w
    refine vv_callV (pc := 44) (As := [.int 58, .int 0, .int 0]) d_M_beginPart_44 (c27 G h n z (d - 1) hn (by omega)) k_M_push ml_M_218.1 ml_M_218.2.1 ml_M_218.2.2.1 ml_M_218.2.2.2.1 ml_M_218.2.2.2.2 (by omega) mm_26 (by omega) (Nat.le_of_ble_eq_true rfl) ?_
    refine vv_iconst (pc := 47) (v := 1) d_M_beginPart_47 rfl ?_
    obtain ⟨rfl, rfl, hx⟩ := w
    exact vv_zret (pc := 48) d_M_beginPart_48 rfl hx
theorem c_M_beginPart {o : Option Value} {S' S : cp_S} {x1 : Int32} {x2 : Int32} {x3 : Int32} (w : JJ 2 m_M_beginPart o S' 0 [(1, .int x1), (2, .int x2), (3, .int x3)] S) : MC 2 m_M_beginPart [.int x1, .int x2, .int x3] S o S' := fun G h n z d hn hd => cp_C.of rfl (Nat.le_of_ble_eq_true rfl) (w G h n z d hn hd)
def wp_M_beginPart_62 (o : Option Value) (S' : cp_S) (S : cp_S) (x1 : Int32) (x2 : Int32) (x3 : Int32) : Prop := ∃ r3 T2, MC 0 m_M_part [.int 1, .int (-1), .int 1, .int x2] S (some (.int r3)) T2 ∧ ∃ r6 T5, MC 1 m_M_beginTerm [.int x1, .int x2, .int 2] T2 (some (.int r6)) T5 ∧ (o = some (.int r6) ∧ S' = T5 ∧ narrow .boolean (.int r6) = .int r6)
theorem b_M_beginPart_62 {o : Option Value} {S' S : cp_S} {x1 : Int32} {x2 : Int32} {x3 : Int32} (w : wp_M_beginPart_62 o S' S x1 x2 x3) : JJ 2 m_M_beginPart o S' 62 [(1, .int x1), (2, .int x2), (3, .int x3)] S := by
  unfold wp_M_beginPart_62 at w
  intro G h n z d hn hd
  refine vv_aload_n (pc := 62) d_M_beginPart_62 rfl ?_
  refine vv_iconst (pc := 63) (v := 1) d_M_beginPart_63 rfl ?_
  refine vv_iconst (pc := 64) (v := (-1)) d_M_beginPart_64 rfl ?_
  refine vv_iconst (pc := 65) (v := 1) d_M_beginPart_65 rfl ?_
  refine vv_iload_n (pc := 66) d_M_beginPart_66 rfl ?_
  obtain ⟨r3, T2, c1, w⟩ := w
  refine vv_callV (pc := 67) (As := [.int 1, .int (-1), .int 1, .int x2]) d_M_beginPart_67 (c1 G h n z (d - 1) hn (by omega)) k_M_part ml_M_225.1 ml_M_225.2.1 ml_M_225.2.2.1 ml_M_225.2.2.2.1 ml_M_225.2.2.2.2 (by omega) mm_26 (by omega) (Nat.le_of_ble_eq_true rfl) ?_
  refine vv_pop (pc := 70) d_M_beginPart_70 rfl ?_
  refine vv_aload_n (pc := 71) d_M_beginPart_71 rfl ?_
  refine vv_iload_n (pc := 72) d_M_beginPart_72 rfl ?_
  refine vv_iload_n (pc := 73) d_M_beginPart_73 rfl ?_
  refine vv_iconst (pc := 74) (v := 2) d_M_beginPart_74 rfl ?_
  obtain ⟨r6, T5, c4, w⟩ := w
  refine vv_callV (pc := 75) (As := [.int x1, .int x2, .int 2]) d_M_beginPart_75 (c4 G h n z (d - 1) hn (by omega)) k_M_beginTerm ml_M_229.1 ml_M_229.2.1 ml_M_229.2.2.1 ml_M_229.2.2.2.1 ml_M_229.2.2.2.2 (by omega) mm_26 (by omega) (Nat.le_of_ble_eq_true rfl) ?_
  obtain ⟨rfl, rfl, hx⟩ := w
  exact vv_zret (pc := 78) d_M_beginPart_78 rfl hx
def wp_M_beginPattern_0 (o : Option Value) (S' : cp_S) (S : cp_S) (x1 : Int32) (x2 : Int32) : Prop := ∃ r2, SC m_M_isLetter [.int x1] (some (.int r2)) ∧ (((r2 : Int32) = 0 → (((x1 : Int32) = 95 → JJ 1 m_M_beginPattern o S' 43 [(1, .int x1), (2, .int x2)] S) ∧ (¬ (x1 : Int32) = 95 → ∃ r4, SC m_M_isDigit [.int x1] (some (.int r4)) ∧ ((¬ (r4 : Int32) = 0 → JJ 1 m_M_beginPattern o S' 43 [(1, .int x1), (2, .int x2)] S) ∧ ((r4 : Int32) = 0 → (o = some (.int 0) ∧ S' = S ∧ narrow .boolean (.int 0) = .int 0)))))) ∧ (¬ (r2 : Int32) = 0 → ∃ r7 T6, MC 0 m_M_node [.int 13, .int (x1 - 65), .int x2] S (some (.int r7)) T6 ∧ ∃ T9, MC 0 m_M_push [.int 215, .int r7, .int 0] T6 none T9 ∧ (o = some (.int 1) ∧ S' = T9 ∧ narrow .boolean (.int 1) = .int 1)))
theorem b_M_beginPattern_0 {o : Option Value} {S' S : cp_S} {x1 : Int32} {x2 : Int32} (w : wp_M_beginPattern_0 o S' S x1 x2) : JJ 1 m_M_beginPattern o S' 0 [(1, .int x1), (2, .int x2)] S := by
  unfold wp_M_beginPattern_0 at w
  intro G h n z d hn hd
  refine vv_iload_n (pc := 0) d_M_beginPattern_0 rfl ?_
  obtain ⟨r2, c1, w⟩ := w
  refine vv_callS (pc := 1) (As := [.int x1]) d_M_beginPattern_1 (c1 G (mm G h S) n z (d - 1)) k_M_isLetter ml_M_215.1 ml_M_215.2 (by omega) (Nat.le_of_ble_eq_true rfl) ?_
  refine vv_if_eq (pc := 4) (tgt := 28) d_M_beginPattern_4 rfl (fun hc => ?_) (fun hc => ?_)
  · replace w := w.1 hc
    refine vv_iload_n (pc := 28) d_M_beginPattern_28 rfl ?_
    refine vv_bipush (pc := 29) (v := 95) d_M_beginPattern_29 rfl ?_
    refine vv_icmp_eq (pc := 31) (tgt := 43) d_M_beginPattern_31 rfl (fun hc => ?_) (fun hc => ?_)
    · replace w := w.1 hc
      exact vv_sub [0, 1, 2] rfl (w G h n z d hn hd)
    · replace w := w.2 hc
      refine vv_iload_n (pc := 34) d_M_beginPattern_34 rfl ?_
      obtain ⟨r4, c3, w⟩ := w
      refine vv_callS (pc := 35) (As := [.int x1]) d_M_beginPattern_35 (c3 G (mm G h S) n z (d - 1)) k_M_isDigit ml_M_208.1 ml_M_208.2 (by omega) (Nat.le_of_ble_eq_true rfl) ?_
      refine vv_if_ne (pc := 38) (tgt := 43) d_M_beginPattern_38 rfl (fun hc => ?_) (fun hc => ?_)
      · replace w := w.1 hc
        exact vv_sub [0, 1, 2] rfl (w G h n z d hn hd)
      · replace w := w.2 hc
        refine vv_iconst (pc := 41) (v := 0) d_M_beginPattern_41 rfl ?_
        obtain ⟨rfl, rfl, hx⟩ := w
        exact vv_zret (pc := 42) d_M_beginPattern_42 rfl hx
  · replace w := w.2 hc
    refine vv_aload_n (pc := 7) d_M_beginPattern_7 rfl ?_
    refine vv_sipush (pc := 8) (v := 215) d_M_beginPattern_8 rfl ?_
    refine vv_aload_n (pc := 11) d_M_beginPattern_11 rfl ?_
    refine vv_bipush (pc := 12) (v := 13) d_M_beginPattern_12 rfl ?_
    refine vv_iload_n (pc := 14) d_M_beginPattern_14 rfl ?_
    refine vv_bipush (pc := 15) (v := 65) d_M_beginPattern_15 rfl ?_
    refine vv_isub (pc := 17) d_M_beginPattern_17 ?_
    refine vv_iload_n (pc := 18) d_M_beginPattern_18 rfl ?_
    obtain ⟨r7, T6, c5, w⟩ := w
    refine vv_callV (pc := 19) (As := [.int 13, .int (x1 - 65), .int x2]) d_M_beginPattern_19 (c5 G h n z (d - 1) hn (by omega)) k_M_node ml_M_211.1 ml_M_211.2.1 ml_M_211.2.2.1 ml_M_211.2.2.2.1 ml_M_211.2.2.2.2 (by omega) mm_26 (by omega) (Nat.le_of_ble_eq_true rfl) ?_
    refine vv_iconst (pc := 22) (v := 0) d_M_beginPattern_22 rfl ?_
    obtain ⟨T9, c8, w⟩ := w
    refine vv_callV (pc := 23) (As := [.int 215, .int r7, .int 0]) d_M_beginPattern_23 (c8 G h n z (d - 1) hn (by omega)) k_M_push ml_M_218.1 ml_M_218.2.1 ml_M_218.2.2.1 ml_M_218.2.2.2.1 ml_M_218.2.2.2.2 (by omega) mm_26 (by omega) (Nat.le_of_ble_eq_true rfl) ?_
    refine vv_iconst (pc := 26) (v := 1) d_M_beginPattern_26 rfl ?_
    obtain ⟨rfl, rfl, hx⟩ := w
    exact vv_zret (pc := 27) d_M_beginPattern_27 rfl hx
theorem c_M_beginPattern {o : Option Value} {S' S : cp_S} {x1 : Int32} {x2 : Int32} (w : JJ 1 m_M_beginPattern o S' 0 [(1, .int x1), (2, .int x2)] S) : MC 1 m_M_beginPattern [.int x1, .int x2] S o S' := fun G h n z d hn hd => cp_C.of rfl (Nat.le_of_ble_eq_true rfl) (w G h n z d hn hd)
def wp_M_beginPattern_43 (o : Option Value) (S' : cp_S) (S : cp_S) (x1 : Int32) (x2 : Int32) : Prop := ((¬ (x1 : Int32) = 95 → ∃ r3 T2, MC 0 m_M_node [.int 12, .int (x1 - 48), .int x2] S (some (.int r3)) T2 ∧ (o = some (.int 1) ∧ S' = T2 ∧ narrow .boolean (.int 1) = .int 1)) ∧ ((x1 : Int32) = 95 → ∃ r6 T5, MC 0 m_M_node [.int 11, .int (x1 - 48), .int x2] S (some (.int r6)) T5 ∧ (o = some (.int 1) ∧ S' = T5 ∧ narrow .boolean (.int 1) = .int 1)))
theorem b_M_beginPattern_43 {o : Option Value} {S' S : cp_S} {x1 : Int32} {x2 : Int32} (w : wp_M_beginPattern_43 o S' S x1 x2) : JJ 1 m_M_beginPattern o S' 43 [(1, .int x1), (2, .int x2)] S := by
  unfold wp_M_beginPattern_43 at w
  intro G h n z d hn hd
  refine vv_aload_n (pc := 43) d_M_beginPattern_43 rfl ?_
  refine vv_iload_n (pc := 44) d_M_beginPattern_44 rfl ?_
  refine vv_bipush (pc := 45) (v := 95) d_M_beginPattern_45 rfl ?_
  refine vv_icmp_ne (pc := 47) (tgt := 55) d_M_beginPattern_47 rfl (fun hc => ?_) (fun hc => ?_)
  · replace w := w.1 hc
    refine vv_bipush (pc := 55) (v := 12) d_M_beginPattern_55 rfl ?_
    refine vv_iload_n (pc := 57) d_M_beginPattern_57 rfl ?_
    refine vv_bipush (pc := 58) (v := 48) d_M_beginPattern_58 rfl ?_
    refine vv_isub (pc := 60) d_M_beginPattern_60 ?_
    refine vv_iload_n (pc := 61) d_M_beginPattern_61 rfl ?_
    obtain ⟨r3, T2, c1, w⟩ := w
    refine vv_callV (pc := 62) (As := [.int 12, .int (x1 - 48), .int x2]) d_M_beginPattern_62 (c1 G h n z (d - 1) hn (by omega)) k_M_node ml_M_211.1 ml_M_211.2.1 ml_M_211.2.2.1 ml_M_211.2.2.2.1 ml_M_211.2.2.2.2 (by omega) mm_26 (by omega) (Nat.le_of_ble_eq_true rfl) ?_
    refine vv_pop (pc := 65) d_M_beginPattern_65 rfl ?_
    refine vv_iconst (pc := 66) (v := 1) d_M_beginPattern_66 rfl ?_
    obtain ⟨rfl, rfl, hx⟩ := w
    exact vv_zret (pc := 67) d_M_beginPattern_67 rfl hx
  · replace w := w.2 hc
    refine vv_bipush (pc := 50) (v := 11) d_M_beginPattern_50 rfl ?_
    refine vv_goto (pc := 52) (tgt := 57) d_M_beginPattern_52 rfl ?_
    refine vv_iload_n (pc := 57) d_M_beginPattern_57 rfl ?_
    refine vv_bipush (pc := 58) (v := 48) d_M_beginPattern_58 rfl ?_
    refine vv_isub (pc := 60) d_M_beginPattern_60 ?_
    refine vv_iload_n (pc := 61) d_M_beginPattern_61 rfl ?_
    obtain ⟨r6, T5, c4, w⟩ := w
    refine vv_callV (pc := 62) (As := [.int 11, .int (x1 - 48), .int x2]) d_M_beginPattern_62 (c4 G h n z (d - 1) hn (by omega)) k_M_node ml_M_211.1 ml_M_211.2.1 ml_M_211.2.2.1 ml_M_211.2.2.2.1 ml_M_211.2.2.2.2 (by omega) mm_26 (by omega) (Nat.le_of_ble_eq_true rfl) ?_
    refine vv_pop (pc := 65) d_M_beginPattern_65 rfl ?_
    refine vv_iconst (pc := 66) (v := 1) d_M_beginPattern_66 rfl ?_
    obtain ⟨rfl, rfl, hx⟩ := w
    exact vv_zret (pc := 67) d_M_beginPattern_67 rfl hx
def wp_M_take_0 (o : Option Value) (S' : cp_S) (S : cp_S) (x1 : Int32) (x2 : Int32) : Prop := ((((S.1 29) : Int32) ≤ 0 → (o = some (.int 0) ∧ S' = S ∧ narrow .boolean (.int 0) = .int 0)) ∧ (¬ ((S.1 29) : Int32) ≤ 0 → vp_in ((S.1 29) - 1) (cp_ml 49) ∧ vp_in ((S.1 29) - 1) (cp_ml 50) ∧ vp_in ((S.1 29) - 1) (cp_ml 51) ∧ ((¬ (((S.2 49) (Int32.toNatClampNeg ((S.1 29) - 1))) : Int32) = 201 → JJ 4 m_M_take o S' 71 [(1, .int x1), (2, .int x2), (3, .int ((S.2 49) (Int32.toNatClampNeg ((S.1 29) - 1)))), (4, .int ((S.2 50) (Int32.toNatClampNeg ((S.1 29) - 1)))), (5, .int ((S.2 51) (Int32.toNatClampNeg ((S.1 29) - 1))))] ((va_up S.1 29 ((S.1 29) - 1)), S.2)) ∧ ((((S.2 49) (Int32.toNatClampNeg ((S.1 29) - 1))) : Int32) = 201 → ((¬ (x1 : Int32) = 40 → JJ 4 m_M_take o S' 104 [(1, .int x1), (2, .int x2), (3, .int ((S.2 49) (Int32.toNatClampNeg ((S.1 29) - 1)))), (4, .int ((S.2 50) (Int32.toNatClampNeg ((S.1 29) - 1)))), (5, .int ((S.2 51) (Int32.toNatClampNeg ((S.1 29) - 1))))] ((va_up S.1 29 ((S.1 29) - 1)), S.2)) ∧ ((x1 : Int32) = 40 → ((((((S.2 51) (Int32.toNatClampNeg ((S.1 29) - 1))) / 2) : Int32) = 8 → JJ 4 m_M_take o S' 104 [(1, .int x1), (2, .int x2), (3, .int ((S.2 49) (Int32.toNatClampNeg ((S.1 29) - 1)))), (4, .int ((S.2 50) (Int32.toNatClampNeg ((S.1 29) - 1)))), (5, .int ((S.2 51) (Int32.toNatClampNeg ((S.1 29) - 1))))] ((va_up S.1 29 ((S.1 29) - 1)), S.2)) ∧ (¬ ((((S.2 51) (Int32.toNatClampNeg ((S.1 29) - 1))) / 2) : Int32) = 8 → JJ 4 m_M_take o S' 71 [(1, .int x1), (2, .int x2), (3, .int ((S.2 49) (Int32.toNatClampNeg ((S.1 29) - 1)))), (4, .int ((S.2 50) (Int32.toNatClampNeg ((S.1 29) - 1)))), (5, .int ((S.2 51) (Int32.toNatClampNeg ((S.1 29) - 1))))] ((va_up S.1 29 ((S.1 29) - 1)), S.2)))))))))
theorem b_M_take_0 {o : Option Value} {S' S : cp_S} {x1 : Int32} {x2 : Int32} (w : wp_M_take_0 o S' S x1 x2) : JJ 4 m_M_take o S' 0 [(1, .int x1), (2, .int x2)] S := by
  unfold wp_M_take_0 at w
  intro G h n z d hn hd
  refine vv_aload_n (pc := 0) d_M_take_0 rfl ?_
  refine ww_gi (pc := 1) 29 d_M_take_1 fl_M_191 (by omega) rfl ?_
  refine vv_if_le (pc := 4) (tgt := 172) d_M_take_4 rfl (fun hc => ?_) (fun hc => ?_)
  · replace w := w.1 hc
    refine vv_iconst (pc := 172) (v := 0) d_M_take_172 rfl ?_
    obtain ⟨rfl, rfl, hx⟩ := w
    exact vv_zret (pc := 173) d_M_take_173 rfl hx
  · replace w := w.2 hc
    refine vv_aload_n (pc := 7) d_M_take_7 rfl ?_
    refine vv_dup (pc := 8) d_M_take_8 rfl ?_
    refine ww_gi (pc := 9) 29 d_M_take_9 fl_M_191 (by omega) rfl ?_
    refine vv_iconst (pc := 12) (v := 1) d_M_take_12 rfl ?_
    refine vv_isub (pc := 13) d_M_take_13 ?_
    refine ww_pi (pc := 14) 29 d_M_take_14 fl_M_191 (by omega) rfl rfl rfl rfl ?_
    refine vv_aload_n (pc := 17) d_M_take_17 rfl ?_
    refine ww_gr (pc := 18) 30 49 d_M_take_18 fl_M_76 (by omega) rfl (by decide) ?_
    refine vv_aload_n (pc := 21) d_M_take_21 rfl ?_
    refine ww_gi (pc := 22) 29 d_M_take_22 fl_M_191 (by omega) rfl ?_
    refine vv_topi (y := ((S.1 29) - 1)) rfl ?_
    obtain ⟨b1, w⟩ := w
    refine ww_ld (pc := 25) 49 d_M_take_25 (by omega) (by decide) b1 ?_
    refine vv_istore_n (pc := 26) d_M_take_26 (Nat.le_of_ble_eq_true rfl) ?_
    refine vv_aload_n (pc := 27) d_M_take_27 rfl ?_
    refine ww_gr (pc := 28) 31 50 d_M_take_28 fl_M_79 (by omega) rfl (by decide) ?_
    refine vv_aload_n (pc := 31) d_M_take_31 rfl ?_
    refine ww_gi (pc := 32) 29 d_M_take_32 fl_M_191 (by omega) rfl ?_
    refine vv_topi (y := ((S.1 29) - 1)) rfl ?_
    obtain ⟨b2, w⟩ := w
    refine ww_ld (pc := 35) 50 d_M_take_35 (by omega) (by decide) b2 ?_
    refine vv_istore (pc := 36) d_M_take_36 (Nat.le_of_ble_eq_true rfl) ?_
    refine vv_aload_n (pc := 38) d_M_take_38 rfl ?_
    refine ww_gr (pc := 39) 32 51 d_M_take_39 fl_M_82 (by omega) rfl (by decide) ?_
    refine vv_aload_n (pc := 42) d_M_take_42 rfl ?_
    refine ww_gi (pc := 43) 29 d_M_take_43 fl_M_191 (by omega) rfl ?_
    refine vv_topi (y := ((S.1 29) - 1)) rfl ?_
    obtain ⟨b3, w⟩ := w
    refine ww_ld (pc := 46) 51 d_M_take_46 (by omega) (by decide) b3 ?_
    refine vv_istore (pc := 47) d_M_take_47 (Nat.le_of_ble_eq_true rfl) ?_
    refine vv_iload_n (pc := 49) d_M_take_49 rfl ?_
    refine vv_sipush (pc := 50) (v := 201) d_M_take_50 rfl ?_
    refine vv_icmp_ne (pc := 53) (tgt := 71) d_M_take_53 rfl (fun hc => ?_) (fun hc => ?_)
    · replace w := w.1 hc
      exact vv_sub [3, 4, 5, 2, 1, 0] rfl (w G h n z d hn hd)
    · replace w := w.2 hc
      refine vv_iload_n (pc := 56) d_M_take_56 rfl ?_
      refine vv_bipush (pc := 57) (v := 40) d_M_take_57 rfl ?_
      refine vv_icmp_ne (pc := 59) (tgt := 104) d_M_take_59 rfl (fun hc => ?_) (fun hc => ?_)
      · replace w := w.1 hc
        exact vv_sub [3, 4, 5, 2, 1, 0] rfl (w G h n z d hn hd)
      · replace w := w.2 hc
        refine vv_iload (pc := 62) d_M_take_62 rfl ?_
        refine vv_iconst (pc := 64) (v := 2) d_M_take_64 rfl ?_
        refine vv_idiv (pc := 65) d_M_take_65 (by decide) ?_
        refine vv_bipush (pc := 66) (v := 8) d_M_take_66 rfl ?_
        refine vv_icmp_eq (pc := 68) (tgt := 104) d_M_take_68 rfl (fun hc => ?_) (fun hc => ?_)
        · replace w := w.1 hc
          exact vv_sub [3, 4, 5, 2, 1, 0] rfl (w G h n z d hn hd)
        · replace w := w.2 hc
          exact vv_sub [3, 4, 5, 2, 1, 0] rfl (w G h n z d hn hd)
theorem c_M_take {o : Option Value} {S' S : cp_S} {x1 : Int32} {x2 : Int32} (w : JJ 4 m_M_take o S' 0 [(1, .int x1), (2, .int x2)] S) : MC 4 m_M_take [.int x1, .int x2] S o S' := fun G h n z d hn hd => cp_C.of rfl (Nat.le_of_ble_eq_true rfl) (w G h n z d hn hd)
def wp_M_take_71 (o : Option Value) (S' : cp_S) (S : cp_S) (x1 : Int32) (x2 : Int32) (x3 : Int32) (x4 : Int32) (x5 : Int32) : Prop := ((¬ (x3 : Int32) = 211 → JJ 4 m_M_take o S' 91 [(1, .int x1), (2, .int x2), (3, .int x3), (4, .int x4), (5, .int x5)] S) ∧ ((x3 : Int32) = 211 → ((¬ (x1 : Int32) = 40 → JJ 4 m_M_take o S' 104 [(1, .int x1), (2, .int x2), (3, .int x3), (4, .int x4), (5, .int x5)] S) ∧ ((x1 : Int32) = 40 → (((x5 : Int32) = 12 → JJ 4 m_M_take o S' 104 [(1, .int x1), (2, .int x2), (3, .int x3), (4, .int x4), (5, .int x5)] S) ∧ (¬ (x5 : Int32) = 12 → JJ 4 m_M_take o S' 91 [(1, .int x1), (2, .int x2), (3, .int x3), (4, .int x4), (5, .int x5)] S))))))
theorem b_M_take_71 {o : Option Value} {S' S : cp_S} {x1 : Int32} {x2 : Int32} {x3 : Int32} {x4 : Int32} {x5 : Int32} (w : wp_M_take_71 o S' S x1 x2 x3 x4 x5) : JJ 4 m_M_take o S' 71 [(1, .int x1), (2, .int x2), (3, .int x3), (4, .int x4), (5, .int x5)] S := by
  unfold wp_M_take_71 at w
  intro G h n z d hn hd
  refine vv_iload_n (pc := 71) d_M_take_71 rfl ?_
  refine vv_sipush (pc := 72) (v := 211) d_M_take_72 rfl ?_
  refine vv_icmp_ne (pc := 75) (tgt := 91) d_M_take_75 rfl (fun hc => ?_) (fun hc => ?_)
  · replace w := w.1 hc
    exact vv_sub [0, 1, 2, 3, 4, 5] rfl (w G h n z d hn hd)
  · replace w := w.2 hc
    refine vv_iload_n (pc := 78) d_M_take_78 rfl ?_
    refine vv_bipush (pc := 79) (v := 40) d_M_take_79 rfl ?_
    refine vv_icmp_ne (pc := 81) (tgt := 104) d_M_take_81 rfl (fun hc => ?_) (fun hc => ?_)
    · replace w := w.1 hc
      exact vv_sub [0, 1, 2, 3, 4, 5] rfl (w G h n z d hn hd)
    · replace w := w.2 hc
      refine vv_iload (pc := 84) d_M_take_84 rfl ?_
      refine vv_bipush (pc := 86) (v := 12) d_M_take_86 rfl ?_
      refine vv_icmp_eq (pc := 88) (tgt := 104) d_M_take_88 rfl (fun hc => ?_) (fun hc => ?_)
      · replace w := w.1 hc
        exact vv_sub [0, 1, 2, 3, 4, 5] rfl (w G h n z d hn hd)
      · replace w := w.2 hc
        exact vv_sub [0, 1, 2, 3, 4, 5] rfl (w G h n z d hn hd)
def wp_M_take_91 (o : Option Value) (S' : cp_S) (S : cp_S) (x1 : Int32) (x2 : Int32) (x3 : Int32) (x4 : Int32) (x5 : Int32) : Prop := ((¬ (x3 : Int32) = 215 → JJ 4 m_M_take o S' 108 [(1, .int x1), (2, .int x2), (3, .int x3), (4, .int x4), (5, .int x5)] S) ∧ ((x3 : Int32) = 215 → (((x1 : Int32) = 40 → JJ 4 m_M_take o S' 108 [(1, .int x1), (2, .int x2), (3, .int x3), (4, .int x4), (5, .int x5)] S) ∧ (¬ (x1 : Int32) = 40 → JJ 4 m_M_take o S' 104 [(1, .int x1), (2, .int x2), (3, .int x3), (4, .int x4), (5, .int x5)] S))))
theorem b_M_take_91 {o : Option Value} {S' S : cp_S} {x1 : Int32} {x2 : Int32} {x3 : Int32} {x4 : Int32} {x5 : Int32} (w : wp_M_take_91 o S' S x1 x2 x3 x4 x5) : JJ 4 m_M_take o S' 91 [(1, .int x1), (2, .int x2), (3, .int x3), (4, .int x4), (5, .int x5)] S := by
  unfold wp_M_take_91 at w
  intro G h n z d hn hd
  refine vv_iload_n (pc := 91) d_M_take_91 rfl ?_
  refine vv_sipush (pc := 92) (v := 215) d_M_take_92 rfl ?_
  refine vv_icmp_ne (pc := 95) (tgt := 108) d_M_take_95 rfl (fun hc => ?_) (fun hc => ?_)
  · replace w := w.1 hc
    exact vv_sub [0, 1, 2, 3, 4, 5] rfl (w G h n z d hn hd)
  · replace w := w.2 hc
    refine vv_iload_n (pc := 98) d_M_take_98 rfl ?_
    refine vv_bipush (pc := 99) (v := 40) d_M_take_99 rfl ?_
    refine vv_icmp_eq (pc := 101) (tgt := 108) d_M_take_101 rfl (fun hc => ?_) (fun hc => ?_)
    · replace w := w.1 hc
      exact vv_sub [0, 1, 2, 3, 4, 5] rfl (w G h n z d hn hd)
    · replace w := w.2 hc
      exact vv_sub [0, 1, 2, 3, 4, 5] rfl (w G h n z d hn hd)
def wp_M_take_104 (o : Option Value) (S' : cp_S) (S : cp_S) (x1 : Int32) (x2 : Int32) (x3 : Int32) (x4 : Int32) (x5 : Int32) : Prop := ((¬ (1 : Int32) = 0 → JJ 4 m_M_take o S' 0 [(1, .int x1), (2, .int x2)] S) ∧ ((1 : Int32) = 0 → ((200 ≤ (x3 : Int32) → ((209 ≤ (x3 : Int32) → ∃ r3 T2, MC 2 m_M_takeCoded [.int x3, .int x4, .int x5, .int x1, .int x2] S (some (.int r3)) T2 ∧ (o = some (.int r3) ∧ S' = T2 ∧ narrow .boolean (.int r3) = .int r3)) ∧ (¬ 209 ≤ (x3 : Int32) → ∃ r6 T5, MC 3 m_M_takeDeclared [.int x3, .int x4, .int x5, .int x1, .int x2] S (some (.int r6)) T5 ∧ (o = some (.int r6) ∧ S' = T5 ∧ narrow .boolean (.int r6) = .int r6)))) ∧ (¬ 200 ≤ (x3 : Int32) → ((¬ (x1 : Int32) = x3 → (o = some (.int 0) ∧ S' = S ∧ narrow .boolean (.int 0) = .int 0)) ∧ ((x1 : Int32) = x3 → (o = some (.int 1) ∧ S' = S ∧ narrow .boolean (.int 1) = .int 1)))))))
theorem b_M_take_104 {o : Option Value} {S' S : cp_S} {x1 : Int32} {x2 : Int32} {x3 : Int32} {x4 : Int32} {x5 : Int32} (w : wp_M_take_104 o S' S x1 x2 x3 x4 x5) : JJ 4 m_M_take o S' 104 [(1, .int x1), (2, .int x2), (3, .int x3), (4, .int x4), (5, .int x5)] S := by
  unfold wp_M_take_104 at w
  intro G h n z d hn hd
  refine vv_iconst (pc := 104) (v := 1) d_M_take_104 rfl ?_
  refine vv_goto (pc := 105) (tgt := 109) d_M_take_105 rfl ?_
  refine vv_istore (pc := 109) d_M_take_109 (Nat.le_of_ble_eq_true rfl) ?_
  refine vv_iload (pc := 111) d_M_take_111 rfl ?_
  refine vv_if_ne (pc := 113) (tgt := 169) d_M_take_113 rfl (fun hc => ?_) (fun hc => ?_)
  · replace w := w.1 hc
    refine vv_goto (pc := 169) (tgt := 0) d_M_take_169 rfl ?_
    exact vv_sub [1, 2, 3] rfl (w G h n z d hn hd)
  · replace w := w.2 hc
    refine vv_iload_n (pc := 116) d_M_take_116 rfl ?_
    refine vv_sipush (pc := 117) (v := 200) d_M_take_117 rfl ?_
    refine vv_icmp_ge (pc := 120) (tgt := 136) d_M_take_120 rfl (fun hc => ?_) (fun hc => ?_)
    · replace w := w.1 hc
      refine vv_iload_n (pc := 136) d_M_take_136 rfl ?_
      refine vv_sipush (pc := 137) (v := 209) d_M_take_137 rfl ?_
      refine vv_icmp_ge (pc := 140) (tgt := 157) d_M_take_140 rfl (fun hc => ?_) (fun hc => ?_)
      · replace w := w.1 hc
        refine vv_aload_n (pc := 157) d_M_take_157 rfl ?_
        refine vv_iload_n (pc := 158) d_M_take_158 rfl ?_
        refine vv_iload (pc := 159) d_M_take_159 rfl ?_
        refine vv_iload (pc := 161) d_M_take_161 rfl ?_
        refine vv_iload_n (pc := 163) d_M_take_163 rfl ?_
        refine vv_iload_n (pc := 164) d_M_take_164 rfl ?_
        obtain ⟨r3, T2, c1, w⟩ := w
        refine vv_callV (pc := 165) (As := [.int x3, .int x4, .int x5, .int x1, .int x2]) d_M_take_165 (c1 G h n z (d - 1) hn (by omega)) k_M_takeCoded ml_M_237.1 ml_M_237.2.1 ml_M_237.2.2.1 ml_M_237.2.2.2.1 ml_M_237.2.2.2.2 (by omega) mm_26 (by omega) (Nat.le_of_ble_eq_true rfl) ?_
        obtain ⟨rfl, rfl, hx⟩ := w
        exact vv_zret (pc := 168) d_M_take_168 rfl hx
      · replace w := w.2 hc
        refine vv_aload_n (pc := 143) d_M_take_143 rfl ?_
        refine vv_iload_n (pc := 144) d_M_take_144 rfl ?_
        refine vv_iload (pc := 145) d_M_take_145 rfl ?_
        refine vv_iload (pc := 147) d_M_take_147 rfl ?_
        refine vv_iload_n (pc := 149) d_M_take_149 rfl ?_
        refine vv_iload_n (pc := 150) d_M_take_150 rfl ?_
        obtain ⟨r6, T5, c4, w⟩ := w
        refine vv_callV (pc := 151) (As := [.int x3, .int x4, .int x5, .int x1, .int x2]) d_M_take_151 (c4 G h n z (d - 1) hn (by omega)) k_M_takeDeclared ml_M_233.1 ml_M_233.2.1 ml_M_233.2.2.1 ml_M_233.2.2.2.1 ml_M_233.2.2.2.2 (by omega) mm_26 (by omega) (Nat.le_of_ble_eq_true rfl) ?_
        refine vv_goto (pc := 154) (tgt := 168) d_M_take_154 rfl ?_
        obtain ⟨rfl, rfl, hx⟩ := w
        exact vv_zret (pc := 168) d_M_take_168 rfl hx
    · replace w := w.2 hc
      refine vv_iload_n (pc := 123) d_M_take_123 rfl ?_
      refine vv_iload_n (pc := 124) d_M_take_124 rfl ?_
      refine vv_icmp_ne (pc := 125) (tgt := 132) d_M_take_125 rfl (fun hc => ?_) (fun hc => ?_)
      · replace w := w.1 hc
        refine vv_iconst (pc := 132) (v := 0) d_M_take_132 rfl ?_
        refine vv_goto (pc := 133) (tgt := 168) d_M_take_133 rfl ?_
        obtain ⟨rfl, rfl, hx⟩ := w
        exact vv_zret (pc := 168) d_M_take_168 rfl hx
      · replace w := w.2 hc
        refine vv_iconst (pc := 128) (v := 1) d_M_take_128 rfl ?_
        refine vv_goto (pc := 129) (tgt := 168) d_M_take_129 rfl ?_
        obtain ⟨rfl, rfl, hx⟩ := w
        exact vv_zret (pc := 168) d_M_take_168 rfl hx
def wp_M_take_108 (o : Option Value) (S' : cp_S) (S : cp_S) (x1 : Int32) (x2 : Int32) (x3 : Int32) (x4 : Int32) (x5 : Int32) : Prop := ((¬ (0 : Int32) = 0 → JJ 4 m_M_take o S' 0 [(1, .int x1), (2, .int x2)] S) ∧ ((0 : Int32) = 0 → ((200 ≤ (x3 : Int32) → ((209 ≤ (x3 : Int32) → ∃ r3 T2, MC 2 m_M_takeCoded [.int x3, .int x4, .int x5, .int x1, .int x2] S (some (.int r3)) T2 ∧ (o = some (.int r3) ∧ S' = T2 ∧ narrow .boolean (.int r3) = .int r3)) ∧ (¬ 209 ≤ (x3 : Int32) → ∃ r6 T5, MC 3 m_M_takeDeclared [.int x3, .int x4, .int x5, .int x1, .int x2] S (some (.int r6)) T5 ∧ (o = some (.int r6) ∧ S' = T5 ∧ narrow .boolean (.int r6) = .int r6)))) ∧ (¬ 200 ≤ (x3 : Int32) → ((¬ (x1 : Int32) = x3 → (o = some (.int 0) ∧ S' = S ∧ narrow .boolean (.int 0) = .int 0)) ∧ ((x1 : Int32) = x3 → (o = some (.int 1) ∧ S' = S ∧ narrow .boolean (.int 1) = .int 1)))))))
theorem b_M_take_108 {o : Option Value} {S' S : cp_S} {x1 : Int32} {x2 : Int32} {x3 : Int32} {x4 : Int32} {x5 : Int32} (w : wp_M_take_108 o S' S x1 x2 x3 x4 x5) : JJ 4 m_M_take o S' 108 [(1, .int x1), (2, .int x2), (3, .int x3), (4, .int x4), (5, .int x5)] S := by
  unfold wp_M_take_108 at w
  intro G h n z d hn hd
  refine vv_iconst (pc := 108) (v := 0) d_M_take_108 rfl ?_
  refine vv_istore (pc := 109) d_M_take_109 (Nat.le_of_ble_eq_true rfl) ?_
  refine vv_iload (pc := 111) d_M_take_111 rfl ?_
  refine vv_if_ne (pc := 113) (tgt := 169) d_M_take_113 rfl (fun hc => ?_) (fun hc => ?_)
  · replace w := w.1 hc
    refine vv_goto (pc := 169) (tgt := 0) d_M_take_169 rfl ?_
    exact vv_sub [1, 2, 3] rfl (w G h n z d hn hd)
  · replace w := w.2 hc
    refine vv_iload_n (pc := 116) d_M_take_116 rfl ?_
    refine vv_sipush (pc := 117) (v := 200) d_M_take_117 rfl ?_
    refine vv_icmp_ge (pc := 120) (tgt := 136) d_M_take_120 rfl (fun hc => ?_) (fun hc => ?_)
    · replace w := w.1 hc
      refine vv_iload_n (pc := 136) d_M_take_136 rfl ?_
      refine vv_sipush (pc := 137) (v := 209) d_M_take_137 rfl ?_
      refine vv_icmp_ge (pc := 140) (tgt := 157) d_M_take_140 rfl (fun hc => ?_) (fun hc => ?_)
      · replace w := w.1 hc
        refine vv_aload_n (pc := 157) d_M_take_157 rfl ?_
        refine vv_iload_n (pc := 158) d_M_take_158 rfl ?_
        refine vv_iload (pc := 159) d_M_take_159 rfl ?_
        refine vv_iload (pc := 161) d_M_take_161 rfl ?_
        refine vv_iload_n (pc := 163) d_M_take_163 rfl ?_
        refine vv_iload_n (pc := 164) d_M_take_164 rfl ?_
        obtain ⟨r3, T2, c1, w⟩ := w
        refine vv_callV (pc := 165) (As := [.int x3, .int x4, .int x5, .int x1, .int x2]) d_M_take_165 (c1 G h n z (d - 1) hn (by omega)) k_M_takeCoded ml_M_237.1 ml_M_237.2.1 ml_M_237.2.2.1 ml_M_237.2.2.2.1 ml_M_237.2.2.2.2 (by omega) mm_26 (by omega) (Nat.le_of_ble_eq_true rfl) ?_
        obtain ⟨rfl, rfl, hx⟩ := w
        exact vv_zret (pc := 168) d_M_take_168 rfl hx
      · replace w := w.2 hc
        refine vv_aload_n (pc := 143) d_M_take_143 rfl ?_
        refine vv_iload_n (pc := 144) d_M_take_144 rfl ?_
        refine vv_iload (pc := 145) d_M_take_145 rfl ?_
        refine vv_iload (pc := 147) d_M_take_147 rfl ?_
        refine vv_iload_n (pc := 149) d_M_take_149 rfl ?_
        refine vv_iload_n (pc := 150) d_M_take_150 rfl ?_
        obtain ⟨r6, T5, c4, w⟩ := w
        refine vv_callV (pc := 151) (As := [.int x3, .int x4, .int x5, .int x1, .int x2]) d_M_take_151 (c4 G h n z (d - 1) hn (by omega)) k_M_takeDeclared ml_M_233.1 ml_M_233.2.1 ml_M_233.2.2.1 ml_M_233.2.2.2.1 ml_M_233.2.2.2.2 (by omega) mm_26 (by omega) (Nat.le_of_ble_eq_true rfl) ?_
        refine vv_goto (pc := 154) (tgt := 168) d_M_take_154 rfl ?_
        obtain ⟨rfl, rfl, hx⟩ := w
        exact vv_zret (pc := 168) d_M_take_168 rfl hx
    · replace w := w.2 hc
      refine vv_iload_n (pc := 123) d_M_take_123 rfl ?_
      refine vv_iload_n (pc := 124) d_M_take_124 rfl ?_
      refine vv_icmp_ne (pc := 125) (tgt := 132) d_M_take_125 rfl (fun hc => ?_) (fun hc => ?_)
      · replace w := w.1 hc
        refine vv_iconst (pc := 132) (v := 0) d_M_take_132 rfl ?_
        refine vv_goto (pc := 133) (tgt := 168) d_M_take_133 rfl ?_
        obtain ⟨rfl, rfl, hx⟩ := w
        exact vv_zret (pc := 168) d_M_take_168 rfl hx
      · replace w := w.2 hc
        refine vv_iconst (pc := 128) (v := 1) d_M_take_128 rfl ?_
        refine vv_goto (pc := 129) (tgt := 168) d_M_take_129 rfl ?_
        obtain ⟨rfl, rfl, hx⟩ := w
        exact vv_zret (pc := 168) d_M_take_168 rfl hx
def wp_M_takeDeclared_0 (o : Option Value) (S' : cp_S) (S : cp_S) (x1 : Int32) (x2 : Int32) (x3 : Int32) (x4 : Int32) (x5 : Int32) : Prop := ((x1 = (200 : Int32) → ∃ r3 T2, MC 1 m_M_beginTerm [.int x4, .int x5, .int (x2 + x3)] S (some (.int r3)) T2 ∧ (o = some (.int r3) ∧ S' = T2 ∧ narrow .boolean (.int r3) = .int r3)) ∧ (x1 = (201 : Int32) → vp_in x2 (cp_ml 41) ∧ ∃ T6, MC 0 m_M_push [.int 202, .int x2, .int x3] (S.1, (va_up S.2 41 (upd (S.2 41) (Int32.toNatClampNeg x2) 1))) none T6 ∧ ∃ T8, MC 0 m_M_push [.int 200, .int (x3 + 2), .int 0] T6 none T8 ∧ (o = some (.int 1) ∧ S' = T8 ∧ narrow .boolean (.int 1) = .int 1)) ∧ (x1 = (202 : Int32) → ((¬ (x4 : Int32) = 41 → vp_in x2 (cp_ml 41) ∧ ((¬ (((S.2 41) (Int32.toNatClampNeg x2)) : Int32) = 6 → vp_in x2 (cp_ml 41) ∧ vp_in x2 (cp_ml 41) ∧ ∃ T13, MC 0 m_M_push [.int 202, .int x2, .int x3] (S.1, (va_up S.2 41 (upd (S.2 41) (Int32.toNatClampNeg x2) (((S.2 41) (Int32.toNatClampNeg x2)) + 1)))) none T13 ∧ ∃ r16 T15, MC 1 m_M_beginTerm [.int x4, .int x5, .int (x3 + 2)] T13 (some (.int r16)) T15 ∧ (o = some (.int r16) ∧ S' = T15 ∧ narrow .boolean (.int r16) = .int r16)) ∧ ((((S.2 41) (Int32.toNatClampNeg x2)) : Int32) = 6 → (o = some (.int 0) ∧ S' = S ∧ narrow .boolean (.int 0) = .int 0)))) ∧ ((x4 : Int32) = 41 → (o = some (.int 1) ∧ S' = S ∧ narrow .boolean (.int 1) = .int 1)))) ∧ (x1 = (203 : Int32) → ((¬ (x4 : Int32) = 62 → ∃ r19 T18, MC 2 m_M_beginPart [.int x4, .int x5, .int 0] S (some (.int r19)) T18 ∧ (o = some (.int r19) ∧ S' = T18 ∧ narrow .boolean (.int r19) = .int r19)) ∧ ((x4 : Int32) = 62 → ∃ T21, MC 0 m_M_push [.int 206, .int 0, .int 0] S none T21 ∧ (o = some (.int 1) ∧ S' = T21 ∧ narrow .boolean (.int 1) = .int 1)))) ∧ (x1 = (204 : Int32) → ∃ r24 T23, MC 2 m_M_beginPart [.int x4, .int x5, .int x2] S (some (.int r24)) T23 ∧ (o = some (.int r24) ∧ S' = T23 ∧ narrow .boolean (.int r24) = .int r24)) ∧ (x1 = (205 : Int32) → ((¬ (x4 : Int32) = 62 → ∃ T26, MC 0 m_M_push [.int 204, .int x2, .int 0] S none T26 ∧ JJ 3 m_M_takeDeclared o S' 208 [(1, .int x1), (2, .int x2), (3, .int x3), (4, .int x4), (5, .int x5)] T26) ∧ ((x4 : Int32) = 62 → ∃ T28, MC 0 m_M_push [.int 206, .int 0, .int 0] S none T28 ∧ JJ 3 m_M_takeDeclared o S' 208 [(1, .int x1), (2, .int x2), (3, .int x3), (4, .int x4), (5, .int x5)] T28))) ∧ (x1 = (206 : Int32) → ((¬ (x4 : Int32) = 42 → (((x4 : Int32) = 42 → (o = some (.int 1) ∧ S' = ((va_up S.1 34 (S.1 16)), S.2) ∧ narrow .boolean (.int 1) = .int 1)) ∧ (¬ (x4 : Int32) = 42 → ∃ r31 T30, MC 1 m_M_beginTerm [.int x4, .int x5, .int 2] ((va_up S.1 34 (S.1 16)), S.2) (some (.int r31)) T30 ∧ (((r31 : Int32) = 0 → (o = some (.int 0) ∧ S' = T30 ∧ narrow .boolean (.int 0) = .int 0)) ∧ (¬ (r31 : Int32) = 0 → (o = some (.int 1) ∧ S' = T30 ∧ narrow .boolean (.int 1) = .int 1)))))) ∧ ((x4 : Int32) = 42 → (((x4 : Int32) = 42 → (o = some (.int 1) ∧ S' = ((va_up S.1 34 (-2)), S.2) ∧ narrow .boolean (.int 1) = .int 1)) ∧ (¬ (x4 : Int32) = 42 → ∃ r34 T33, MC 1 m_M_beginTerm [.int x4, .int x5, .int 2] ((va_up S.1 34 (-2)), S.2) (some (.int r34)) T33 ∧ (((r34 : Int32) = 0 → (o = some (.int 0) ∧ S' = T33 ∧ narrow .boolean (.int 0) = .int 0)) ∧ (¬ (r34 : Int32) = 0 → (o = some (.int 1) ∧ S' = T33 ∧ narrow .boolean (.int 1) = .int 1)))))))) ∧ (x1 = (207 : Int32) → vp_in x2 (cp_ml 45) ∧ vp_in x2 (cp_ml 48) ∧ ∃ r38, SC m_M_isLetter [.int x4] (some (.int r38)) ∧ (o = some (.int r38) ∧ S' = (S.1, (va_up (va_up S.2 45 (upd (S.2 45) (Int32.toNatClampNeg x2) (x4 - 65))) 48 (upd (S.2 48) (Int32.toNatClampNeg x2) x5))) ∧ narrow .boolean (.int r38) = .int r38)) ∧ ((∀ c ∈ ([200, 201, 202, 203, 204, 205, 206, 207] : List Int32), ¬ x1 = c) → ((¬ (x4 : Int32) = 41 → vp_in x2 (cp_ml 47) ∧ ((¬ (((S.2 47) (Int32.toNatClampNeg x2)) : Int32) = 6 → vp_in x2 (cp_ml 47) ∧ vp_in x2 (cp_ml 47) ∧ ∃ T43, MC 0 m_M_push [.int 208, .int x2, .int 0] (S.1, (va_up S.2 47 (upd (S.2 47) (Int32.toNatClampNeg x2) (((S.2 47) (Int32.toNatClampNeg x2)) + 1)))) none T43 ∧ ∃ r46 T45, MC 1 m_M_beginTerm [.int x4, .int x5, .int 2] T43 (some (.int r46)) T45 ∧ (o = some (.int r46) ∧ S' = T45 ∧ narrow .boolean (.int r46) = .int r46)) ∧ ((((S.2 47) (Int32.toNatClampNeg x2)) : Int32) = 6 → (o = some (.int 0) ∧ S' = S ∧ narrow .boolean (.int 0) = .int 0)))) ∧ ((x4 : Int32) = 41 → (o = some (.int 1) ∧ S' = S ∧ narrow .boolean (.int 1) = .int 1)))))
theorem b_M_takeDeclared_0 {o : Option Value} {S' S : cp_S} {x1 : Int32} {x2 : Int32} {x3 : Int32} {x4 : Int32} {x5 : Int32} (w : wp_M_takeDeclared_0 o S' S x1 x2 x3 x4 x5) : JJ 3 m_M_takeDeclared o S' 0 [(1, .int x1), (2, .int x2), (3, .int x3), (4, .int x4), (5, .int x5)] S := by
  unfold wp_M_takeDeclared_0 at w
  intro G h n z d hn hd
  refine vv_iload_n (pc := 0) d_M_takeDeclared_0 rfl ?_
  by_cases e1_0 : x1 = (200 : Int32)
  · replace w := w.1 e1_0
    refine vv_topi (y := 200) e1_0 ?_
    refine vv_tableIn (pc := 1) (off := 47) (tgt := 48) d_M_takeDeclared_1 (by decide +kernel) (by decide +kernel) (by decide +kernel) rfl ?_
    refine vv_aload_n (pc := 48) d_M_takeDeclared_48 rfl ?_
    refine vv_iload (pc := 49) d_M_takeDeclared_49 rfl ?_
    refine vv_iload (pc := 51) d_M_takeDeclared_51 rfl ?_
    refine vv_iload_n (pc := 53) d_M_takeDeclared_53 rfl ?_
    refine vv_iload_n (pc := 54) d_M_takeDeclared_54 rfl ?_
    refine vv_iadd (pc := 55) d_M_takeDeclared_55 ?_
    obtain ⟨r3, T2, c1, w⟩ := w
    refine vv_callV (pc := 56) (As := [.int x4, .int x5, .int (x2 + x3)]) d_M_takeDeclared_56 (c1 G h n z (d - 1) hn (by omega)) k_M_beginTerm ml_M_229.1 ml_M_229.2.1 ml_M_229.2.2.1 ml_M_229.2.2.2.1 ml_M_229.2.2.2.2 (by omega) mm_26 (by omega) (Nat.le_of_ble_eq_true rfl) ?_
    obtain ⟨rfl, rfl, hx⟩ := w
    exact vv_zret (pc := 59) d_M_takeDeclared_59 rfl hx
  by_cases e1_1 : x1 = (201 : Int32)
  · replace w := w.2.1 e1_1
    refine vv_topi (y := 201) e1_1 ?_
    refine vv_tableIn (pc := 1) (off := 59) (tgt := 60) d_M_takeDeclared_1 (by decide +kernel) (by decide +kernel) (by decide +kernel) rfl ?_
    refine vv_aload_n (pc := 60) d_M_takeDeclared_60 rfl ?_
    refine ww_gr (pc := 61) 19 41 d_M_takeDeclared_61 fl_M_52 (by omega) rfl (by decide) ?_
    refine vv_iload_n (pc := 64) d_M_takeDeclared_64 rfl ?_
    refine vv_iconst (pc := 65) (v := 1) d_M_takeDeclared_65 rfl ?_
    obtain ⟨b4, w⟩ := w
    refine ww_st (pc := 66) 41 d_M_takeDeclared_66 (by omega) (by decide) b4 ?_
    refine vv_aload_n (pc := 67) d_M_takeDeclared_67 rfl ?_
    refine vv_sipush (pc := 68) (v := 202) d_M_takeDeclared_68 rfl ?_
    refine vv_iload_n (pc := 71) d_M_takeDeclared_71 rfl ?_
    refine vv_iload_n (pc := 72) d_M_takeDeclared_72 rfl ?_
    obtain ⟨T6, c5, w⟩ := w
    refine vv_callV (pc := 73) (As := [.int 202, .int x2, .int x3]) d_M_takeDeclared_73 (c5 G h n z (d - 1) hn (by omega)) k_M_push ml_M_218.1 ml_M_218.2.1 ml_M_218.2.2.1 ml_M_218.2.2.2.1 ml_M_218.2.2.2.2 (by omega) mm_26 (by omega) (Nat.le_of_ble_eq_true rfl) ?_
    refine vv_aload_n (pc := 76) d_M_takeDeclared_76 rfl ?_
    refine vv_sipush (pc := 77) (v := 200) d_M_takeDeclared_77 rfl ?_
    refine vv_iload_n (pc := 80) d_M_takeDeclared_80 rfl ?_
    refine vv_iconst (pc := 81) (v := 2) d_M_takeDeclared_81 rfl ?_
    refine vv_iadd (pc := 82) d_M_takeDeclared_82 ?_
    refine vv_iconst (pc := 83) (v := 0) d_M_takeDeclared_83 rfl ?_
    obtain ⟨T8, c7, w⟩ := w
    refine vv_callV (pc := 84) (As := [.int 200, .int (x3 + 2), .int 0]) d_M_takeDeclared_84 (c7 G h n z (d - 1) hn (by omega)) k_M_push ml_M_218.1 ml_M_218.2.1 ml_M_218.2.2.1 ml_M_218.2.2.2.1 ml_M_218.2.2.2.2 (by omega) mm_26 (by omega) (Nat.le_of_ble_eq_true rfl) ?_
    refine vv_iconst (pc := 87) (v := 1) d_M_takeDeclared_87 rfl ?_
    obtain ⟨rfl, rfl, hx⟩ := w
    exact vv_zret (pc := 88) d_M_takeDeclared_88 rfl hx
  by_cases e1_2 : x1 = (202 : Int32)
  · replace w := w.2.2.1 e1_2
    refine vv_topi (y := 202) e1_2 ?_
    refine vv_tableIn (pc := 1) (off := 88) (tgt := 89) d_M_takeDeclared_1 (by decide +kernel) (by decide +kernel) (by decide +kernel) rfl ?_
    refine vv_iload (pc := 89) d_M_takeDeclared_89 rfl ?_
    refine vv_bipush (pc := 91) (v := 41) d_M_takeDeclared_91 rfl ?_
    refine vv_icmp_ne (pc := 93) (tgt := 98) d_M_takeDeclared_93 rfl (fun hc => ?_) (fun hc => ?_)
    · replace w := w.1 hc
      refine vv_aload_n (pc := 98) d_M_takeDeclared_98 rfl ?_
      refine ww_gr (pc := 99) 19 41 d_M_takeDeclared_99 fl_M_52 (by omega) rfl (by decide) ?_
      refine vv_iload_n (pc := 102) d_M_takeDeclared_102 rfl ?_
      obtain ⟨b9, w⟩ := w
      refine ww_ld (pc := 103) 41 d_M_takeDeclared_103 (by omega) (by decide) b9 ?_
      refine vv_bipush (pc := 104) (v := 6) d_M_takeDeclared_104 rfl ?_
      refine vv_icmp_ne (pc := 106) (tgt := 111) d_M_takeDeclared_106 rfl (fun hc => ?_) (fun hc => ?_)
      · replace w := w.1 hc
        refine vv_aload_n (pc := 111) d_M_takeDeclared_111 rfl ?_
        refine ww_gr (pc := 112) 19 41 d_M_takeDeclared_112 fl_M_52 (by omega) rfl (by decide) ?_
        refine vv_iload_n (pc := 115) d_M_takeDeclared_115 rfl ?_
        refine vv_dup2 (pc := 116) d_M_takeDeclared_116 rfl rfl ?_
        obtain ⟨b10, w⟩ := w
        refine ww_ld (pc := 117) 41 d_M_takeDeclared_117 (by omega) (by decide) b10 ?_
        refine vv_iconst (pc := 118) (v := 1) d_M_takeDeclared_118 rfl ?_
        refine vv_iadd (pc := 119) d_M_takeDeclared_119 ?_
        obtain ⟨b11, w⟩ := w
        refine ww_st (pc := 120) 41 d_M_takeDeclared_120 (by omega) (by decide) b11 ?_
        refine vv_aload_n (pc := 121) d_M_takeDeclared_121 rfl ?_
        refine vv_sipush (pc := 122) (v := 202) d_M_takeDeclared_122 rfl ?_
        refine vv_iload_n (pc := 125) d_M_takeDeclared_125 rfl ?_
        refine vv_iload_n (pc := 126) d_M_takeDeclared_126 rfl ?_
        obtain ⟨T13, c12, w⟩ := w
        refine vv_callV (pc := 127) (As := [.int 202, .int x2, .int x3]) d_M_takeDeclared_127 (c12 G h n z (d - 1) hn (by omega)) k_M_push ml_M_218.1 ml_M_218.2.1 ml_M_218.2.2.1 ml_M_218.2.2.2.1 ml_M_218.2.2.2.2 (by omega) mm_26 (by omega) (Nat.le_of_ble_eq_true rfl) ?_
        refine vv_aload_n (pc := 130) d_M_takeDeclared_130 rfl ?_
        refine vv_iload (pc := 131) d_M_takeDeclared_131 rfl ?_
        refine vv_iload (pc := 133) d_M_takeDeclared_133 rfl ?_
        refine vv_iload_n (pc := 135) d_M_takeDeclared_135 rfl ?_
        refine vv_iconst (pc := 136) (v := 2) d_M_takeDeclared_136 rfl ?_
        refine vv_iadd (pc := 137) d_M_takeDeclared_137 ?_
        obtain ⟨r16, T15, c14, w⟩ := w
        refine vv_callV (pc := 138) (As := [.int x4, .int x5, .int (x3 + 2)]) d_M_takeDeclared_138 (c14 G h n z (d - 1) hn (by omega)) k_M_beginTerm ml_M_229.1 ml_M_229.2.1 ml_M_229.2.2.1 ml_M_229.2.2.2.1 ml_M_229.2.2.2.2 (by omega) mm_26 (by omega) (Nat.le_of_ble_eq_true rfl) ?_
        obtain ⟨rfl, rfl, hx⟩ := w
        exact vv_zret (pc := 141) d_M_takeDeclared_141 rfl hx
      · replace w := w.2 hc
        refine vv_iconst (pc := 109) (v := 0) d_M_takeDeclared_109 rfl ?_
        obtain ⟨rfl, rfl, hx⟩ := w
        exact vv_zret (pc := 110) d_M_takeDeclared_110 rfl hx
    · replace w := w.2 hc
      refine vv_iconst (pc := 96) (v := 1) d_M_takeDeclared_96 rfl ?_
      obtain ⟨rfl, rfl, hx⟩ := w
      exact vv_zret (pc := 97) d_M_takeDeclared_97 rfl hx
  by_cases e1_3 : x1 = (203 : Int32)
  · replace w := w.2.2.2.1 e1_3
    refine vv_topi (y := 203) e1_3 ?_
    refine vv_tableIn (pc := 1) (off := 141) (tgt := 142) d_M_takeDeclared_1 (by decide +kernel) (by decide +kernel) (by decide +kernel) rfl ?_
    refine vv_iload (pc := 142) d_M_takeDeclared_142 rfl ?_
    refine vv_bipush (pc := 144) (v := 62) d_M_takeDeclared_144 rfl ?_
    refine vv_icmp_ne (pc := 146) (tgt := 160) d_M_takeDeclared_146 rfl (fun hc => ?_) (fun hc => ?_)
    · replace w := w.1 hc
      refine vv_aload_n (pc := 160) d_M_takeDeclared_160 rfl ?_
      refine vv_iload (pc := 161) d_M_takeDeclared_161 rfl ?_
      refine vv_iload (pc := 163) d_M_takeDeclared_163 rfl ?_
      refine vv_iconst (pc := 165) (v := 0) d_M_takeDeclared_165 rfl ?_
      obtain ⟨r19, T18, c17, w⟩ := w
      refine vv_callV (pc := 166) (As := [.int x4, .int x5, .int 0]) d_M_takeDeclared_166 (c17 G h n z (d - 1) hn (by omega)) k_M_beginPart ml_M_240.1 ml_M_240.2.1 ml_M_240.2.2.1 ml_M_240.2.2.2.1 ml_M_240.2.2.2.2 (by omega) mm_26 (by omega) (Nat.le_of_ble_eq_true rfl) ?_
      obtain ⟨rfl, rfl, hx⟩ := w
      exact vv_zret (pc := 169) d_M_takeDeclared_169 rfl hx
    · replace w := w.2 hc
      refine vv_aload_n (pc := 149) d_M_takeDeclared_149 rfl ?_
      refine vv_sipush (pc := 150) (v := 206) d_M_takeDeclared_150 rfl ?_
      refine vv_iconst (pc := 153) (v := 0) d_M_takeDeclared_153 rfl ?_
      refine vv_iconst (pc := 154) (v := 0) d_M_takeDeclared_154 rfl ?_
      obtain ⟨T21, c20, w⟩ := w
      refine vv_callV (pc := 155) (As := [.int 206, .int 0, .int 0]) d_M_takeDeclared_155 (c20 G h n z (d - 1) hn (by omega)) k_M_push ml_M_218.1 ml_M_218.2.1 ml_M_218.2.2.1 ml_M_218.2.2.2.1 ml_M_218.2.2.2.2 (by omega) mm_26 (by omega) (Nat.le_of_ble_eq_true rfl) ?_
      refine vv_iconst (pc := 158) (v := 1) d_M_takeDeclared_158 rfl ?_
      obtain ⟨rfl, rfl, hx⟩ := w
      exact vv_zret (pc := 159) d_M_takeDeclared_159 rfl hx
  by_cases e1_4 : x1 = (204 : Int32)
  · replace w := w.2.2.2.2.1 e1_4
    refine vv_topi (y := 204) e1_4 ?_
    refine vv_tableIn (pc := 1) (off := 169) (tgt := 170) d_M_takeDeclared_1 (by decide +kernel) (by decide +kernel) (by decide +kernel) rfl ?_
    refine vv_aload_n (pc := 170) d_M_takeDeclared_170 rfl ?_
    refine vv_iload (pc := 171) d_M_takeDeclared_171 rfl ?_
    refine vv_iload (pc := 173) d_M_takeDeclared_173 rfl ?_
    refine vv_iload_n (pc := 175) d_M_takeDeclared_175 rfl ?_
    obtain ⟨r24, T23, c22, w⟩ := w
    refine vv_callV (pc := 176) (As := [.int x4, .int x5, .int x2]) d_M_takeDeclared_176 (c22 G h n z (d - 1) hn (by omega)) k_M_beginPart ml_M_240.1 ml_M_240.2.1 ml_M_240.2.2.1 ml_M_240.2.2.2.1 ml_M_240.2.2.2.2 (by omega) mm_26 (by omega) (Nat.le_of_ble_eq_true rfl) ?_
    obtain ⟨rfl, rfl, hx⟩ := w
    exact vv_zret (pc := 179) d_M_takeDeclared_179 rfl hx
  by_cases e1_5 : x1 = (205 : Int32)
  · replace w := w.2.2.2.2.2.1 e1_5
    refine vv_topi (y := 205) e1_5 ?_
    refine vv_tableIn (pc := 1) (off := 179) (tgt := 180) d_M_takeDeclared_1 (by decide +kernel) (by decide +kernel) (by decide +kernel) rfl ?_
    refine vv_iload (pc := 180) d_M_takeDeclared_180 rfl ?_
    refine vv_bipush (pc := 182) (v := 62) d_M_takeDeclared_182 rfl ?_
    refine vv_icmp_ne (pc := 184) (tgt := 199) d_M_takeDeclared_184 rfl (fun hc => ?_) (fun hc => ?_)
    · replace w := w.1 hc
      refine vv_aload_n (pc := 199) d_M_takeDeclared_199 rfl ?_
      refine vv_sipush (pc := 200) (v := 204) d_M_takeDeclared_200 rfl ?_
      refine vv_iload_n (pc := 203) d_M_takeDeclared_203 rfl ?_
      refine vv_iconst (pc := 204) (v := 0) d_M_takeDeclared_204 rfl ?_
      obtain ⟨T26, c25, w⟩ := w
      refine vv_callV (pc := 205) (As := [.int 204, .int x2, .int 0]) d_M_takeDeclared_205 (c25 G h n z (d - 1) hn (by omega)) k_M_push ml_M_218.1 ml_M_218.2.1 ml_M_218.2.2.1 ml_M_218.2.2.2.1 ml_M_218.2.2.2.2 (by omega) mm_26 (by omega) (Nat.le_of_ble_eq_true rfl) ?_
      exact vv_sub [0, 1, 2, 3, 4, 5] rfl (w G h n z d hn hd)
    · replace w := w.2 hc
      refine vv_aload_n (pc := 187) d_M_takeDeclared_187 rfl ?_
      refine vv_sipush (pc := 188) (v := 206) d_M_takeDeclared_188 rfl ?_
      refine vv_iconst (pc := 191) (v := 0) d_M_takeDeclared_191 rfl ?_
      refine vv_iconst (pc := 192) (v := 0) d_M_takeDeclared_192 rfl ?_
      obtain ⟨T28, c27, w⟩ := w
      refine vv_callV (pc := 193) (As := [.int 206, .int 0, .int 0]) d_M_takeDeclared_193 (c27 G h n z (d - 1) hn (by omega)) k_M_push ml_M_218.1 ml_M_218.2.1 ml_M_218.2.2.1 ml_M_218.2.2.2.1 ml_M_218.2.2.2.2 (by omega) mm_26 (by omega) (Nat.le_of_ble_eq_true rfl) ?_
      refine vv_goto (pc := 196) (tgt := 208) d_M_takeDeclared_196 rfl ?_
      exact vv_sub [0, 1, 2, 3, 4, 5] rfl (w G h n z d hn hd)
  by_cases e1_6 : x1 = (206 : Int32)
  · replace w := w.2.2.2.2.2.2.1 e1_6
    refine vv_topi (y := 206) e1_6 ?_
    refine vv_tableIn (pc := 1) (off := 233) (tgt := 234) d_M_takeDeclared_1 (by decide +kernel) (by decide +kernel) (by decide +kernel) rfl ?_
    refine vv_aload_n (pc := 234) d_M_takeDeclared_234 rfl ?_
    refine vv_iload (pc := 235) d_M_takeDeclared_235 rfl ?_
    refine vv_bipush (pc := 237) (v := 42) d_M_takeDeclared_237 rfl ?_
    refine vv_icmp_ne (pc := 239) (tgt := 247) d_M_takeDeclared_239 rfl (fun hc => ?_) (fun hc => ?_)
    · replace w := w.1 hc
      refine vv_aload_n (pc := 247) d_M_takeDeclared_247 rfl ?_
      refine ww_gi (pc := 248) 16 d_M_takeDeclared_248 fl_M_194 (by omega) rfl ?_
      refine ww_pi (pc := 251) 34 d_M_takeDeclared_251 fl_M_243 (by omega) rfl rfl rfl rfl ?_
      refine vv_iload (pc := 254) d_M_takeDeclared_254 rfl ?_
      refine vv_bipush (pc := 256) (v := 42) d_M_takeDeclared_256 rfl ?_
      refine vv_icmp_eq (pc := 258) (tgt := 273) d_M_takeDeclared_258 rfl (fun hc => ?_) (fun hc => ?_)
      · replace w := w.1 hc
        refine vv_iconst (pc := 273) (v := 1) d_M_takeDeclared_273 rfl ?_
        refine vv_goto (pc := 274) (tgt := 278) d_M_takeDeclared_274 rfl ?_
        obtain ⟨rfl, rfl, hx⟩ := w
        exact vv_zret (pc := 278) d_M_takeDeclared_278 rfl hx
      · replace w := w.2 hc
        refine vv_aload_n (pc := 261) d_M_takeDeclared_261 rfl ?_
        refine vv_iload (pc := 262) d_M_takeDeclared_262 rfl ?_
        refine vv_iload (pc := 264) d_M_takeDeclared_264 rfl ?_
        refine vv_iconst (pc := 266) (v := 2) d_M_takeDeclared_266 rfl ?_
        obtain ⟨r31, T30, c29, w⟩ := w
        refine vv_callV (pc := 267) (As := [.int x4, .int x5, .int 2]) d_M_takeDeclared_267 (c29 G h n z (d - 1) hn (by omega)) k_M_beginTerm ml_M_229.1 ml_M_229.2.1 ml_M_229.2.2.1 ml_M_229.2.2.2.1 ml_M_229.2.2.2.2 (by omega) mm_26 (by omega) (Nat.le_of_ble_eq_true rfl) ?_
        refine vv_if_eq (pc := 270) (tgt := 277) d_M_takeDeclared_270 rfl (fun hc => ?_) (fun hc => ?_)
        · replace w := w.1 hc
          refine vv_iconst (pc := 277) (v := 0) d_M_takeDeclared_277 rfl ?_
          obtain ⟨rfl, rfl, hx⟩ := w
          exact vv_zret (pc := 278) d_M_takeDeclared_278 rfl hx
        · replace w := w.2 hc
          refine vv_iconst (pc := 273) (v := 1) d_M_takeDeclared_273 rfl ?_
          refine vv_goto (pc := 274) (tgt := 278) d_M_takeDeclared_274 rfl ?_
          obtain ⟨rfl, rfl, hx⟩ := w
          exact vv_zret (pc := 278) d_M_takeDeclared_278 rfl hx
    · replace w := w.2 hc
      refine vv_bipush (pc := 242) (v := (-2)) d_M_takeDeclared_242 rfl ?_
      refine vv_goto (pc := 244) (tgt := 251) d_M_takeDeclared_244 rfl ?_
      refine ww_pi (pc := 251) 34 d_M_takeDeclared_251 fl_M_243 (by omega) rfl rfl rfl rfl ?_
      refine vv_iload (pc := 254) d_M_takeDeclared_254 rfl ?_
      refine vv_bipush (pc := 256) (v := 42) d_M_takeDeclared_256 rfl ?_
      refine vv_icmp_eq (pc := 258) (tgt := 273) d_M_takeDeclared_258 rfl (fun hc => ?_) (fun hc => ?_)
      · replace w := w.1 hc
        refine vv_iconst (pc := 273) (v := 1) d_M_takeDeclared_273 rfl ?_
        refine vv_goto (pc := 274) (tgt := 278) d_M_takeDeclared_274 rfl ?_
        obtain ⟨rfl, rfl, hx⟩ := w
        exact vv_zret (pc := 278) d_M_takeDeclared_278 rfl hx
      · replace w := w.2 hc
        refine vv_aload_n (pc := 261) d_M_takeDeclared_261 rfl ?_
        refine vv_iload (pc := 262) d_M_takeDeclared_262 rfl ?_
        refine vv_iload (pc := 264) d_M_takeDeclared_264 rfl ?_
        refine vv_iconst (pc := 266) (v := 2) d_M_takeDeclared_266 rfl ?_
        obtain ⟨r34, T33, c32, w⟩ := w
        refine vv_callV (pc := 267) (As := [.int x4, .int x5, .int 2]) d_M_takeDeclared_267 (c32 G h n z (d - 1) hn (by omega)) k_M_beginTerm ml_M_229.1 ml_M_229.2.1 ml_M_229.2.2.1 ml_M_229.2.2.2.1 ml_M_229.2.2.2.2 (by omega) mm_26 (by omega) (Nat.le_of_ble_eq_true rfl) ?_
        refine vv_if_eq (pc := 270) (tgt := 277) d_M_takeDeclared_270 rfl (fun hc => ?_) (fun hc => ?_)
        · replace w := w.1 hc
          refine vv_iconst (pc := 277) (v := 0) d_M_takeDeclared_277 rfl ?_
          obtain ⟨rfl, rfl, hx⟩ := w
          exact vv_zret (pc := 278) d_M_takeDeclared_278 rfl hx
        · replace w := w.2 hc
          refine vv_iconst (pc := 273) (v := 1) d_M_takeDeclared_273 rfl ?_
          refine vv_goto (pc := 274) (tgt := 278) d_M_takeDeclared_274 rfl ?_
          obtain ⟨rfl, rfl, hx⟩ := w
          exact vv_zret (pc := 278) d_M_takeDeclared_278 rfl hx
  by_cases e1_7 : x1 = (207 : Int32)
  · replace w := w.2.2.2.2.2.2.2.1 e1_7
    refine vv_topi (y := 207) e1_7 ?_
    refine vv_tableIn (pc := 1) (off := 278) (tgt := 279) d_M_takeDeclared_1 (by decide +kernel) (by decide +kernel) (by decide +kernel) rfl ?_
    refine vv_aload_n (pc := 279) d_M_takeDeclared_279 rfl ?_
    refine ww_gr (pc := 280) 25 45 d_M_takeDeclared_280 fl_M_64 (by omega) rfl (by decide) ?_
    refine vv_iload_n (pc := 283) d_M_takeDeclared_283 rfl ?_
    refine vv_iload (pc := 284) d_M_takeDeclared_284 rfl ?_
    refine vv_bipush (pc := 286) (v := 65) d_M_takeDeclared_286 rfl ?_
    refine vv_isub (pc := 288) d_M_takeDeclared_288 ?_
    obtain ⟨b35, w⟩ := w
    refine ww_st (pc := 289) 45 d_M_takeDeclared_289 (by omega) (by decide) b35 ?_
    refine vv_aload_n (pc := 290) d_M_takeDeclared_290 rfl ?_
    refine ww_gr (pc := 291) 28 48 d_M_takeDeclared_291 fl_M_73 (by omega) rfl (by decide) ?_
    refine vv_iload_n (pc := 294) d_M_takeDeclared_294 rfl ?_
    refine vv_iload (pc := 295) d_M_takeDeclared_295 rfl ?_
    obtain ⟨b36, w⟩ := w
    refine ww_st (pc := 297) 48 d_M_takeDeclared_297 (by omega) (by decide) b36 ?_
    refine vv_iload (pc := 298) d_M_takeDeclared_298 rfl ?_
    obtain ⟨r38, c37, w⟩ := w
    refine vv_callS (pc := 300) (As := [.int x4]) d_M_takeDeclared_300 (c37 G (mm G h (S.1, (va_up (va_up S.2 45 (upd (S.2 45) (Int32.toNatClampNeg x2) (x4 - 65))) 48 (upd (S.2 48) (Int32.toNatClampNeg x2) x5)))) n z (d - 1)) k_M_isLetter ml_M_215.1 ml_M_215.2 (by omega) (Nat.le_of_ble_eq_true rfl) ?_
    obtain ⟨rfl, rfl, hx⟩ := w
    exact vv_zret (pc := 303) d_M_takeDeclared_303 rfl hx
  have hx : ∀ c ∈ ([200, 201, 202, 203, 204, 205, 206, 207] : List Int32), ¬ x1 = c := by
    intro c hc
    simp only [List.mem_cons, List.not_mem_nil, or_false] at hc
    rcases hc with rfl | rfl | rfl | rfl | rfl | rfl | rfl | rfl
    · exact e1_0
    · exact e1_1
    · exact e1_2
    · exact e1_3
    · exact e1_4
    · exact e1_5
    · exact e1_6
    · exact e1_7
  replace w := w.2.2.2.2.2.2.2.2 hx
  refine vv_tableOut (pc := 1) (tgt := 304) d_M_takeDeclared_1 (cp_swout 200 207 ([200, 201, 202, 203, 204, 205, 206, 207] : List Int32) hx (by decide +kernel)) rfl ?_
  refine vv_iload (pc := 304) d_M_takeDeclared_304 rfl ?_
  refine vv_bipush (pc := 306) (v := 41) d_M_takeDeclared_306 rfl ?_
  refine vv_icmp_ne (pc := 308) (tgt := 313) d_M_takeDeclared_308 rfl (fun hc => ?_) (fun hc => ?_)
  · replace w := w.1 hc
    refine vv_aload_n (pc := 313) d_M_takeDeclared_313 rfl ?_
    refine ww_gr (pc := 314) 27 47 d_M_takeDeclared_314 fl_M_70 (by omega) rfl (by decide) ?_
    refine vv_iload_n (pc := 317) d_M_takeDeclared_317 rfl ?_
    obtain ⟨b39, w⟩ := w
    refine ww_ld (pc := 318) 47 d_M_takeDeclared_318 (by omega) (by decide) b39 ?_
    refine vv_bipush (pc := 319) (v := 6) d_M_takeDeclared_319 rfl ?_
    refine vv_icmp_ne (pc := 321) (tgt := 326) d_M_takeDeclared_321 rfl (fun hc => ?_) (fun hc => ?_)
    · replace w := w.1 hc
      refine vv_aload_n (pc := 326) d_M_takeDeclared_326 rfl ?_
      refine ww_gr (pc := 327) 27 47 d_M_takeDeclared_327 fl_M_70 (by omega) rfl (by decide) ?_
      refine vv_iload_n (pc := 330) d_M_takeDeclared_330 rfl ?_
      refine vv_dup2 (pc := 331) d_M_takeDeclared_331 rfl rfl ?_
      obtain ⟨b40, w⟩ := w
      refine ww_ld (pc := 332) 47 d_M_takeDeclared_332 (by omega) (by decide) b40 ?_
      refine vv_iconst (pc := 333) (v := 1) d_M_takeDeclared_333 rfl ?_
      refine vv_iadd (pc := 334) d_M_takeDeclared_334 ?_
      obtain ⟨b41, w⟩ := w
      refine ww_st (pc := 335) 47 d_M_takeDeclared_335 (by omega) (by decide) b41 ?_
      refine vv_aload_n (pc := 336) d_M_takeDeclared_336 rfl ?_
      refine vv_sipush (pc := 337) (v := 208) d_M_takeDeclared_337 rfl ?_
      refine vv_iload_n (pc := 340) d_M_takeDeclared_340 rfl ?_
      refine vv_iconst (pc := 341) (v := 0) d_M_takeDeclared_341 rfl ?_
      obtain ⟨T43, c42, w⟩ := w
      refine vv_callV (pc := 342) (As := [.int 208, .int x2, .int 0]) d_M_takeDeclared_342 (c42 G h n z (d - 1) hn (by omega)) k_M_push ml_M_218.1 ml_M_218.2.1 ml_M_218.2.2.1 ml_M_218.2.2.2.1 ml_M_218.2.2.2.2 (by omega) mm_26 (by omega) (Nat.le_of_ble_eq_true rfl) ?_
      refine vv_aload_n (pc := 345) d_M_takeDeclared_345 rfl ?_
      refine vv_iload (pc := 346) d_M_takeDeclared_346 rfl ?_
      refine vv_iload (pc := 348) d_M_takeDeclared_348 rfl ?_
      refine vv_iconst (pc := 350) (v := 2) d_M_takeDeclared_350 rfl ?_
      obtain ⟨r46, T45, c44, w⟩ := w
      refine vv_callV (pc := 351) (As := [.int x4, .int x5, .int 2]) d_M_takeDeclared_351 (c44 G h n z (d - 1) hn (by omega)) k_M_beginTerm ml_M_229.1 ml_M_229.2.1 ml_M_229.2.2.1 ml_M_229.2.2.2.1 ml_M_229.2.2.2.2 (by omega) mm_26 (by omega) (Nat.le_of_ble_eq_true rfl) ?_
      obtain ⟨rfl, rfl, hx⟩ := w
      exact vv_zret (pc := 354) d_M_takeDeclared_354 rfl hx
    · replace w := w.2 hc
      refine vv_iconst (pc := 324) (v := 0) d_M_takeDeclared_324 rfl ?_
      obtain ⟨rfl, rfl, hx⟩ := w
      exact vv_zret (pc := 325) d_M_takeDeclared_325 rfl hx
  · replace w := w.2 hc
    refine vv_iconst (pc := 311) (v := 1) d_M_takeDeclared_311 rfl ?_
    obtain ⟨rfl, rfl, hx⟩ := w
    exact vv_zret (pc := 312) d_M_takeDeclared_312 rfl hx
theorem c_M_takeDeclared {o : Option Value} {S' S : cp_S} {x1 : Int32} {x2 : Int32} {x3 : Int32} {x4 : Int32} {x5 : Int32} (w : JJ 3 m_M_takeDeclared o S' 0 [(1, .int x1), (2, .int x2), (3, .int x3), (4, .int x4), (5, .int x5)] S) : MC 3 m_M_takeDeclared [.int x1, .int x2, .int x3, .int x4, .int x5] S o S' := fun G h n z d hn hd => cp_C.of rfl (Nat.le_of_ble_eq_true rfl) (w G h n z d hn hd)
def wp_M_takeDeclared_208 (o : Option Value) (S' : cp_S) (S : cp_S) (x1 : Int32) (x2 : Int32) (x3 : Int32) (x4 : Int32) (x5 : Int32) : Prop := (((x4 : Int32) = 62 → (o = some (.int 1) ∧ S' = S ∧ narrow .boolean (.int 1) = .int 1)) ∧ (¬ (x4 : Int32) = 62 → ((¬ (x4 : Int32) = 44 → (o = some (.int 0) ∧ S' = S ∧ narrow .boolean (.int 0) = .int 0)) ∧ ((x4 : Int32) = 44 → ((6 ≤ (x2 : Int32) → (o = some (.int 0) ∧ S' = S ∧ narrow .boolean (.int 0) = .int 0)) ∧ (¬ 6 ≤ (x2 : Int32) → (o = some (.int 1) ∧ S' = S ∧ narrow .boolean (.int 1) = .int 1)))))))
theorem b_M_takeDeclared_208 {o : Option Value} {S' S : cp_S} {x1 : Int32} {x2 : Int32} {x3 : Int32} {x4 : Int32} {x5 : Int32} (w : wp_M_takeDeclared_208 o S' S x1 x2 x3 x4 x5) : JJ 3 m_M_takeDeclared o S' 208 [(1, .int x1), (2, .int x2), (3, .int x3), (4, .int x4), (5, .int x5)] S := by
  unfold wp_M_takeDeclared_208 at w
  intro G h n z d hn hd
  refine vv_iload (pc := 208) d_M_takeDeclared_208 rfl ?_
  refine vv_bipush (pc := 210) (v := 62) d_M_takeDeclared_210 rfl ?_
  refine vv_icmp_eq (pc := 212) (tgt := 228) d_M_takeDeclared_212 rfl (fun hc => ?_) (fun hc => ?_)
  · replace w := w.1 hc
    refine vv_iconst (pc := 228) (v := 1) d_M_takeDeclared_228 rfl ?_
    refine vv_goto (pc := 229) (tgt := 233) d_M_takeDeclared_229 rfl ?_
    obtain ⟨rfl, rfl, hx⟩ := w
    exact vv_zret (pc := 233) d_M_takeDeclared_233 rfl hx
  · replace w := w.2 hc
    refine vv_iload (pc := 215) d_M_takeDeclared_215 rfl ?_
    refine vv_bipush (pc := 217) (v := 44) d_M_takeDeclared_217 rfl ?_
    refine vv_icmp_ne (pc := 219) (tgt := 232) d_M_takeDeclared_219 rfl (fun hc => ?_) (fun hc => ?_)
    · replace w := w.1 hc
      refine vv_iconst (pc := 232) (v := 0) d_M_takeDeclared_232 rfl ?_
      obtain ⟨rfl, rfl, hx⟩ := w
      exact vv_zret (pc := 233) d_M_takeDeclared_233 rfl hx
    · replace w := w.2 hc
      refine vv_iload_n (pc := 222) d_M_takeDeclared_222 rfl ?_
      refine vv_bipush (pc := 223) (v := 6) d_M_takeDeclared_223 rfl ?_
      refine vv_icmp_ge (pc := 225) (tgt := 232) d_M_takeDeclared_225 rfl (fun hc => ?_) (fun hc => ?_)
      · replace w := w.1 hc
        refine vv_iconst (pc := 232) (v := 0) d_M_takeDeclared_232 rfl ?_
        obtain ⟨rfl, rfl, hx⟩ := w
        exact vv_zret (pc := 233) d_M_takeDeclared_233 rfl hx
      · replace w := w.2 hc
        refine vv_iconst (pc := 228) (v := 1) d_M_takeDeclared_228 rfl ?_
        refine vv_goto (pc := 229) (tgt := 233) d_M_takeDeclared_229 rfl ?_
        obtain ⟨rfl, rfl, hx⟩ := w
        exact vv_zret (pc := 233) d_M_takeDeclared_233 rfl hx
def wp_M_takeCoded_0 (o : Option Value) (S' : cp_S) (S : cp_S) (x1 : Int32) (x2 : Int32) (x3 : Int32) (x4 : Int32) (x5 : Int32) : Prop := ((x1 = (209 : Int32) → ((¬ (x4 : Int32) = 61 → JJ 2 m_M_takeCoded o S' 74 [(1, .int x1), (2, .int x2), (3, .int x3), (4, .int x4), (5, .int x5)] S) ∧ ((x4 : Int32) = 61 → (((x2 : Int32) ≤ 0 → JJ 2 m_M_takeCoded o S' 74 [(1, .int x1), (2, .int x2), (3, .int x3), (4, .int x4), (5, .int x5)] S) ∧ (¬ (x2 : Int32) ≤ 0 → ∃ T2, MC 0 m_M_push [.int 210, .int 1, .int 0] S none T2 ∧ (o = some (.int 1) ∧ S' = T2 ∧ narrow .boolean (.int 1) = .int 1)))))) ∧ (x1 = (210 : Int32) → ∃ r5 T4, MC 1 m_M_beginCode [.int x4, .int x5, .int x2] S (some (.int r5)) T4 ∧ (o = some (.int r5) ∧ S' = T4 ∧ narrow .boolean (.int r5) = .int r5)) ∧ (x1 = (211 : Int32) → vp_in x2 (cp_ml 41) ∧ ∃ T8, MC 0 m_M_push [.int 212, .int x2, .int x3] (S.1, (va_up S.2 41 (upd (S.2 41) (Int32.toNatClampNeg x2) 1))) none T8 ∧ ∃ T10, MC 0 m_M_push [.int 210, .int (x3 + 1), .int 0] T8 none T10 ∧ (o = some (.int 1) ∧ S' = T10 ∧ narrow .boolean (.int 1) = .int 1)) ∧ (x1 = (212 : Int32) → ((¬ (x4 : Int32) = 41 → vp_in x2 (cp_ml 41) ∧ ((¬ (((S.2 41) (Int32.toNatClampNeg x2)) : Int32) = 6 → vp_in x2 (cp_ml 41) ∧ vp_in x2 (cp_ml 41) ∧ ∃ T15, MC 0 m_M_push [.int 212, .int x2, .int x3] (S.1, (va_up S.2 41 (upd (S.2 41) (Int32.toNatClampNeg x2) (((S.2 41) (Int32.toNatClampNeg x2)) + 1)))) none T15 ∧ ∃ r18 T17, MC 1 m_M_beginCode [.int x4, .int x5, .int (x3 + 1)] T15 (some (.int r18)) T17 ∧ (o = some (.int r18) ∧ S' = T17 ∧ narrow .boolean (.int r18) = .int r18)) ∧ ((((S.2 41) (Int32.toNatClampNeg x2)) : Int32) = 6 → (o = some (.int 0) ∧ S' = S ∧ narrow .boolean (.int 0) = .int 0)))) ∧ ((x4 : Int32) = 41 → (o = some (.int 1) ∧ S' = S ∧ narrow .boolean (.int 1) = .int 1)))) ∧ (x1 = (213 : Int32) → ((¬ (x4 : Int32) = 125 → ((¬ (x4 : Int32) = 124 → (o = some (.int 0) ∧ S' = S ∧ narrow .boolean (.int 0) = .int 0)) ∧ ((x4 : Int32) = 124 → vp_in x2 (cp_ml 41) ∧ ((¬ (((S.2 41) (Int32.toNatClampNeg x2)) : Int32) = 5 → vp_in x2 (cp_ml 41) ∧ vp_in x2 (cp_ml 41) ∧ ∃ T23, MC 0 m_M_push [.int 213, .int x2, .int x3] (S.1, (va_up S.2 41 (upd (S.2 41) (Int32.toNatClampNeg x2) (((S.2 41) (Int32.toNatClampNeg x2)) + 1)))) none T23 ∧ ∃ T25, MC 0 m_M_push [.int 210, .int (x3 + 1), .int 0] T23 none T25 ∧ ∃ T27, MC 0 m_M_push [.int 62, .int 0, .int 0] T25 none T27 ∧ ∃ T29, MC 0 m_M_push [.int 214, .int 0, .int 0] T27 none T29 ∧ (o = some (.int 1) ∧ S' = T29 ∧ narrow .boolean (.int 1) = .int 1)) ∧ ((((S.2 41) (Int32.toNatClampNeg x2)) : Int32) = 5 → (o = some (.int 0) ∧ S' = S ∧ narrow .boolean (.int 0) = .int 0)))))) ∧ ((x4 : Int32) = 125 → vp_in x2 (cp_ml 41) ∧ (((((S.2 41) (Int32.toNatClampNeg x2)) : Int32) ≤ 0 → (o = some (.int 0) ∧ S' = S ∧ narrow .boolean (.int 0) = .int 0)) ∧ (¬ (((S.2 41) (Int32.toNatClampNeg x2)) : Int32) ≤ 0 → (o = some (.int 1) ∧ S' = S ∧ narrow .boolean (.int 1) = .int 1)))))) ∧ (x1 = (214 : Int32) → ∃ r33 T32, MC 1 m_M_beginPattern [.int x4, .int x5] S (some (.int r33)) T32 ∧ (o = some (.int r33) ∧ S' = T32 ∧ narrow .boolean (.int r33) = .int r33)) ∧ (x1 = (215 : Int32) → ∃ T35, MC 0 m_M_push [.int 216, .int x2, .int 0] S none T35 ∧ (o = some (.int 1) ∧ S' = T35 ∧ narrow .boolean (.int 1) = .int 1)) ∧ (x1 = (216 : Int32) → ((¬ (x4 : Int32) = 41 → ∃ r37, SC m_M_isVariable [.int x4] (some (.int r37)) ∧ (((r37 : Int32) = 0 → (o = some (.int 0) ∧ S' = S ∧ narrow .boolean (.int 0) = .int 0)) ∧ (¬ (r37 : Int32) = 0 → vp_in x2 (cp_ml 41) ∧ ((¬ (((S.2 41) (Int32.toNatClampNeg x2)) : Int32) = 6 → ∃ r41 T40, MC 0 m_M_node [.int 14, .int (x4 - 97), .int x5] S (some (.int r41)) T40 ∧ vp_in x2 (cp_ml 41) ∧ vp_in x2 (cp_ml 41) ∧ ∃ T45, MC 0 m_M_push [.int 216, .int x2, .int 0] (T40.1, (va_up T40.2 41 (upd (T40.2 41) (Int32.toNatClampNeg x2) (((T40.2 41) (Int32.toNatClampNeg x2)) + 1)))) none T45 ∧ (o = some (.int 1) ∧ S' = T45 ∧ narrow .boolean (.int 1) = .int 1)) ∧ ((((S.2 41) (Int32.toNatClampNeg x2)) : Int32) = 6 → (o = some (.int 0) ∧ S' = S ∧ narrow .boolean (.int 0) = .int 0)))))) ∧ ((x4 : Int32) = 41 → vp_in x2 (cp_ml 41) ∧ (((((S.2 41) (Int32.toNatClampNeg x2)) : Int32) ≤ 0 → (o = some (.int 0) ∧ S' = S ∧ narrow .boolean (.int 0) = .int 0)) ∧ (¬ (((S.2 41) (Int32.toNatClampNeg x2)) : Int32) ≤ 0 → (o = some (.int 1) ∧ S' = S ∧ narrow .boolean (.int 1) = .int 1)))))) ∧ (x1 = (217 : Int32) → vp_in x2 (cp_ml 40) ∧ (((x4 : Int32) = 61 → (o = some (.int 1) ∧ S' = (S.1, (va_up S.2 40 (upd (S.2 40) (Int32.toNatClampNeg x2) x4))) ∧ narrow .boolean (.int 1) = .int 1)) ∧ (¬ (x4 : Int32) = 61 → ((¬ (x4 : Int32) = 60 → (o = some (.int 0) ∧ S' = (S.1, (va_up S.2 40 (upd (S.2 40) (Int32.toNatClampNeg x2) x4))) ∧ narrow .boolean (.int 0) = .int 0)) ∧ ((x4 : Int32) = 60 → (o = some (.int 1) ∧ S' = (S.1, (va_up S.2 40 (upd (S.2 40) (Int32.toNatClampNeg x2) x4))) ∧ narrow .boolean (.int 1) = .int 1)))))) ∧ ((∀ c ∈ ([209, 210, 211, 212, 213, 214, 215, 216, 217] : List Int32), ¬ x1 = c) → ((¬ (x2 : Int32) = 6 → ∃ T49, MC 0 m_M_push [.int 218, .int (x2 + 1), .int 0] S none T49 ∧ ∃ r52 T51, MC 1 m_M_beginTerm [.int x4, .int x5, .int 2] ((va_up T49.1 34 (x2 + 1)), T49.2) (some (.int r52)) T51 ∧ (o = some (.int r52) ∧ S' = T51 ∧ narrow .boolean (.int r52) = .int r52)) ∧ ((x2 : Int32) = 6 → (o = some (.int 0) ∧ S' = S ∧ narrow .boolean (.int 0) = .int 0)))))
theorem b_M_takeCoded_0 {o : Option Value} {S' S : cp_S} {x1 : Int32} {x2 : Int32} {x3 : Int32} {x4 : Int32} {x5 : Int32} (w : wp_M_takeCoded_0 o S' S x1 x2 x3 x4 x5) : JJ 2 m_M_takeCoded o S' 0 [(1, .int x1), (2, .int x2), (3, .int x3), (4, .int x4), (5, .int x5)] S := by
  unfold wp_M_takeCoded_0 at w
  intro G h n z d hn hd
  refine vv_iload_n (pc := 0) d_M_takeCoded_0 rfl ?_
  by_cases e1_0 : x1 = (209 : Int32)
  · replace w := w.1 e1_0
    refine vv_topi (y := 209) e1_0 ?_
    refine vv_tableIn (pc := 1) (off := 51) (tgt := 52) d_M_takeCoded_1 (by decide +kernel) (by decide +kernel) (by decide +kernel) rfl ?_
    refine vv_iload (pc := 52) d_M_takeCoded_52 rfl ?_
    refine vv_bipush (pc := 54) (v := 61) d_M_takeCoded_54 rfl ?_
    refine vv_icmp_ne (pc := 56) (tgt := 74) d_M_takeCoded_56 rfl (fun hc => ?_) (fun hc => ?_)
    · replace w := w.1 hc
      exact vv_sub [0, 1, 2, 3, 4, 5] rfl (w G h n z d hn hd)
    · replace w := w.2 hc
      refine vv_iload_n (pc := 59) d_M_takeCoded_59 rfl ?_
      refine vv_if_le (pc := 60) (tgt := 74) d_M_takeCoded_60 rfl (fun hc => ?_) (fun hc => ?_)
      · replace w := w.1 hc
        exact vv_sub [0, 1, 2, 3, 4, 5] rfl (w G h n z d hn hd)
      · replace w := w.2 hc
        refine vv_aload_n (pc := 63) d_M_takeCoded_63 rfl ?_
        refine vv_sipush (pc := 64) (v := 210) d_M_takeCoded_64 rfl ?_
        refine vv_iconst (pc := 67) (v := 1) d_M_takeCoded_67 rfl ?_
        refine vv_iconst (pc := 68) (v := 0) d_M_takeCoded_68 rfl ?_
        obtain ⟨T2, c1, w⟩ := w
        refine vv_callV (pc := 69) (As := [.int 210, .int 1, .int 0]) d_M_takeCoded_69 (c1 G h n z (d - 1) hn (by omega)) k_M_push ml_M_218.1 ml_M_218.2.1 ml_M_218.2.2.1 ml_M_218.2.2.2.1 ml_M_218.2.2.2.2 (by omega) mm_26 (by omega) (Nat.le_of_ble_eq_true rfl) ?_
        refine vv_iconst (pc := 72) (v := 1) d_M_takeCoded_72 rfl ?_
        obtain ⟨rfl, rfl, hx⟩ := w
        exact vv_zret (pc := 73) d_M_takeCoded_73 rfl hx
  by_cases e1_1 : x1 = (210 : Int32)
  · replace w := w.2.1 e1_1
    refine vv_topi (y := 210) e1_1 ?_
    refine vv_tableIn (pc := 1) (off := 119) (tgt := 120) d_M_takeCoded_1 (by decide +kernel) (by decide +kernel) (by decide +kernel) rfl ?_
    refine vv_aload_n (pc := 120) d_M_takeCoded_120 rfl ?_
    refine vv_iload (pc := 121) d_M_takeCoded_121 rfl ?_
    refine vv_iload (pc := 123) d_M_takeCoded_123 rfl ?_
    refine vv_iload_n (pc := 125) d_M_takeCoded_125 rfl ?_
    obtain ⟨r5, T4, c3, w⟩ := w
    refine vv_callV (pc := 126) (As := [.int x4, .int x5, .int x2]) d_M_takeCoded_126 (c3 G h n z (d - 1) hn (by omega)) k_M_beginCode ml_M_246.1 ml_M_246.2.1 ml_M_246.2.2.1 ml_M_246.2.2.2.1 ml_M_246.2.2.2.2 (by omega) mm_26 (by omega) (Nat.le_of_ble_eq_true rfl) ?_
    obtain ⟨rfl, rfl, hx⟩ := w
    exact vv_zret (pc := 129) d_M_takeCoded_129 rfl hx
  by_cases e1_2 : x1 = (211 : Int32)
  · replace w := w.2.2.1 e1_2
    refine vv_topi (y := 211) e1_2 ?_
    refine vv_tableIn (pc := 1) (off := 129) (tgt := 130) d_M_takeCoded_1 (by decide +kernel) (by decide +kernel) (by decide +kernel) rfl ?_
    refine vv_aload_n (pc := 130) d_M_takeCoded_130 rfl ?_
    refine ww_gr (pc := 131) 19 41 d_M_takeCoded_131 fl_M_52 (by omega) rfl (by decide) ?_
    refine vv_iload_n (pc := 134) d_M_takeCoded_134 rfl ?_
    refine vv_iconst (pc := 135) (v := 1) d_M_takeCoded_135 rfl ?_
    obtain ⟨b6, w⟩ := w
    refine ww_st (pc := 136) 41 d_M_takeCoded_136 (by omega) (by decide) b6 ?_
    refine vv_aload_n (pc := 137) d_M_takeCoded_137 rfl ?_
    refine vv_sipush (pc := 138) (v := 212) d_M_takeCoded_138 rfl ?_
    refine vv_iload_n (pc := 141) d_M_takeCoded_141 rfl ?_
    refine vv_iload_n (pc := 142) d_M_takeCoded_142 rfl ?_
    obtain ⟨T8, c7, w⟩ := w
    refine vv_callV (pc := 143) (As := [.int 212, .int x2, .int x3]) d_M_takeCoded_143 (c7 G h n z (d - 1) hn (by omega)) k_M_push ml_M_218.1 ml_M_218.2.1 ml_M_218.2.2.1 ml_M_218.2.2.2.1 ml_M_218.2.2.2.2 (by omega) mm_26 (by omega) (Nat.le_of_ble_eq_true rfl) ?_
    refine vv_aload_n (pc := 146) d_M_takeCoded_146 rfl ?_
    refine vv_sipush (pc := 147) (v := 210) d_M_takeCoded_147 rfl ?_
    refine vv_iload_n (pc := 150) d_M_takeCoded_150 rfl ?_
    refine vv_iconst (pc := 151) (v := 1) d_M_takeCoded_151 rfl ?_
    refine vv_iadd (pc := 152) d_M_takeCoded_152 ?_
    refine vv_iconst (pc := 153) (v := 0) d_M_takeCoded_153 rfl ?_
    obtain ⟨T10, c9, w⟩ := w
    refine vv_callV (pc := 154) (As := [.int 210, .int (x3 + 1), .int 0]) d_M_takeCoded_154 (c9 G h n z (d - 1) hn (by omega)) k_M_push ml_M_218.1 ml_M_218.2.1 ml_M_218.2.2.1 ml_M_218.2.2.2.1 ml_M_218.2.2.2.2 (by omega) mm_26 (by omega) (Nat.le_of_ble_eq_true rfl) ?_
    refine vv_iconst (pc := 157) (v := 1) d_M_takeCoded_157 rfl ?_
    obtain ⟨rfl, rfl, hx⟩ := w
    exact vv_zret (pc := 158) d_M_takeCoded_158 rfl hx
  by_cases e1_3 : x1 = (212 : Int32)
  · replace w := w.2.2.2.1 e1_3
    refine vv_topi (y := 212) e1_3 ?_
    refine vv_tableIn (pc := 1) (off := 158) (tgt := 159) d_M_takeCoded_1 (by decide +kernel) (by decide +kernel) (by decide +kernel) rfl ?_
    refine vv_iload (pc := 159) d_M_takeCoded_159 rfl ?_
    refine vv_bipush (pc := 161) (v := 41) d_M_takeCoded_161 rfl ?_
    refine vv_icmp_ne (pc := 163) (tgt := 168) d_M_takeCoded_163 rfl (fun hc => ?_) (fun hc => ?_)
    · replace w := w.1 hc
      refine vv_aload_n (pc := 168) d_M_takeCoded_168 rfl ?_
      refine ww_gr (pc := 169) 19 41 d_M_takeCoded_169 fl_M_52 (by omega) rfl (by decide) ?_
      refine vv_iload_n (pc := 172) d_M_takeCoded_172 rfl ?_
      obtain ⟨b11, w⟩ := w
      refine ww_ld (pc := 173) 41 d_M_takeCoded_173 (by omega) (by decide) b11 ?_
      refine vv_bipush (pc := 174) (v := 6) d_M_takeCoded_174 rfl ?_
      refine vv_icmp_ne (pc := 176) (tgt := 181) d_M_takeCoded_176 rfl (fun hc => ?_) (fun hc => ?_)
      · replace w := w.1 hc
        refine vv_aload_n (pc := 181) d_M_takeCoded_181 rfl ?_
        refine ww_gr (pc := 182) 19 41 d_M_takeCoded_182 fl_M_52 (by omega) rfl (by decide) ?_
        refine vv_iload_n (pc := 185) d_M_takeCoded_185 rfl ?_
        refine vv_dup2 (pc := 186) d_M_takeCoded_186 rfl rfl ?_
        obtain ⟨b12, w⟩ := w
        refine ww_ld (pc := 187) 41 d_M_takeCoded_187 (by omega) (by decide) b12 ?_
        refine vv_iconst (pc := 188) (v := 1) d_M_takeCoded_188 rfl ?_
        refine vv_iadd (pc := 189) d_M_takeCoded_189 ?_
        obtain ⟨b13, w⟩ := w
        refine ww_st (pc := 190) 41 d_M_takeCoded_190 (by omega) (by decide) b13 ?_
        refine vv_aload_n (pc := 191) d_M_takeCoded_191 rfl ?_
        refine vv_sipush (pc := 192) (v := 212) d_M_takeCoded_192 rfl ?_
        refine vv_iload_n (pc := 195) d_M_takeCoded_195 rfl ?_
        refine vv_iload_n (pc := 196) d_M_takeCoded_196 rfl ?_
        obtain ⟨T15, c14, w⟩ := w
        refine vv_callV (pc := 197) (As := [.int 212, .int x2, .int x3]) d_M_takeCoded_197 (c14 G h n z (d - 1) hn (by omega)) k_M_push ml_M_218.1 ml_M_218.2.1 ml_M_218.2.2.1 ml_M_218.2.2.2.1 ml_M_218.2.2.2.2 (by omega) mm_26 (by omega) (Nat.le_of_ble_eq_true rfl) ?_
        refine vv_aload_n (pc := 200) d_M_takeCoded_200 rfl ?_
        refine vv_iload (pc := 201) d_M_takeCoded_201 rfl ?_
        refine vv_iload (pc := 203) d_M_takeCoded_203 rfl ?_
        refine vv_iload_n (pc := 205) d_M_takeCoded_205 rfl ?_
        refine vv_iconst (pc := 206) (v := 1) d_M_takeCoded_206 rfl ?_
        refine vv_iadd (pc := 207) d_M_takeCoded_207 ?_
        obtain ⟨r18, T17, c16, w⟩ := w
        refine vv_callV (pc := 208) (As := [.int x4, .int x5, .int (x3 + 1)]) d_M_takeCoded_208 (c16 G h n z (d - 1) hn (by omega)) k_M_beginCode ml_M_246.1 ml_M_246.2.1 ml_M_246.2.2.1 ml_M_246.2.2.2.1 ml_M_246.2.2.2.2 (by omega) mm_26 (by omega) (Nat.le_of_ble_eq_true rfl) ?_
        obtain ⟨rfl, rfl, hx⟩ := w
        exact vv_zret (pc := 211) d_M_takeCoded_211 rfl hx
      · replace w := w.2 hc
        refine vv_iconst (pc := 179) (v := 0) d_M_takeCoded_179 rfl ?_
        obtain ⟨rfl, rfl, hx⟩ := w
        exact vv_zret (pc := 180) d_M_takeCoded_180 rfl hx
    · replace w := w.2 hc
      refine vv_iconst (pc := 166) (v := 1) d_M_takeCoded_166 rfl ?_
      obtain ⟨rfl, rfl, hx⟩ := w
      exact vv_zret (pc := 167) d_M_takeCoded_167 rfl hx
  by_cases e1_4 : x1 = (213 : Int32)
  · replace w := w.2.2.2.2.1 e1_4
    refine vv_topi (y := 213) e1_4 ?_
    refine vv_tableIn (pc := 1) (off := 211) (tgt := 212) d_M_takeCoded_1 (by decide +kernel) (by decide +kernel) (by decide +kernel) rfl ?_
    refine vv_iload (pc := 212) d_M_takeCoded_212 rfl ?_
    refine vv_bipush (pc := 214) (v := 125) d_M_takeCoded_214 rfl ?_
    refine vv_icmp_ne (pc := 216) (tgt := 234) d_M_takeCoded_216 rfl (fun hc => ?_) (fun hc => ?_)
    · replace w := w.1 hc
      refine vv_iload (pc := 234) d_M_takeCoded_234 rfl ?_
      refine vv_bipush (pc := 236) (v := 124) d_M_takeCoded_236 rfl ?_
      refine vv_icmp_ne (pc := 238) (tgt := 251) d_M_takeCoded_238 rfl (fun hc => ?_) (fun hc => ?_)
      · replace w := w.1 hc
        refine vv_iconst (pc := 251) (v := 0) d_M_takeCoded_251 rfl ?_
        obtain ⟨rfl, rfl, hx⟩ := w
        exact vv_zret (pc := 252) d_M_takeCoded_252 rfl hx
      · replace w := w.2 hc
        refine vv_aload_n (pc := 241) d_M_takeCoded_241 rfl ?_
        refine ww_gr (pc := 242) 19 41 d_M_takeCoded_242 fl_M_52 (by omega) rfl (by decide) ?_
        refine vv_iload_n (pc := 245) d_M_takeCoded_245 rfl ?_
        obtain ⟨b19, w⟩ := w
        refine ww_ld (pc := 246) 41 d_M_takeCoded_246 (by omega) (by decide) b19 ?_
        refine vv_iconst (pc := 247) (v := 5) d_M_takeCoded_247 rfl ?_
        refine vv_icmp_ne (pc := 248) (tgt := 253) d_M_takeCoded_248 rfl (fun hc => ?_) (fun hc => ?_)
        · replace w := w.1 hc
          refine vv_aload_n (pc := 253) d_M_takeCoded_253 rfl ?_
          refine ww_gr (pc := 254) 19 41 d_M_takeCoded_254 fl_M_52 (by omega) rfl (by decide) ?_
          refine vv_iload_n (pc := 257) d_M_takeCoded_257 rfl ?_
          refine vv_dup2 (pc := 258) d_M_takeCoded_258 rfl rfl ?_
          obtain ⟨b20, w⟩ := w
          refine ww_ld (pc := 259) 41 d_M_takeCoded_259 (by omega) (by decide) b20 ?_
          refine vv_iconst (pc := 260) (v := 1) d_M_takeCoded_260 rfl ?_
          refine vv_iadd (pc := 261) d_M_takeCoded_261 ?_
          obtain ⟨b21, w⟩ := w
          refine ww_st (pc := 262) 41 d_M_takeCoded_262 (by omega) (by decide) b21 ?_
          refine vv_aload_n (pc := 263) d_M_takeCoded_263 rfl ?_
          refine vv_sipush (pc := 264) (v := 213) d_M_takeCoded_264 rfl ?_
          refine vv_iload_n (pc := 267) d_M_takeCoded_267 rfl ?_
          refine vv_iload_n (pc := 268) d_M_takeCoded_268 rfl ?_
          obtain ⟨T23, c22, w⟩ := w
          refine vv_callV (pc := 269) (As := [.int 213, .int x2, .int x3]) d_M_takeCoded_269 (c22 G h n z (d - 1) hn (by omega)) k_M_push ml_M_218.1 ml_M_218.2.1 ml_M_218.2.2.1 ml_M_218.2.2.2.1 ml_M_218.2.2.2.2 (by omega) mm_26 (by omega) (Nat.le_of_ble_eq_true rfl) ?_
          refine vv_aload_n (pc := 272) d_M_takeCoded_272 rfl ?_
          refine vv_sipush (pc := 273) (v := 210) d_M_takeCoded_273 rfl ?_
          refine vv_iload_n (pc := 276) d_M_takeCoded_276 rfl ?_
          refine vv_iconst (pc := 277) (v := 1) d_M_takeCoded_277 rfl ?_
          refine vv_iadd (pc := 278) d_M_takeCoded_278 ?_
          refine vv_iconst (pc := 279) (v := 0) d_M_takeCoded_279 rfl ?_
          obtain ⟨T25, c24, w⟩ := w
          refine vv_callV (pc := 280) (As := [.int 210, .int (x3 + 1), .int 0]) d_M_takeCoded_280 (c24 G h n z (d - 1) hn (by omega)) k_M_push ml_M_218.1 ml_M_218.2.1 ml_M_218.2.2.1 ml_M_218.2.2.2.1 ml_M_218.2.2.2.2 (by omega) mm_26 (by omega) (Nat.le_of_ble_eq_true rfl) ?_
          refine vv_aload_n (pc := 283) d_M_takeCoded_283 rfl ?_
          refine vv_bipush (pc := 284) (v := 62) d_M_takeCoded_284 rfl ?_
          refine vv_iconst (pc := 286) (v := 0) d_M_takeCoded_286 rfl ?_
          refine vv_iconst (pc := 287) (v := 0) d_M_takeCoded_287 rfl ?_
          obtain ⟨T27, c26, w⟩ := w
          refine vv_callV (pc := 288) (As := [.int 62, .int 0, .int 0]) d_M_takeCoded_288 (c26 G h n z (d - 1) hn (by omega)) k_M_push ml_M_218.1 ml_M_218.2.1 ml_M_218.2.2.1 ml_M_218.2.2.2.1 ml_M_218.2.2.2.2 (by omega) mm_26 (by omega) (Nat.le_of_ble_eq_true rfl) ?_
          refine vv_aload_n (pc := 291) d_M_takeCoded_291 rfl ?_
          refine vv_sipush (pc := 292) (v := 214) d_M_takeCoded_292 rfl ?_
          refine vv_iconst (pc := 295) (v := 0) d_M_takeCoded_295 rfl ?_
          refine vv_iconst (pc := 296) (v := 0) d_M_takeCoded_296 rfl ?_
          obtain ⟨T29, c28, w⟩ := w
          refine vv_callV (pc := 297) (As := [.int 214, .int 0, .int 0]) d_M_takeCoded_297 (c28 G h n z (d - 1) hn (by omega)) k_M_push ml_M_218.1 ml_M_218.2.1 ml_M_218.2.2.1 ml_M_218.2.2.2.1 ml_M_218.2.2.2.2 (by omega) mm_26 (by omega) (Nat.le_of_ble_eq_true rfl) ?_
          refine vv_iconst (pc := 300) (v := 1) d_M_takeCoded_300 rfl ?_
          obtain ⟨rfl, rfl, hx⟩ := w
          exact vv_zret (pc := 301) d_M_takeCoded_301 rfl hx
        · replace w := w.2 hc
          refine vv_iconst (pc := 251) (v := 0) d_M_takeCoded_251 rfl ?_
          obtain ⟨rfl, rfl, hx⟩ := w
          exact vv_zret (pc := 252) d_M_takeCoded_252 rfl hx
    · replace w := w.2 hc
      refine vv_aload_n (pc := 219) d_M_takeCoded_219 rfl ?_
      refine ww_gr (pc := 220) 19 41 d_M_takeCoded_220 fl_M_52 (by omega) rfl (by decide) ?_
      refine vv_iload_n (pc := 223) d_M_takeCoded_223 rfl ?_
      obtain ⟨b30, w⟩ := w
      refine ww_ld (pc := 224) 41 d_M_takeCoded_224 (by omega) (by decide) b30 ?_
      refine vv_if_le (pc := 225) (tgt := 232) d_M_takeCoded_225 rfl (fun hc => ?_) (fun hc => ?_)
      · replace w := w.1 hc
        refine vv_iconst (pc := 232) (v := 0) d_M_takeCoded_232 rfl ?_
        obtain ⟨rfl, rfl, hx⟩ := w
        exact vv_zret (pc := 233) d_M_takeCoded_233 rfl hx
      · replace w := w.2 hc
        refine vv_iconst (pc := 228) (v := 1) d_M_takeCoded_228 rfl ?_
        refine vv_goto (pc := 229) (tgt := 233) d_M_takeCoded_229 rfl ?_
        obtain ⟨rfl, rfl, hx⟩ := w
        exact vv_zret (pc := 233) d_M_takeCoded_233 rfl hx
  by_cases e1_5 : x1 = (214 : Int32)
  · replace w := w.2.2.2.2.2.1 e1_5
    refine vv_topi (y := 214) e1_5 ?_
    refine vv_tableIn (pc := 1) (off := 301) (tgt := 302) d_M_takeCoded_1 (by decide +kernel) (by decide +kernel) (by decide +kernel) rfl ?_
    refine vv_aload_n (pc := 302) d_M_takeCoded_302 rfl ?_
    refine vv_iload (pc := 303) d_M_takeCoded_303 rfl ?_
    refine vv_iload (pc := 305) d_M_takeCoded_305 rfl ?_
    obtain ⟨r33, T32, c31, w⟩ := w
    refine vv_callV (pc := 307) (As := [.int x4, .int x5]) d_M_takeCoded_307 (c31 G h n z (d - 1) hn (by omega)) k_M_beginPattern ml_M_249.1 ml_M_249.2.1 ml_M_249.2.2.1 ml_M_249.2.2.2.1 ml_M_249.2.2.2.2 (by omega) mm_26 (by omega) (Nat.le_of_ble_eq_true rfl) ?_
    obtain ⟨rfl, rfl, hx⟩ := w
    exact vv_zret (pc := 310) d_M_takeCoded_310 rfl hx
  by_cases e1_6 : x1 = (215 : Int32)
  · replace w := w.2.2.2.2.2.2.1 e1_6
    refine vv_topi (y := 215) e1_6 ?_
    refine vv_tableIn (pc := 1) (off := 310) (tgt := 311) d_M_takeCoded_1 (by decide +kernel) (by decide +kernel) (by decide +kernel) rfl ?_
    refine vv_aload_n (pc := 311) d_M_takeCoded_311 rfl ?_
    refine vv_sipush (pc := 312) (v := 216) d_M_takeCoded_312 rfl ?_
    refine vv_iload_n (pc := 315) d_M_takeCoded_315 rfl ?_
    refine vv_iconst (pc := 316) (v := 0) d_M_takeCoded_316 rfl ?_
    obtain ⟨T35, c34, w⟩ := w
    refine vv_callV (pc := 317) (As := [.int 216, .int x2, .int 0]) d_M_takeCoded_317 (c34 G h n z (d - 1) hn (by omega)) k_M_push ml_M_218.1 ml_M_218.2.1 ml_M_218.2.2.1 ml_M_218.2.2.2.1 ml_M_218.2.2.2.2 (by omega) mm_26 (by omega) (Nat.le_of_ble_eq_true rfl) ?_
    refine vv_iconst (pc := 320) (v := 1) d_M_takeCoded_320 rfl ?_
    obtain ⟨rfl, rfl, hx⟩ := w
    exact vv_zret (pc := 321) d_M_takeCoded_321 rfl hx
  by_cases e1_7 : x1 = (216 : Int32)
  · replace w := w.2.2.2.2.2.2.2.1 e1_7
    refine vv_topi (y := 216) e1_7 ?_
    refine vv_tableIn (pc := 1) (off := 321) (tgt := 322) d_M_takeCoded_1 (by decide +kernel) (by decide +kernel) (by decide +kernel) rfl ?_
    refine vv_iload (pc := 322) d_M_takeCoded_322 rfl ?_
    refine vv_bipush (pc := 324) (v := 41) d_M_takeCoded_324 rfl ?_
    refine vv_icmp_ne (pc := 326) (tgt := 344) d_M_takeCoded_326 rfl (fun hc => ?_) (fun hc => ?_)
    · replace w := w.1 hc
      refine vv_iload (pc := 344) d_M_takeCoded_344 rfl ?_
      obtain ⟨r37, c36, w⟩ := w
      refine vv_callS (pc := 346) (As := [.int x4]) d_M_takeCoded_346 (c36 G (mm G h S) n z (d - 1)) k_M_isVariable ml_M_204.1 ml_M_204.2 (by omega) (Nat.le_of_ble_eq_true rfl) ?_
      refine vv_if_eq (pc := 349) (tgt := 363) d_M_takeCoded_349 rfl (fun hc => ?_) (fun hc => ?_)
      · replace w := w.1 hc
        refine vv_iconst (pc := 363) (v := 0) d_M_takeCoded_363 rfl ?_
        obtain ⟨rfl, rfl, hx⟩ := w
        exact vv_zret (pc := 364) d_M_takeCoded_364 rfl hx
      · replace w := w.2 hc
        refine vv_aload_n (pc := 352) d_M_takeCoded_352 rfl ?_
        refine ww_gr (pc := 353) 19 41 d_M_takeCoded_353 fl_M_52 (by omega) rfl (by decide) ?_
        refine vv_iload_n (pc := 356) d_M_takeCoded_356 rfl ?_
        obtain ⟨b38, w⟩ := w
        refine ww_ld (pc := 357) 41 d_M_takeCoded_357 (by omega) (by decide) b38 ?_
        refine vv_bipush (pc := 358) (v := 6) d_M_takeCoded_358 rfl ?_
        refine vv_icmp_ne (pc := 360) (tgt := 365) d_M_takeCoded_360 rfl (fun hc => ?_) (fun hc => ?_)
        · replace w := w.1 hc
          refine vv_aload_n (pc := 365) d_M_takeCoded_365 rfl ?_
          refine vv_bipush (pc := 366) (v := 14) d_M_takeCoded_366 rfl ?_
          refine vv_iload (pc := 368) d_M_takeCoded_368 rfl ?_
          refine vv_bipush (pc := 370) (v := 97) d_M_takeCoded_370 rfl ?_
          refine vv_isub (pc := 372) d_M_takeCoded_372 ?_
          refine vv_iload (pc := 373) d_M_takeCoded_373 rfl ?_
          obtain ⟨r41, T40, c39, w⟩ := w
          refine vv_callV (pc := 375) (As := [.int 14, .int (x4 - 97), .int x5]) d_M_takeCoded_375 (c39 G h n z (d - 1) hn (by omega)) k_M_node ml_M_211.1 ml_M_211.2.1 ml_M_211.2.2.1 ml_M_211.2.2.2.1 ml_M_211.2.2.2.2 (by omega) mm_26 (by omega) (Nat.le_of_ble_eq_true rfl) ?_
          refine vv_pop (pc := 378) d_M_takeCoded_378 rfl ?_
          refine vv_aload_n (pc := 379) d_M_takeCoded_379 rfl ?_
          refine ww_gr (pc := 380) 19 41 d_M_takeCoded_380 fl_M_52 (by omega) rfl (by decide) ?_
          refine vv_iload_n (pc := 383) d_M_takeCoded_383 rfl ?_
          refine vv_dup2 (pc := 384) d_M_takeCoded_384 rfl rfl ?_
          obtain ⟨b42, w⟩ := w
          refine ww_ld (pc := 385) 41 d_M_takeCoded_385 (by omega) (by decide) b42 ?_
          refine vv_iconst (pc := 386) (v := 1) d_M_takeCoded_386 rfl ?_
          refine vv_iadd (pc := 387) d_M_takeCoded_387 ?_
          obtain ⟨b43, w⟩ := w
          refine ww_st (pc := 388) 41 d_M_takeCoded_388 (by omega) (by decide) b43 ?_
          refine vv_aload_n (pc := 389) d_M_takeCoded_389 rfl ?_
          refine vv_sipush (pc := 390) (v := 216) d_M_takeCoded_390 rfl ?_
          refine vv_iload_n (pc := 393) d_M_takeCoded_393 rfl ?_
          refine vv_iconst (pc := 394) (v := 0) d_M_takeCoded_394 rfl ?_
          obtain ⟨T45, c44, w⟩ := w
          refine vv_callV (pc := 395) (As := [.int 216, .int x2, .int 0]) d_M_takeCoded_395 (c44 G h n z (d - 1) hn (by omega)) k_M_push ml_M_218.1 ml_M_218.2.1 ml_M_218.2.2.1 ml_M_218.2.2.2.1 ml_M_218.2.2.2.2 (by omega) mm_26 (by omega) (Nat.le_of_ble_eq_true rfl) ?_
          refine vv_iconst (pc := 398) (v := 1) d_M_takeCoded_398 rfl ?_
          obtain ⟨rfl, rfl, hx⟩ := w
          exact vv_zret (pc := 399) d_M_takeCoded_399 rfl hx
        · replace w := w.2 hc
          refine vv_iconst (pc := 363) (v := 0) d_M_takeCoded_363 rfl ?_
          obtain ⟨rfl, rfl, hx⟩ := w
          exact vv_zret (pc := 364) d_M_takeCoded_364 rfl hx
    · replace w := w.2 hc
      refine vv_aload_n (pc := 329) d_M_takeCoded_329 rfl ?_
      refine ww_gr (pc := 330) 19 41 d_M_takeCoded_330 fl_M_52 (by omega) rfl (by decide) ?_
      refine vv_iload_n (pc := 333) d_M_takeCoded_333 rfl ?_
      obtain ⟨b46, w⟩ := w
      refine ww_ld (pc := 334) 41 d_M_takeCoded_334 (by omega) (by decide) b46 ?_
      refine vv_if_le (pc := 335) (tgt := 342) d_M_takeCoded_335 rfl (fun hc => ?_) (fun hc => ?_)
      · replace w := w.1 hc
        refine vv_iconst (pc := 342) (v := 0) d_M_takeCoded_342 rfl ?_
        obtain ⟨rfl, rfl, hx⟩ := w
        exact vv_zret (pc := 343) d_M_takeCoded_343 rfl hx
      · replace w := w.2 hc
        refine vv_iconst (pc := 338) (v := 1) d_M_takeCoded_338 rfl ?_
        refine vv_goto (pc := 339) (tgt := 343) d_M_takeCoded_339 rfl ?_
        obtain ⟨rfl, rfl, hx⟩ := w
        exact vv_zret (pc := 343) d_M_takeCoded_343 rfl hx
  by_cases e1_8 : x1 = (217 : Int32)
  · replace w := w.2.2.2.2.2.2.2.2.1 e1_8
    refine vv_topi (y := 217) e1_8 ?_
    refine vv_tableIn (pc := 1) (off := 399) (tgt := 400) d_M_takeCoded_1 (by decide +kernel) (by decide +kernel) (by decide +kernel) rfl ?_
    refine vv_aload_n (pc := 400) d_M_takeCoded_400 rfl ?_
    refine ww_gr (pc := 401) 18 40 d_M_takeCoded_401 fl_M_49 (by omega) rfl (by decide) ?_
    refine vv_iload_n (pc := 404) d_M_takeCoded_404 rfl ?_
    refine vv_iload (pc := 405) d_M_takeCoded_405 rfl ?_
    obtain ⟨b47, w⟩ := w
    refine ww_st (pc := 407) 40 d_M_takeCoded_407 (by omega) (by decide) b47 ?_
    refine vv_iload (pc := 408) d_M_takeCoded_408 rfl ?_
    refine vv_bipush (pc := 410) (v := 61) d_M_takeCoded_410 rfl ?_
    refine vv_icmp_eq (pc := 412) (tgt := 422) d_M_takeCoded_412 rfl (fun hc => ?_) (fun hc => ?_)
    · replace w := w.1 hc
      refine vv_iconst (pc := 422) (v := 1) d_M_takeCoded_422 rfl ?_
      refine vv_goto (pc := 423) (tgt := 427) d_M_takeCoded_423 rfl ?_
      obtain ⟨rfl, rfl, hx⟩ := w
      exact vv_zret (pc := 427) d_M_takeCoded_427 rfl hx
    · replace w := w.2 hc
      refine vv_iload (pc := 415) d_M_takeCoded_415 rfl ?_
      refine vv_bipush (pc := 417) (v := 60) d_M_takeCoded_417 rfl ?_
      refine vv_icmp_ne (pc := 419) (tgt := 426) d_M_takeCoded_419 rfl (fun hc => ?_) (fun hc => ?_)
      · replace w := w.1 hc
        refine vv_iconst (pc := 426) (v := 0) d_M_takeCoded_426 rfl ?_
        obtain ⟨rfl, rfl, hx⟩ := w
        exact vv_zret (pc := 427) d_M_takeCoded_427 rfl hx
      · replace w := w.2 hc
        refine vv_iconst (pc := 422) (v := 1) d_M_takeCoded_422 rfl ?_
        refine vv_goto (pc := 423) (tgt := 427) d_M_takeCoded_423 rfl ?_
        obtain ⟨rfl, rfl, hx⟩ := w
        exact vv_zret (pc := 427) d_M_takeCoded_427 rfl hx
  have hx : ∀ c ∈ ([209, 210, 211, 212, 213, 214, 215, 216, 217] : List Int32), ¬ x1 = c := by
    intro c hc
    simp only [List.mem_cons, List.not_mem_nil, or_false] at hc
    rcases hc with rfl | rfl | rfl | rfl | rfl | rfl | rfl | rfl | rfl
    · exact e1_0
    · exact e1_1
    · exact e1_2
    · exact e1_3
    · exact e1_4
    · exact e1_5
    · exact e1_6
    · exact e1_7
    · exact e1_8
  replace w := w.2.2.2.2.2.2.2.2.2 hx
  refine vv_tableOut (pc := 1) (tgt := 428) d_M_takeCoded_1 (cp_swout 209 217 ([209, 210, 211, 212, 213, 214, 215, 216, 217] : List Int32) hx (by decide +kernel)) rfl ?_
  refine vv_iload_n (pc := 428) d_M_takeCoded_428 rfl ?_
  refine vv_bipush (pc := 429) (v := 6) d_M_takeCoded_429 rfl ?_
  refine vv_icmp_ne (pc := 431) (tgt := 436) d_M_takeCoded_431 rfl (fun hc => ?_) (fun hc => ?_)
  · replace w := w.1 hc
    refine vv_aload_n (pc := 436) d_M_takeCoded_436 rfl ?_
    refine vv_sipush (pc := 437) (v := 218) d_M_takeCoded_437 rfl ?_
    refine vv_iload_n (pc := 440) d_M_takeCoded_440 rfl ?_
    refine vv_iconst (pc := 441) (v := 1) d_M_takeCoded_441 rfl ?_
    refine vv_iadd (pc := 442) d_M_takeCoded_442 ?_
    refine vv_iconst (pc := 443) (v := 0) d_M_takeCoded_443 rfl ?_
    obtain ⟨T49, c48, w⟩ := w
    refine vv_callV (pc := 444) (As := [.int 218, .int (x2 + 1), .int 0]) d_M_takeCoded_444 (c48 G h n z (d - 1) hn (by omega)) k_M_push ml_M_218.1 ml_M_218.2.1 ml_M_218.2.2.1 ml_M_218.2.2.2.1 ml_M_218.2.2.2.2 (by omega) mm_26 (by omega) (Nat.le_of_ble_eq_true rfl) ?_
    refine vv_aload_n (pc := 447) d_M_takeCoded_447 rfl ?_
    refine vv_iload_n (pc := 448) d_M_takeCoded_448 rfl ?_
    refine vv_iconst (pc := 449) (v := 1) d_M_takeCoded_449 rfl ?_
    refine vv_iadd (pc := 450) d_M_takeCoded_450 ?_
    refine ww_pi (pc := 451) 34 d_M_takeCoded_451 fl_M_243 (by omega) rfl rfl rfl rfl ?_
    refine vv_aload_n (pc := 454) d_M_takeCoded_454 rfl ?_
    refine vv_iload (pc := 455) d_M_takeCoded_455 rfl ?_
    refine vv_iload (pc := 457) d_M_takeCoded_457 rfl ?_
    refine vv_iconst (pc := 459) (v := 2) d_M_takeCoded_459 rfl ?_
    obtain ⟨r52, T51, c50, w⟩ := w
    refine vv_callV (pc := 460) (As := [.int x4, .int x5, .int 2]) d_M_takeCoded_460 (c50 G h n z (d - 1) hn (by omega)) k_M_beginTerm ml_M_229.1 ml_M_229.2.1 ml_M_229.2.2.1 ml_M_229.2.2.2.1 ml_M_229.2.2.2.2 (by omega) mm_26 (by omega) (Nat.le_of_ble_eq_true rfl) ?_
    obtain ⟨rfl, rfl, hx⟩ := w
    exact vv_zret (pc := 463) d_M_takeCoded_463 rfl hx
  · replace w := w.2 hc
    refine vv_iconst (pc := 434) (v := 0) d_M_takeCoded_434 rfl ?_
    obtain ⟨rfl, rfl, hx⟩ := w
    exact vv_zret (pc := 435) d_M_takeCoded_435 rfl hx
theorem c_M_takeCoded {o : Option Value} {S' S : cp_S} {x1 : Int32} {x2 : Int32} {x3 : Int32} {x4 : Int32} {x5 : Int32} (w : JJ 2 m_M_takeCoded o S' 0 [(1, .int x1), (2, .int x2), (3, .int x3), (4, .int x4), (5, .int x5)] S) : MC 2 m_M_takeCoded [.int x1, .int x2, .int x3, .int x4, .int x5] S o S' := fun G h n z d hn hd => cp_C.of rfl (Nat.le_of_ble_eq_true rfl) (w G h n z d hn hd)
def wp_M_takeCoded_74 (o : Option Value) (S' : cp_S) (S : cp_S) (x1 : Int32) (x2 : Int32) (x3 : Int32) (x4 : Int32) (x5 : Int32) : Prop := ∃ r2, SC m_M_isVariable [.int x4] (some (.int r2)) ∧ (((r2 : Int32) = 0 → (o = some (.int 0) ∧ S' = S ∧ narrow .boolean (.int 0) = .int 0)) ∧ (¬ (r2 : Int32) = 0 → ((¬ (x2 : Int32) = 4 → vp_in x2 (cp_ml 71) ∧ ∃ T5, MC 0 m_M_push [.int 209, .int (x2 + 1), .int 0] ((va_up S.1 34 (x2 + 1)), (va_up S.2 71 (upd (S.2 71) (Int32.toNatClampNeg x2) (x4 - 97)))) none T5 ∧ (o = some (.int 1) ∧ S' = T5 ∧ narrow .boolean (.int 1) = .int 1)) ∧ ((x2 : Int32) = 4 → (o = some (.int 0) ∧ S' = S ∧ narrow .boolean (.int 0) = .int 0)))))
theorem b_M_takeCoded_74 {o : Option Value} {S' S : cp_S} {x1 : Int32} {x2 : Int32} {x3 : Int32} {x4 : Int32} {x5 : Int32} (w : wp_M_takeCoded_74 o S' S x1 x2 x3 x4 x5) : JJ 2 m_M_takeCoded o S' 74 [(1, .int x1), (2, .int x2), (3, .int x3), (4, .int x4), (5, .int x5)] S := by
  unfold wp_M_takeCoded_74 at w
  intro G h n z d hn hd
  refine vv_iload (pc := 74) d_M_takeCoded_74 rfl ?_
  obtain ⟨r2, c1, w⟩ := w
  refine vv_callS (pc := 76) (As := [.int x4]) d_M_takeCoded_76 (c1 G (mm G h S) n z (d - 1)) k_M_isVariable ml_M_204.1 ml_M_204.2 (by omega) (Nat.le_of_ble_eq_true rfl) ?_
  refine vv_if_eq (pc := 79) (tgt := 87) d_M_takeCoded_79 rfl (fun hc => ?_) (fun hc => ?_)
  · replace w := w.1 hc
    refine vv_iconst (pc := 87) (v := 0) d_M_takeCoded_87 rfl ?_
    obtain ⟨rfl, rfl, hx⟩ := w
    exact vv_zret (pc := 88) d_M_takeCoded_88 rfl hx
  · replace w := w.2 hc
    refine vv_iload_n (pc := 82) d_M_takeCoded_82 rfl ?_
    refine vv_iconst (pc := 83) (v := 4) d_M_takeCoded_83 rfl ?_
    refine vv_icmp_ne (pc := 84) (tgt := 89) d_M_takeCoded_84 rfl (fun hc => ?_) (fun hc => ?_)
    · replace w := w.1 hc
      refine vv_aload_n (pc := 89) d_M_takeCoded_89 rfl ?_
      refine ww_gr (pc := 90) 65 71 d_M_takeCoded_90 fl_M_142 (by omega) rfl (by decide) ?_
      refine vv_iload_n (pc := 93) d_M_takeCoded_93 rfl ?_
      refine vv_iload (pc := 94) d_M_takeCoded_94 rfl ?_
      refine vv_bipush (pc := 96) (v := 97) d_M_takeCoded_96 rfl ?_
      refine vv_isub (pc := 98) d_M_takeCoded_98 ?_
      obtain ⟨b3, w⟩ := w
      refine ww_st (pc := 99) 71 d_M_takeCoded_99 (by omega) (by decide) b3 ?_
      refine vv_aload_n (pc := 100) d_M_takeCoded_100 rfl ?_
      refine vv_iload_n (pc := 101) d_M_takeCoded_101 rfl ?_
      refine vv_iconst (pc := 102) (v := 1) d_M_takeCoded_102 rfl ?_
      refine vv_iadd (pc := 103) d_M_takeCoded_103 ?_
      refine ww_pi (pc := 104) 34 d_M_takeCoded_104 fl_M_243 (by omega) rfl rfl rfl rfl ?_
      refine vv_aload_n (pc := 107) d_M_takeCoded_107 rfl ?_
      refine vv_sipush (pc := 108) (v := 209) d_M_takeCoded_108 rfl ?_
      refine vv_iload_n (pc := 111) d_M_takeCoded_111 rfl ?_
      refine vv_iconst (pc := 112) (v := 1) d_M_takeCoded_112 rfl ?_
      refine vv_iadd (pc := 113) d_M_takeCoded_113 ?_
      refine vv_iconst (pc := 114) (v := 0) d_M_takeCoded_114 rfl ?_
      obtain ⟨T5, c4, w⟩ := w
      refine vv_callV (pc := 115) (As := [.int 209, .int (x2 + 1), .int 0]) d_M_takeCoded_115 (c4 G h n z (d - 1) hn (by omega)) k_M_push ml_M_218.1 ml_M_218.2.1 ml_M_218.2.2.1 ml_M_218.2.2.2.1 ml_M_218.2.2.2.2 (by omega) mm_26 (by omega) (Nat.le_of_ble_eq_true rfl) ?_
      refine vv_iconst (pc := 118) (v := 1) d_M_takeCoded_118 rfl ?_
      obtain ⟨rfl, rfl, hx⟩ := w
      exact vv_zret (pc := 119) d_M_takeCoded_119 rfl hx
    · replace w := w.2 hc
      refine vv_iconst (pc := 87) (v := 0) d_M_takeCoded_87 rfl ?_
      obtain ⟨rfl, rfl, hx⟩ := w
      exact vv_zret (pc := 88) d_M_takeCoded_88 rfl hx
def wp_M_read_0 (o : Option Value) (S' : cp_S) (S : cp_S) (x1 : Int32) (x2 : Int32) (x3 : Int32) : Prop := ∃ T2, MC 0 m_M_push [.int x1, .int x2, .int x3] ((va_up (va_up (va_up (va_up S.1 1 0) 29 0) 33 (S.1 23)) 20 (S.1 16)), S.2) none T2 ∧ JJ 5 m_M_read o S' 42 [(1, .int x1), (2, .int x2), (3, .int x3), (4, .int (S.1 1)), (5, .int 0)] T2
theorem b_M_read_0 {o : Option Value} {S' S : cp_S} {x1 : Int32} {x2 : Int32} {x3 : Int32} (w : wp_M_read_0 o S' S x1 x2 x3) : JJ 5 m_M_read o S' 0 [(1, .int x1), (2, .int x2), (3, .int x3)] S := by
  unfold wp_M_read_0 at w
  intro G h n z d hn hd
  refine vv_aload_n (pc := 0) d_M_read_0 rfl ?_
  refine ww_gi (pc := 1) 1 d_M_read_1 fl_M_188 (by omega) rfl ?_
  refine vv_istore (pc := 4) d_M_read_4 (Nat.le_of_ble_eq_true rfl) ?_
  refine vv_aload_n (pc := 6) d_M_read_6 rfl ?_
  refine vv_iconst (pc := 7) (v := 0) d_M_read_7 rfl ?_
  refine ww_pi (pc := 8) 1 d_M_read_8 fl_M_188 (by omega) rfl rfl rfl rfl ?_
  refine vv_aload_n (pc := 11) d_M_read_11 rfl ?_
  refine vv_iconst (pc := 12) (v := 0) d_M_read_12 rfl ?_
  refine ww_pi (pc := 13) 29 d_M_read_13 fl_M_191 (by omega) rfl rfl rfl rfl ?_
  refine vv_aload_n (pc := 16) d_M_read_16 rfl ?_
  refine vv_aload_n (pc := 17) d_M_read_17 rfl ?_
  refine ww_gi (pc := 18) 23 d_M_read_18 fl_M_253 (by omega) rfl ?_
  refine ww_pi (pc := 21) 33 d_M_read_21 fl_M_222 (by omega) rfl rfl rfl rfl ?_
  refine vv_aload_n (pc := 24) d_M_read_24 rfl ?_
  refine vv_aload_n (pc := 25) d_M_read_25 rfl ?_
  refine ww_gi (pc := 26) 16 d_M_read_26 fl_M_194 (by omega) rfl ?_
  refine ww_pi (pc := 29) 20 d_M_read_29 fl_M_197 (by omega) rfl rfl rfl rfl ?_
  refine vv_aload_n (pc := 32) d_M_read_32 rfl ?_
  refine vv_iload_n (pc := 33) d_M_read_33 rfl ?_
  refine vv_iload_n (pc := 34) d_M_read_34 rfl ?_
  refine vv_iload_n (pc := 35) d_M_read_35 rfl ?_
  obtain ⟨T2, c1, w⟩ := w
  refine vv_callV (pc := 36) (As := [.int x1, .int x2, .int x3]) d_M_read_36 (c1 G h n z (d - 1) hn (by omega)) k_M_push ml_M_218.1 ml_M_218.2.1 ml_M_218.2.2.1 ml_M_218.2.2.2.1 ml_M_218.2.2.2.2 (by omega) mm_26 (by omega) (Nat.le_of_ble_eq_true rfl) ?_
  refine vv_iconst (pc := 39) (v := 0) d_M_read_39 rfl ?_
  refine vv_istore (pc := 40) d_M_read_40 (Nat.le_of_ble_eq_true rfl) ?_
  exact vv_sub [2, 3, 4, 5, 1, 0] rfl (w G h n z d hn hd)
theorem c_M_read {o : Option Value} {S' S : cp_S} {x1 : Int32} {x2 : Int32} {x3 : Int32} (w : JJ 5 m_M_read o S' 0 [(1, .int x1), (2, .int x2), (3, .int x3)] S) : MC 5 m_M_read [.int x1, .int x2, .int x3] S o S' := fun G h n z d hn hd => cp_C.of rfl (Nat.le_of_ble_eq_true rfl) (w G h n z d hn hd)
def wp_M_read_42 (o : Option Value) (S' : cp_S) (S : cp_S) (x1 : Int32) (x2 : Int32) (x3 : Int32) (x4 : Int32) (x5 : Int32) : Prop := ((x4 ≤ (x5 : Int32) → JJ 5 m_M_read o S' 80 [(1, .int x1), (2, .int x2), (3, .int x3), (4, .int x4), (5, .int 1), (6, .int 0)] S) ∧ (¬ x4 ≤ (x5 : Int32) → vp_in x5 (cp_ml 27) ∧ ∃ r4 T3, MC 4 m_M_take [.int ((S.2 27) (Int32.toNatClampNeg x5)), .int x5] S (some (.int r4)) T3 ∧ ((¬ (r4 : Int32) = 0 → JJ 5 m_M_read o S' 42 [(1, .int x1), (2, .int x2), (3, .int x3), (4, .int x4), (5, .int (x5 + 1))] T3) ∧ ((r4 : Int32) = 0 → (o = some (.int x5) ∧ S' = T3)))))
theorem b_M_read_42 {o : Option Value} {S' S : cp_S} {x1 : Int32} {x2 : Int32} {x3 : Int32} {x4 : Int32} {x5 : Int32} (w : wp_M_read_42 o S' S x1 x2 x3 x4 x5) : JJ 5 m_M_read o S' 42 [(1, .int x1), (2, .int x2), (3, .int x3), (4, .int x4), (5, .int x5)] S := by
  unfold wp_M_read_42 at w
  intro G h n z d hn hd
  refine vv_iload (pc := 42) d_M_read_42 rfl ?_
  refine vv_iload (pc := 44) d_M_read_44 rfl ?_
  refine vv_icmp_ge (pc := 46) (tgt := 74) d_M_read_46 rfl (fun hc => ?_) (fun hc => ?_)
  · replace w := w.1 hc
    refine vv_iconst (pc := 74) (v := 1) d_M_read_74 rfl ?_
    refine vv_istore (pc := 75) d_M_read_75 (Nat.le_of_ble_eq_true rfl) ?_
    refine vv_iconst (pc := 77) (v := 0) d_M_read_77 rfl ?_
    refine vv_istore (pc := 78) d_M_read_78 (Nat.le_of_ble_eq_true rfl) ?_
    exact vv_sub [2, 3, 4, 5, 6, 1, 0] rfl (w G h n z d hn hd)
  · replace w := w.2 hc
    refine vv_aload_n (pc := 49) d_M_read_49 rfl ?_
    refine vv_aload_n (pc := 50) d_M_read_50 rfl ?_
    refine ww_gr (pc := 51) 2 27 d_M_read_51 fl_M_7 (by omega) rfl (by decide) ?_
    refine vv_iload (pc := 54) d_M_read_54 rfl ?_
    obtain ⟨b1, w⟩ := w
    refine ww_ld (pc := 56) 27 d_M_read_56 (by omega) (by decide) b1 ?_
    refine vv_iload (pc := 57) d_M_read_57 rfl ?_
    obtain ⟨r4, T3, c2, w⟩ := w
    refine vv_callV (pc := 59) (As := [.int ((S.2 27) (Int32.toNatClampNeg x5)), .int x5]) d_M_read_59 (c2 G h n z (d - 1) hn (by omega)) k_M_take ml_M_256.1 ml_M_256.2.1 ml_M_256.2.2.1 ml_M_256.2.2.2.1 ml_M_256.2.2.2.2 (by omega) mm_26 (by omega) (Nat.le_of_ble_eq_true rfl) ?_
    refine vv_if_ne (pc := 62) (tgt := 68) d_M_read_62 rfl (fun hc => ?_) (fun hc => ?_)
    · replace w := w.1 hc
      refine vv_iinc (pc := 68) (v := (x5 + 1)) d_M_read_68 rfl rfl (Nat.le_of_ble_eq_true rfl) ?_
      refine vv_goto (pc := 71) (tgt := 42) d_M_read_71 rfl ?_
      exact vv_sub [1, 2, 3, 4, 5, 0] rfl (w G h n z d hn hd)
    · replace w := w.2 hc
      refine vv_iload (pc := 65) d_M_read_65 rfl ?_
      obtain ⟨rfl, rfl⟩ := w
      exact vv_iret (pc := 67) d_M_read_67 rfl
def wp_M_read_80 (o : Option Value) (S' : cp_S) (S : cp_S) (x1 : Int32) (x2 : Int32) (x3 : Int32) (x4 : Int32) (x5 : Int32) (x6 : Int32) : Prop := (((S.1 29) ≤ (x6 : Int32) → (((x5 : Int32) = 0 → (o = some (.int x4) ∧ S' = S)) ∧ (¬ (x5 : Int32) = 0 → (o = some (.int (-1)) ∧ S' = S)))) ∧ (¬ (S.1 29) ≤ (x6 : Int32) → vp_in x6 (cp_ml 49) ∧ (((((S.2 49) (Int32.toNatClampNeg x6)) : Int32) = 201 → JJ 5 m_M_read o S' 151 [(1, .int x1), (2, .int x2), (3, .int x3), (4, .int x4), (5, .int x5), (6, .int x6)] S) ∧ (¬ (((S.2 49) (Int32.toNatClampNeg x6)) : Int32) = 201 → vp_in x6 (cp_ml 49) ∧ (((((S.2 49) (Int32.toNatClampNeg x6)) : Int32) = 211 → JJ 5 m_M_read o S' 151 [(1, .int x1), (2, .int x2), (3, .int x3), (4, .int x4), (5, .int x5), (6, .int x6)] S) ∧ (¬ (((S.2 49) (Int32.toNatClampNeg x6)) : Int32) = 211 → vp_in x6 (cp_ml 49) ∧ (((((S.2 49) (Int32.toNatClampNeg x6)) : Int32) = 215 → JJ 5 m_M_read o S' 151 [(1, .int x1), (2, .int x2), (3, .int x3), (4, .int x4), (5, .int x5), (6, .int x6)] S) ∧ (¬ (((S.2 49) (Int32.toNatClampNeg x6)) : Int32) = 215 → vp_in x6 (cp_ml 49) ∧ ((¬ (((S.2 49) (Int32.toNatClampNeg x6)) : Int32) = 218 → JJ 5 m_M_read o S' 155 [(1, .int x1), (2, .int x2), (3, .int x3), (4, .int x4), (5, .int x5), (6, .int x6)] S) ∧ ((((S.2 49) (Int32.toNatClampNeg x6)) : Int32) = 218 → vp_in x6 (cp_ml 50) ∧ (((((S.2 50) (Int32.toNatClampNeg x6)) : Int32) ≤ 0 → JJ 5 m_M_read o S' 155 [(1, .int x1), (2, .int x2), (3, .int x3), (4, .int x4), (5, .int x5), (6, .int x6)] S) ∧ (¬ (((S.2 50) (Int32.toNatClampNeg x6)) : Int32) ≤ 0 → JJ 5 m_M_read o S' 151 [(1, .int x1), (2, .int x2), (3, .int x3), (4, .int x4), (5, .int x5), (6, .int x6)] S))))))))))))
theorem b_M_read_80 {o : Option Value} {S' S : cp_S} {x1 : Int32} {x2 : Int32} {x3 : Int32} {x4 : Int32} {x5 : Int32} {x6 : Int32} (w : wp_M_read_80 o S' S x1 x2 x3 x4 x5 x6) : JJ 5 m_M_read o S' 80 [(1, .int x1), (2, .int x2), (3, .int x3), (4, .int x4), (5, .int x5), (6, .int x6)] S := by
  unfold wp_M_read_80 at w
  intro G h n z d hn hd
  refine vv_iload (pc := 80) d_M_read_80 rfl ?_
  refine vv_aload_n (pc := 82) d_M_read_82 rfl ?_
  refine ww_gi (pc := 83) 29 d_M_read_83 fl_M_191 (by omega) rfl ?_
  refine vv_icmp_ge (pc := 86) (tgt := 181) d_M_read_86 rfl (fun hc => ?_) (fun hc => ?_)
  · replace w := w.1 hc
    refine vv_iload (pc := 181) d_M_read_181 rfl ?_
    refine vv_if_eq (pc := 183) (tgt := 190) d_M_read_183 rfl (fun hc => ?_) (fun hc => ?_)
    · replace w := w.1 hc
      refine vv_iload (pc := 190) d_M_read_190 rfl ?_
      obtain ⟨rfl, rfl⟩ := w
      exact vv_iret (pc := 192) d_M_read_192 rfl
    · replace w := w.2 hc
      refine vv_iconst (pc := 186) (v := (-1)) d_M_read_186 rfl ?_
      refine vv_goto (pc := 187) (tgt := 192) d_M_read_187 rfl ?_
      obtain ⟨rfl, rfl⟩ := w
      exact vv_iret (pc := 192) d_M_read_192 rfl
  · replace w := w.2 hc
    refine vv_aload_n (pc := 89) d_M_read_89 rfl ?_
    refine ww_gr (pc := 90) 30 49 d_M_read_90 fl_M_76 (by omega) rfl (by decide) ?_
    refine vv_iload (pc := 93) d_M_read_93 rfl ?_
    obtain ⟨b1, w⟩ := w
    refine ww_ld (pc := 95) 49 d_M_read_95 (by omega) (by decide) b1 ?_
    refine vv_sipush (pc := 96) (v := 201) d_M_read_96 rfl ?_
    refine vv_icmp_eq (pc := 99) (tgt := 151) d_M_read_99 rfl (fun hc => ?_) (fun hc => ?_)
    · replace w := w.1 hc
      exact vv_sub [0, 1, 2, 3, 4, 5, 6] rfl (w G h n z d hn hd)
    · replace w := w.2 hc
      refine vv_aload_n (pc := 102) d_M_read_102 rfl ?_
      refine ww_gr (pc := 103) 30 49 d_M_read_103 fl_M_76 (by omega) rfl (by decide) ?_
      refine vv_iload (pc := 106) d_M_read_106 rfl ?_
      obtain ⟨b2, w⟩ := w
      refine ww_ld (pc := 108) 49 d_M_read_108 (by omega) (by decide) b2 ?_
      refine vv_sipush (pc := 109) (v := 211) d_M_read_109 rfl ?_
      refine vv_icmp_eq (pc := 112) (tgt := 151) d_M_read_112 rfl (fun hc => ?_) (fun hc => ?_)
      · replace w := w.1 hc
        exact vv_sub [0, 1, 2, 3, 4, 5, 6] rfl (w G h n z d hn hd)
      · replace w := w.2 hc
        refine vv_aload_n (pc := 115) d_M_read_115 rfl ?_
        refine ww_gr (pc := 116) 30 49 d_M_read_116 fl_M_76 (by omega) rfl (by decide) ?_
        refine vv_iload (pc := 119) d_M_read_119 rfl ?_
        obtain ⟨b3, w⟩ := w
        refine ww_ld (pc := 121) 49 d_M_read_121 (by omega) (by decide) b3 ?_
        refine vv_sipush (pc := 122) (v := 215) d_M_read_122 rfl ?_
        refine vv_icmp_eq (pc := 125) (tgt := 151) d_M_read_125 rfl (fun hc => ?_) (fun hc => ?_)
        · replace w := w.1 hc
          exact vv_sub [0, 1, 2, 3, 4, 5, 6] rfl (w G h n z d hn hd)
        · replace w := w.2 hc
          refine vv_aload_n (pc := 128) d_M_read_128 rfl ?_
          refine ww_gr (pc := 129) 30 49 d_M_read_129 fl_M_76 (by omega) rfl (by decide) ?_
          refine vv_iload (pc := 132) d_M_read_132 rfl ?_
          obtain ⟨b4, w⟩ := w
          refine ww_ld (pc := 134) 49 d_M_read_134 (by omega) (by decide) b4 ?_
          refine vv_sipush (pc := 135) (v := 218) d_M_read_135 rfl ?_
          refine vv_icmp_ne (pc := 138) (tgt := 155) d_M_read_138 rfl (fun hc => ?_) (fun hc => ?_)
          · replace w := w.1 hc
            exact vv_sub [0, 1, 2, 3, 4, 5, 6] rfl (w G h n z d hn hd)
          · replace w := w.2 hc
            refine vv_aload_n (pc := 141) d_M_read_141 rfl ?_
            refine ww_gr (pc := 142) 31 50 d_M_read_142 fl_M_79 (by omega) rfl (by decide) ?_
            refine vv_iload (pc := 145) d_M_read_145 rfl ?_
            obtain ⟨b5, w⟩ := w
            refine ww_ld (pc := 147) 50 d_M_read_147 (by omega) (by decide) b5 ?_
            refine vv_if_le (pc := 148) (tgt := 155) d_M_read_148 rfl (fun hc => ?_) (fun hc => ?_)
            · replace w := w.1 hc
              exact vv_sub [0, 1, 2, 3, 4, 5, 6] rfl (w G h n z d hn hd)
            · replace w := w.2 hc
              exact vv_sub [0, 1, 2, 3, 4, 5, 6] rfl (w G h n z d hn hd)
def wp_M_read_151 (o : Option Value) (S' : cp_S) (S : cp_S) (x1 : Int32) (x2 : Int32) (x3 : Int32) (x4 : Int32) (x5 : Int32) (x6 : Int32) : Prop := (((x5 : Int32) = 0 → JJ 5 m_M_read o S' 172 [(1, .int x1), (2, .int x2), (3, .int x3), (4, .int x4), (5, .int x5), (6, .int x6), (7, .int 1)] S) ∧ (¬ (x5 : Int32) = 0 → (((1 : Int32) = 0 → JJ 5 m_M_read o S' 172 [(1, .int x1), (2, .int x2), (3, .int x3), (4, .int x4), (5, .int x5), (6, .int x6), (7, .int 1)] S) ∧ (¬ (1 : Int32) = 0 → JJ 5 m_M_read o S' 80 [(1, .int x1), (2, .int x2), (3, .int x3), (4, .int x4), (5, .int 1), (6, .int (x6 + 1))] S))))
theorem b_M_read_151 {o : Option Value} {S' S : cp_S} {x1 : Int32} {x2 : Int32} {x3 : Int32} {x4 : Int32} {x5 : Int32} {x6 : Int32} (w : wp_M_read_151 o S' S x1 x2 x3 x4 x5 x6) : JJ 5 m_M_read o S' 151 [(1, .int x1), (2, .int x2), (3, .int x3), (4, .int x4), (5, .int x5), (6, .int x6)] S := by
  unfold wp_M_read_151 at w
  intro G h n z d hn hd
  refine vv_iconst (pc := 151) (v := 1) d_M_read_151 rfl ?_
  refine vv_goto (pc := 152) (tgt := 156) d_M_read_152 rfl ?_
  refine vv_istore (pc := 156) d_M_read_156 (Nat.le_of_ble_eq_true rfl) ?_
  refine vv_iload (pc := 158) d_M_read_158 rfl ?_
  refine vv_if_eq (pc := 160) (tgt := 172) d_M_read_160 rfl (fun hc => ?_) (fun hc => ?_)
  · replace w := w.1 hc
    exact vv_sub [1, 2, 3, 4, 5, 6, 7, 0] rfl (w G h n z d hn hd)
  · replace w := w.2 hc
    refine vv_iload (pc := 163) d_M_read_163 rfl ?_
    refine vv_if_eq (pc := 165) (tgt := 172) d_M_read_165 rfl (fun hc => ?_) (fun hc => ?_)
    · replace w := w.1 hc
      exact vv_sub [1, 2, 3, 4, 5, 6, 7, 0] rfl (w G h n z d hn hd)
    · replace w := w.2 hc
      refine vv_iconst (pc := 168) (v := 1) d_M_read_168 rfl ?_
      refine vv_goto (pc := 169) (tgt := 173) d_M_read_169 rfl ?_
      refine vv_istore (pc := 173) d_M_read_173 (Nat.le_of_ble_eq_true rfl) ?_
      refine vv_iinc (pc := 175) (v := (x6 + 1)) d_M_read_175 rfl rfl (Nat.le_of_ble_eq_true rfl) ?_
      refine vv_goto (pc := 178) (tgt := 80) d_M_read_178 rfl ?_
      exact vv_sub [3, 4, 5, 6, 7, 1, 0] rfl (w G h n z d hn hd)
def wp_M_read_155 (o : Option Value) (S' : cp_S) (S : cp_S) (x1 : Int32) (x2 : Int32) (x3 : Int32) (x4 : Int32) (x5 : Int32) (x6 : Int32) : Prop := (((x5 : Int32) = 0 → JJ 5 m_M_read o S' 172 [(1, .int x1), (2, .int x2), (3, .int x3), (4, .int x4), (5, .int x5), (6, .int x6), (7, .int 0)] S) ∧ (¬ (x5 : Int32) = 0 → (((0 : Int32) = 0 → JJ 5 m_M_read o S' 172 [(1, .int x1), (2, .int x2), (3, .int x3), (4, .int x4), (5, .int x5), (6, .int x6), (7, .int 0)] S) ∧ (¬ (0 : Int32) = 0 → JJ 5 m_M_read o S' 80 [(1, .int x1), (2, .int x2), (3, .int x3), (4, .int x4), (5, .int 1), (6, .int (x6 + 1))] S))))
theorem b_M_read_155 {o : Option Value} {S' S : cp_S} {x1 : Int32} {x2 : Int32} {x3 : Int32} {x4 : Int32} {x5 : Int32} {x6 : Int32} (w : wp_M_read_155 o S' S x1 x2 x3 x4 x5 x6) : JJ 5 m_M_read o S' 155 [(1, .int x1), (2, .int x2), (3, .int x3), (4, .int x4), (5, .int x5), (6, .int x6)] S := by
  unfold wp_M_read_155 at w
  intro G h n z d hn hd
  refine vv_iconst (pc := 155) (v := 0) d_M_read_155 rfl ?_
  refine vv_istore (pc := 156) d_M_read_156 (Nat.le_of_ble_eq_true rfl) ?_
  refine vv_iload (pc := 158) d_M_read_158 rfl ?_
  refine vv_if_eq (pc := 160) (tgt := 172) d_M_read_160 rfl (fun hc => ?_) (fun hc => ?_)
  · replace w := w.1 hc
    exact vv_sub [1, 2, 3, 4, 5, 6, 7, 0] rfl (w G h n z d hn hd)
  · replace w := w.2 hc
    refine vv_iload (pc := 163) d_M_read_163 rfl ?_
    refine vv_if_eq (pc := 165) (tgt := 172) d_M_read_165 rfl (fun hc => ?_) (fun hc => ?_)
    · replace w := w.1 hc
      exact vv_sub [1, 2, 3, 4, 5, 6, 7, 0] rfl (w G h n z d hn hd)
    · replace w := w.2 hc
      refine vv_iconst (pc := 168) (v := 1) d_M_read_168 rfl ?_
      refine vv_goto (pc := 169) (tgt := 173) d_M_read_169 rfl ?_
      refine vv_istore (pc := 173) d_M_read_173 (Nat.le_of_ble_eq_true rfl) ?_
      refine vv_iinc (pc := 175) (v := (x6 + 1)) d_M_read_175 rfl rfl (Nat.le_of_ble_eq_true rfl) ?_
      refine vv_goto (pc := 178) (tgt := 80) d_M_read_178 rfl ?_
      exact vv_sub [3, 4, 5, 6, 7, 1, 0] rfl (w G h n z d hn hd)
def wp_M_read_172 (o : Option Value) (S' : cp_S) (S : cp_S) (x1 : Int32) (x2 : Int32) (x3 : Int32) (x4 : Int32) (x5 : Int32) (x6 : Int32) (x7 : Int32) : Prop := JJ 5 m_M_read o S' 80 [(1, .int x1), (2, .int x2), (3, .int x3), (4, .int x4), (5, .int 0), (6, .int (x6 + 1))] S
theorem b_M_read_172 {o : Option Value} {S' S : cp_S} {x1 : Int32} {x2 : Int32} {x3 : Int32} {x4 : Int32} {x5 : Int32} {x6 : Int32} {x7 : Int32} (w : wp_M_read_172 o S' S x1 x2 x3 x4 x5 x6 x7) : JJ 5 m_M_read o S' 172 [(1, .int x1), (2, .int x2), (3, .int x3), (4, .int x4), (5, .int x5), (6, .int x6), (7, .int x7)] S := by
  unfold wp_M_read_172 at w
  intro G h n z d hn hd
  refine vv_iconst (pc := 172) (v := 0) d_M_read_172 rfl ?_
  refine vv_istore (pc := 173) d_M_read_173 (Nat.le_of_ble_eq_true rfl) ?_
  refine vv_iinc (pc := 175) (v := (x6 + 1)) d_M_read_175 rfl rfl (Nat.le_of_ble_eq_true rfl) ?_
  refine vv_goto (pc := 178) (tgt := 80) d_M_read_178 rfl ?_
  exact vv_sub [2, 3, 4, 5, 6, 1, 0] rfl (w G h n z d hn hd)
def wp_M_nothing_0 (o : Option Value) (S' : cp_S) (S : cp_S) : Prop := (o = none ∧ S' = ((va_up (va_up (va_up S.1 35 0) 40 0) 42 0), S.2))
theorem b_M_nothing_0 {o : Option Value} {S' S : cp_S} (w : wp_M_nothing_0 o S' S) : JJ 0 m_M_nothing o S' 0 [] S := by
  unfold wp_M_nothing_0 at w
  intro G h n z d hn hd
  refine vv_aload_n (pc := 0) d_M_nothing_0 rfl ?_
  refine vv_iconst (pc := 1) (v := 0) d_M_nothing_1 rfl ?_
  refine ww_pi (pc := 2) 35 d_M_nothing_2 fl_M_259 (by omega) rfl rfl rfl rfl ?_
  refine vv_aload_n (pc := 5) d_M_nothing_5 rfl ?_
  refine vv_iconst (pc := 6) (v := 0) d_M_nothing_6 rfl ?_
  refine ww_pi (pc := 7) 40 d_M_nothing_7 fl_M_262 (by omega) rfl rfl rfl rfl ?_
  refine vv_aload_n (pc := 10) d_M_nothing_10 rfl ?_
  refine vv_iconst (pc := 11) (v := 0) d_M_nothing_11 rfl ?_
  refine ww_pi (pc := 12) 42 d_M_nothing_12 fl_M_265 (by omega) rfl rfl rfl rfl ?_
  obtain ⟨rfl, rfl⟩ := w
  exact vv_vret (pc := 15) d_M_nothing_15 rfl
theorem c_M_nothing {o : Option Value} {S' S : cp_S} (w : JJ 0 m_M_nothing o S' 0 [] S) : MC 0 m_M_nothing [] S o S' := fun G h n z d hn hd => cp_C.of rfl (Nat.le_of_ble_eq_true rfl) (w G h n z d hn hd)
def wp_M_value_0 (o : Option Value) (S' : cp_S) (S : cp_S) (x1 : Int32) (x2 : Int32) : Prop := vp_in (S.1 35) (cp_ml 52) ∧ vp_in (S.1 35) (cp_ml 53) ∧ vp_in (S.1 35) (cp_ml 54) ∧ vp_in (S.1 35) (cp_ml 55) ∧ (o = some (.int (((S.1 35) + 1) - 1)) ∧ S' = ((va_up S.1 35 ((S.1 35) + 1)), (va_up (va_up (va_up (va_up S.2 52 (upd (S.2 52) (Int32.toNatClampNeg (S.1 35)) x1)) 53 (upd (S.2 53) (Int32.toNatClampNeg (S.1 35)) x2)) 54 (upd (S.2 54) (Int32.toNatClampNeg (S.1 35)) (S.1 40))) 55 (upd (S.2 55) (Int32.toNatClampNeg (S.1 35)) 0))))
theorem b_M_value_0 {o : Option Value} {S' S : cp_S} {x1 : Int32} {x2 : Int32} (w : wp_M_value_0 o S' S x1 x2) : JJ 0 m_M_value o S' 0 [(1, .int x1), (2, .int x2)] S := by
  unfold wp_M_value_0 at w
  intro G h n z d hn hd
  refine vv_aload_n (pc := 0) d_M_value_0 rfl ?_
  refine ww_gr (pc := 1) 36 52 d_M_value_1 fl_M_85 (by omega) rfl (by decide) ?_
  refine vv_aload_n (pc := 4) d_M_value_4 rfl ?_
  refine ww_gi (pc := 5) 35 d_M_value_5 fl_M_259 (by omega) rfl ?_
  refine vv_iload_n (pc := 8) d_M_value_8 rfl ?_
  obtain ⟨b1, w⟩ := w
  refine ww_st (pc := 9) 52 d_M_value_9 (by omega) (by decide) b1 ?_
  refine vv_aload_n (pc := 10) d_M_value_10 rfl ?_
  refine ww_gr (pc := 11) 37 53 d_M_value_11 fl_M_88 (by omega) rfl (by decide) ?_
  refine vv_aload_n (pc := 14) d_M_value_14 rfl ?_
  refine ww_gi (pc := 15) 35 d_M_value_15 fl_M_259 (by omega) rfl ?_
  refine vv_iload_n (pc := 18) d_M_value_18 rfl ?_
  obtain ⟨b2, w⟩ := w
  refine ww_st (pc := 19) 53 d_M_value_19 (by omega) (by decide) b2 ?_
  refine vv_aload_n (pc := 20) d_M_value_20 rfl ?_
  refine ww_gr (pc := 21) 38 54 d_M_value_21 fl_M_91 (by omega) rfl (by decide) ?_
  refine vv_aload_n (pc := 24) d_M_value_24 rfl ?_
  refine ww_gi (pc := 25) 35 d_M_value_25 fl_M_259 (by omega) rfl ?_
  refine vv_aload_n (pc := 28) d_M_value_28 rfl ?_
  refine ww_gi (pc := 29) 40 d_M_value_29 fl_M_262 (by omega) rfl ?_
  obtain ⟨b3, w⟩ := w
  refine ww_st (pc := 32) 54 d_M_value_32 (by omega) (by decide) b3 ?_
  refine vv_aload_n (pc := 33) d_M_value_33 rfl ?_
  refine ww_gr (pc := 34) 39 55 d_M_value_34 fl_M_94 (by omega) rfl (by decide) ?_
  refine vv_aload_n (pc := 37) d_M_value_37 rfl ?_
  refine ww_gi (pc := 38) 35 d_M_value_38 fl_M_259 (by omega) rfl ?_
  refine vv_iconst (pc := 41) (v := 0) d_M_value_41 rfl ?_
  obtain ⟨b4, w⟩ := w
  refine ww_st (pc := 42) 55 d_M_value_42 (by omega) (by decide) b4 ?_
  refine vv_aload_n (pc := 43) d_M_value_43 rfl ?_
  refine vv_dup (pc := 44) d_M_value_44 rfl ?_
  refine ww_gi (pc := 45) 35 d_M_value_45 fl_M_259 (by omega) rfl ?_
  refine vv_iconst (pc := 48) (v := 1) d_M_value_48 rfl ?_
  refine vv_iadd (pc := 49) d_M_value_49 ?_
  refine ww_pi (pc := 50) 35 d_M_value_50 fl_M_259 (by omega) rfl rfl rfl rfl ?_
  refine vv_aload_n (pc := 53) d_M_value_53 rfl ?_
  refine ww_gi (pc := 54) 35 d_M_value_54 fl_M_259 (by omega) rfl ?_
  refine vv_topi (y := ((S.1 35) + 1)) rfl ?_
  refine vv_iconst (pc := 57) (v := 1) d_M_value_57 rfl ?_
  refine vv_isub (pc := 58) d_M_value_58 ?_
  obtain ⟨rfl, rfl⟩ := w
  exact vv_iret (pc := 59) d_M_value_59 rfl
theorem c_M_value {o : Option Value} {S' S : cp_S} {x1 : Int32} {x2 : Int32} (w : JJ 0 m_M_value o S' 0 [(1, .int x1), (2, .int x2)] S) : MC 0 m_M_value [.int x1, .int x2] S o S' := fun G h n z d hn hd => cp_C.of rfl (Nat.le_of_ble_eq_true rfl) (w G h n z d hn hd)
def wp_M_seen_0 (o : Option Value) (S' : cp_S) (S : cp_S) (x1 : Int32) : Prop := JJ 0 m_M_seen o S' 2 [(1, .int x1), (2, .int x1)] S
theorem b_M_seen_0 {o : Option Value} {S' S : cp_S} {x1 : Int32} (w : wp_M_seen_0 o S' S x1) : JJ 0 m_M_seen o S' 0 [(1, .int x1)] S := by
  unfold wp_M_seen_0 at w
  intro G h n z d hn hd
  refine vv_iload_n (pc := 0) d_M_seen_0 rfl ?_
  refine vv_istore_n (pc := 1) d_M_seen_1 (Nat.le_of_ble_eq_true rfl) ?_
  exact vv_sub [1, 2, 0] rfl (w G h n z d hn hd)
theorem c_M_seen {o : Option Value} {S' S : cp_S} {x1 : Int32} (w : JJ 0 m_M_seen o S' 0 [(1, .int x1)] S) : MC 0 m_M_seen [.int x1] S o S' := fun G h n z d hn hd => cp_C.of rfl (Nat.le_of_ble_eq_true rfl) (w G h n z d hn hd)
def wp_M_seen_2 (o : Option Value) (S' : cp_S) (S : cp_S) (x1 : Int32) (x2 : Int32) : Prop := vp_in x2 (cp_ml 52) ∧ ((¬ (((S.2 52) (Int32.toNatClampNeg x2)) : Int32) = 2 → (o = some (.int x2) ∧ S' = S)) ∧ ((((S.2 52) (Int32.toNatClampNeg x2)) : Int32) = 2 → vp_in x2 (cp_ml 53) ∧ (((((S.2 53) (Int32.toNatClampNeg x2)) : Int32) < 0 → (o = some (.int x2) ∧ S' = S)) ∧ (¬ (((S.2 53) (Int32.toNatClampNeg x2)) : Int32) < 0 → vp_in x2 (cp_ml 53) ∧ JJ 0 m_M_seen o S' 2 [(1, .int x1), (2, .int ((S.2 53) (Int32.toNatClampNeg x2)))] S))))
theorem b_M_seen_2 {o : Option Value} {S' S : cp_S} {x1 : Int32} {x2 : Int32} (w : wp_M_seen_2 o S' S x1 x2) : JJ 0 m_M_seen o S' 2 [(1, .int x1), (2, .int x2)] S := by
  unfold wp_M_seen_2 at w
  intro G h n z d hn hd
  refine vv_aload_n (pc := 2) d_M_seen_2 rfl ?_
  refine ww_gr (pc := 3) 36 52 d_M_seen_3 fl_M_85 (by omega) rfl (by decide) ?_
  refine vv_iload_n (pc := 6) d_M_seen_6 rfl ?_
  obtain ⟨b1, w⟩ := w
  refine ww_ld (pc := 7) 52 d_M_seen_7 (by omega) (by decide) b1 ?_
  refine vv_iconst (pc := 8) (v := 2) d_M_seen_8 rfl ?_
  refine vv_icmp_ne (pc := 9) (tgt := 31) d_M_seen_9 rfl (fun hc => ?_) (fun hc => ?_)
  · replace w := w.1 hc
    refine vv_iload_n (pc := 31) d_M_seen_31 rfl ?_
    obtain ⟨rfl, rfl⟩ := w
    exact vv_iret (pc := 32) d_M_seen_32 rfl
  · replace w := w.2 hc
    refine vv_aload_n (pc := 12) d_M_seen_12 rfl ?_
    refine ww_gr (pc := 13) 37 53 d_M_seen_13 fl_M_88 (by omega) rfl (by decide) ?_
    refine vv_iload_n (pc := 16) d_M_seen_16 rfl ?_
    obtain ⟨b2, w⟩ := w
    refine ww_ld (pc := 17) 53 d_M_seen_17 (by omega) (by decide) b2 ?_
    refine vv_if_lt (pc := 18) (tgt := 31) d_M_seen_18 rfl (fun hc => ?_) (fun hc => ?_)
    · replace w := w.1 hc
      refine vv_iload_n (pc := 31) d_M_seen_31 rfl ?_
      obtain ⟨rfl, rfl⟩ := w
      exact vv_iret (pc := 32) d_M_seen_32 rfl
    · replace w := w.2 hc
      refine vv_aload_n (pc := 21) d_M_seen_21 rfl ?_
      refine ww_gr (pc := 22) 37 53 d_M_seen_22 fl_M_88 (by omega) rfl (by decide) ?_
      refine vv_iload_n (pc := 25) d_M_seen_25 rfl ?_
      obtain ⟨b3, w⟩ := w
      refine ww_ld (pc := 26) 53 d_M_seen_26 (by omega) (by decide) b3 ?_
      refine vv_istore_n (pc := 27) d_M_seen_27 (Nat.le_of_ble_eq_true rfl) ?_
      refine vv_goto (pc := 28) (tgt := 2) d_M_seen_28 rfl ?_
      exact vv_sub [1, 2, 0] rfl (w G h n z d hn hd)
def wp_M_valueOf_0 (o : Option Value) (S' : cp_S) (S : cp_S) (x1 : Int32) (x2 : Int32) : Prop := ∃ r3 T2, MC 1 m_M_behind [.int x1] S (some (.int r3)) T2 ∧ JJ 2 m_M_valueOf o S' 11 [(1, .int x1), (2, .int x2), (3, .int 0), (4, .int (r3 - 1))] T2
theorem b_M_valueOf_0 {o : Option Value} {S' S : cp_S} {x1 : Int32} {x2 : Int32} (w : wp_M_valueOf_0 o S' S x1 x2) : JJ 2 m_M_valueOf o S' 0 [(1, .int x1), (2, .int x2)] S := by
  unfold wp_M_valueOf_0 at w
  intro G h n z d hn hd
  refine vv_iconst (pc := 0) (v := 0) d_M_valueOf_0 rfl ?_
  refine vv_istore_n (pc := 1) d_M_valueOf_1 (Nat.le_of_ble_eq_true rfl) ?_
  refine vv_aload_n (pc := 2) d_M_valueOf_2 rfl ?_
  refine vv_iload_n (pc := 3) d_M_valueOf_3 rfl ?_
  obtain ⟨r3, T2, c1, w⟩ := w
  refine vv_callV (pc := 4) (As := [.int x1]) d_M_valueOf_4 (c1 G h n z (d - 1) hn (by omega)) k_M_behind ml_M_268.1 ml_M_268.2.1 ml_M_268.2.2.1 ml_M_268.2.2.2.1 ml_M_268.2.2.2.2 (by omega) mm_26 (by omega) (Nat.le_of_ble_eq_true rfl) ?_
  refine vv_iconst (pc := 7) (v := 1) d_M_valueOf_7 rfl ?_
  refine vv_isub (pc := 8) d_M_valueOf_8 ?_
  refine vv_istore (pc := 9) d_M_valueOf_9 (Nat.le_of_ble_eq_true rfl) ?_
  exact vv_sub [2, 3, 4, 1, 0] rfl (w G h n z d hn hd)
theorem c_M_valueOf {o : Option Value} {S' S : cp_S} {x1 : Int32} {x2 : Int32} (w : JJ 2 m_M_valueOf o S' 0 [(1, .int x1), (2, .int x2)] S) : MC 2 m_M_valueOf [.int x1, .int x2] S o S' := fun G h n z d hn hd => cp_C.of rfl (Nat.le_of_ble_eq_true rfl) (w G h n z d hn hd)
def wp_M_valueOf_11 (o : Option Value) (S' : cp_S) (S : cp_S) (x1 : Int32) (x2 : Int32) (x3 : Int32) (x4 : Int32) : Prop := (((x4 : Int32) < x1 → vp_in 0 (cp_ml 57) ∧ (o = some (.int ((S.2 57) (Int32.toNatClampNeg 0))) ∧ S' = S)) ∧ (¬ (x4 : Int32) < x1 → vp_in x4 (cp_ml 39) ∧ ((¬ (((S.2 39) (Int32.toNatClampNeg x4)) : Int32) = 1 → vp_in x4 (cp_ml 39) ∧ ((¬ (((S.2 39) (Int32.toNatClampNeg x4)) : Int32) = 4 → vp_in x4 (cp_ml 39) ∧ ((¬ (((S.2 39) (Int32.toNatClampNeg x4)) : Int32) = 2 → vp_in x4 (cp_ml 39) ∧ ((¬ (((S.2 39) (Int32.toNatClampNeg x4)) : Int32) = 3 → vp_in x4 (cp_ml 40) ∧ ∃ r9 T8, MC 0 m_M_value [.int 3, .int ((S.2 40) (Int32.toNatClampNeg x4))] S (some (.int r9)) T8 ∧ vp_in x4 (cp_ml 41) ∧ vp_in r9 (cp_ml 55) ∧ JJ 2 m_M_valueOf o S' 162 [(1, .int x1), (2, .int x2), (3, .int x3), (4, .int x4), (5, .int r9), (6, .int 0)] (T8.1, (va_up T8.2 55 (upd (T8.2 55) (Int32.toNatClampNeg r9) ((T8.2 41) (Int32.toNatClampNeg x4)))))) ∧ ((((S.2 39) (Int32.toNatClampNeg x4)) : Int32) = 3 → ∃ r14 T13, MC 0 m_M_value [.int 1, .int 0] S (some (.int r14)) T13 ∧ JJ 2 m_M_valueOf o S' 208 [(1, .int x1), (2, .int x2), (3, .int x3), (4, .int x4), (5, .int r14)] T13))) ∧ ((((S.2 39) (Int32.toNatClampNeg x4)) : Int32) = 2 → vp_in x4 (cp_ml 40) ∧ ∃ r18 T17, MC 0 m_M_value [.int 0, .int ((S.2 40) (Int32.toNatClampNeg x4))] S (some (.int r18)) T17 ∧ JJ 2 m_M_valueOf o S' 208 [(1, .int x1), (2, .int x2), (3, .int x3), (4, .int x4), (5, .int r18)] T17))) ∧ ((((S.2 39) (Int32.toNatClampNeg x4)) : Int32) = 4 → vp_in (x4 - (S.1 20)) (cp_ml 43) ∧ JJ 2 m_M_valueOf o S' 208 [(1, .int x1), (2, .int x2), (3, .int x3), (4, .int x4), (5, .int ((S.2 43) (Int32.toNatClampNeg (x4 - (S.1 20)))))] S))) ∧ ((((S.2 39) (Int32.toNatClampNeg x4)) : Int32) = 1 → vp_in x4 (cp_ml 40) ∧ vp_in ((26 * x2) + ((S.2 40) (Int32.toNatClampNeg x4))) (cp_ml 63) ∧ JJ 2 m_M_valueOf o S' 208 [(1, .int x1), (2, .int x2), (3, .int x3), (4, .int x4), (5, .int ((S.2 63) (Int32.toNatClampNeg ((26 * x2) + ((S.2 40) (Int32.toNatClampNeg x4))))))] S))))
theorem b_M_valueOf_11 {o : Option Value} {S' S : cp_S} {x1 : Int32} {x2 : Int32} {x3 : Int32} {x4 : Int32} (w : wp_M_valueOf_11 o S' S x1 x2 x3 x4) : JJ 2 m_M_valueOf o S' 11 [(1, .int x1), (2, .int x2), (3, .int x3), (4, .int x4)] S := by
  unfold wp_M_valueOf_11 at w
  intro G h n z d hn hd
  refine vv_iload (pc := 11) d_M_valueOf_11 rfl ?_
  refine vv_iload_n (pc := 13) d_M_valueOf_13 rfl ?_
  refine vv_icmp_lt (pc := 14) (tgt := 225) d_M_valueOf_14 rfl (fun hc => ?_) (fun hc => ?_)
  · replace w := w.1 hc
    refine vv_aload_n (pc := 225) d_M_valueOf_225 rfl ?_
    refine ww_gr (pc := 226) 43 57 d_M_valueOf_226 fl_M_100 (by omega) rfl (by decide) ?_
    refine vv_iconst (pc := 229) (v := 0) d_M_valueOf_229 rfl ?_
    obtain ⟨b1, w⟩ := w
    refine ww_ld (pc := 230) 57 d_M_valueOf_230 (by omega) (by decide) b1 ?_
    obtain ⟨rfl, rfl⟩ := w
    exact vv_iret (pc := 231) d_M_valueOf_231 rfl
  · replace w := w.2 hc
    refine vv_iconst (pc := 17) (v := (-1)) d_M_valueOf_17 rfl ?_
    refine vv_istore (pc := 18) d_M_valueOf_18 (Nat.le_of_ble_eq_true rfl) ?_
    refine vv_aload_n (pc := 20) d_M_valueOf_20 rfl ?_
    refine ww_gr (pc := 21) 17 39 d_M_valueOf_21 fl_M_46 (by omega) rfl (by decide) ?_
    refine vv_iload (pc := 24) d_M_valueOf_24 rfl ?_
    obtain ⟨b2, w⟩ := w
    refine ww_ld (pc := 26) 39 d_M_valueOf_26 (by omega) (by decide) b2 ?_
    refine vv_iconst (pc := 27) (v := 1) d_M_valueOf_27 rfl ?_
    refine vv_icmp_ne (pc := 28) (tgt := 53) d_M_valueOf_28 rfl (fun hc => ?_) (fun hc => ?_)
    · replace w := w.1 hc
      refine vv_aload_n (pc := 53) d_M_valueOf_53 rfl ?_
      refine ww_gr (pc := 54) 17 39 d_M_valueOf_54 fl_M_46 (by omega) rfl (by decide) ?_
      refine vv_iload (pc := 57) d_M_valueOf_57 rfl ?_
      obtain ⟨b3, w⟩ := w
      refine ww_ld (pc := 59) 39 d_M_valueOf_59 (by omega) (by decide) b3 ?_
      refine vv_iconst (pc := 60) (v := 4) d_M_valueOf_60 rfl ?_
      refine vv_icmp_ne (pc := 61) (tgt := 81) d_M_valueOf_61 rfl (fun hc => ?_) (fun hc => ?_)
      · replace w := w.1 hc
        refine vv_aload_n (pc := 81) d_M_valueOf_81 rfl ?_
        refine ww_gr (pc := 82) 17 39 d_M_valueOf_82 fl_M_46 (by omega) rfl (by decide) ?_
        refine vv_iload (pc := 85) d_M_valueOf_85 rfl ?_
        obtain ⟨b4, w⟩ := w
        refine ww_ld (pc := 87) 39 d_M_valueOf_87 (by omega) (by decide) b4 ?_
        refine vv_iconst (pc := 88) (v := 2) d_M_valueOf_88 rfl ?_
        refine vv_icmp_ne (pc := 89) (tgt := 109) d_M_valueOf_89 rfl (fun hc => ?_) (fun hc => ?_)
        · replace w := w.1 hc
          refine vv_aload_n (pc := 109) d_M_valueOf_109 rfl ?_
          refine ww_gr (pc := 110) 17 39 d_M_valueOf_110 fl_M_46 (by omega) rfl (by decide) ?_
          refine vv_iload (pc := 113) d_M_valueOf_113 rfl ?_
          obtain ⟨b5, w⟩ := w
          refine ww_ld (pc := 115) 39 d_M_valueOf_115 (by omega) (by decide) b5 ?_
          refine vv_iconst (pc := 116) (v := 3) d_M_valueOf_116 rfl ?_
          refine vv_icmp_ne (pc := 117) (tgt := 131) d_M_valueOf_117 rfl (fun hc => ?_) (fun hc => ?_)
          · replace w := w.1 hc
            refine vv_aload_n (pc := 131) d_M_valueOf_131 rfl ?_
            refine vv_iconst (pc := 132) (v := 3) d_M_valueOf_132 rfl ?_
            refine vv_aload_n (pc := 133) d_M_valueOf_133 rfl ?_
            refine ww_gr (pc := 134) 18 40 d_M_valueOf_134 fl_M_49 (by omega) rfl (by decide) ?_
            refine vv_iload (pc := 137) d_M_valueOf_137 rfl ?_
            obtain ⟨b6, w⟩ := w
            refine ww_ld (pc := 139) 40 d_M_valueOf_139 (by omega) (by decide) b6 ?_
            obtain ⟨r9, T8, c7, w⟩ := w
            refine vv_callV (pc := 140) (As := [.int 3, .int ((S.2 40) (Int32.toNatClampNeg x4))]) d_M_valueOf_140 (c7 G h n z (d - 1) hn (by omega)) k_M_value ml_M_271.1 ml_M_271.2.1 ml_M_271.2.2.1 ml_M_271.2.2.2.1 ml_M_271.2.2.2.2 (by omega) mm_26 (by omega) (Nat.le_of_ble_eq_true rfl) ?_
            refine vv_istore (pc := 143) d_M_valueOf_143 (Nat.le_of_ble_eq_true rfl) ?_
            refine vv_aload_n (pc := 145) d_M_valueOf_145 rfl ?_
            refine ww_gr (pc := 146) 39 55 d_M_valueOf_146 fl_M_94 (by omega) rfl (by decide) ?_
            refine vv_iload (pc := 149) d_M_valueOf_149 rfl ?_
            refine vv_aload_n (pc := 151) d_M_valueOf_151 rfl ?_
            refine ww_gr (pc := 152) 19 41 d_M_valueOf_152 fl_M_52 (by omega) rfl (by decide) ?_
            refine vv_iload (pc := 155) d_M_valueOf_155 rfl ?_
            obtain ⟨b10, w⟩ := w
            refine ww_ld (pc := 157) 41 d_M_valueOf_157 (by omega) (by decide) b10 ?_
            obtain ⟨b11, w⟩ := w
            refine ww_st (pc := 158) 55 d_M_valueOf_158 (by omega) (by decide) b11 ?_
            refine vv_iconst (pc := 159) (v := 0) d_M_valueOf_159 rfl ?_
            refine vv_istore (pc := 160) d_M_valueOf_160 (Nat.le_of_ble_eq_true rfl) ?_
            exact vv_sub [2, 3, 4, 5, 6, 1, 0] rfl (w G h n z d hn hd)
          · replace w := w.2 hc
            refine vv_aload_n (pc := 120) d_M_valueOf_120 rfl ?_
            refine vv_iconst (pc := 121) (v := 1) d_M_valueOf_121 rfl ?_
            refine vv_iconst (pc := 122) (v := 0) d_M_valueOf_122 rfl ?_
            obtain ⟨r14, T13, c12, w⟩ := w
            refine vv_callV (pc := 123) (As := [.int 1, .int 0]) d_M_valueOf_123 (c12 G h n z (d - 1) hn (by omega)) k_M_value ml_M_271.1 ml_M_271.2.1 ml_M_271.2.2.1 ml_M_271.2.2.2.1 ml_M_271.2.2.2.2 (by omega) mm_26 (by omega) (Nat.le_of_ble_eq_true rfl) ?_
            refine vv_istore (pc := 126) d_M_valueOf_126 (Nat.le_of_ble_eq_true rfl) ?_
            refine vv_goto (pc := 128) (tgt := 208) d_M_valueOf_128 rfl ?_
            exact vv_sub [1, 2, 3, 4, 5, 0] rfl (w G h n z d hn hd)
        · replace w := w.2 hc
          refine vv_aload_n (pc := 92) d_M_valueOf_92 rfl ?_
          refine vv_iconst (pc := 93) (v := 0) d_M_valueOf_93 rfl ?_
          refine vv_aload_n (pc := 94) d_M_valueOf_94 rfl ?_
          refine ww_gr (pc := 95) 18 40 d_M_valueOf_95 fl_M_49 (by omega) rfl (by decide) ?_
          refine vv_iload (pc := 98) d_M_valueOf_98 rfl ?_
          obtain ⟨b15, w⟩ := w
          refine ww_ld (pc := 100) 40 d_M_valueOf_100 (by omega) (by decide) b15 ?_
          obtain ⟨r18, T17, c16, w⟩ := w
          refine vv_callV (pc := 101) (As := [.int 0, .int ((S.2 40) (Int32.toNatClampNeg x4))]) d_M_valueOf_101 (c16 G h n z (d - 1) hn (by omega)) k_M_value ml_M_271.1 ml_M_271.2.1 ml_M_271.2.2.1 ml_M_271.2.2.2.1 ml_M_271.2.2.2.2 (by omega) mm_26 (by omega) (Nat.le_of_ble_eq_true rfl) ?_
          refine vv_istore (pc := 104) d_M_valueOf_104 (Nat.le_of_ble_eq_true rfl) ?_
          refine vv_goto (pc := 106) (tgt := 208) d_M_valueOf_106 rfl ?_
          exact vv_sub [1, 2, 3, 4, 5, 0] rfl (w G h n z d hn hd)
      · replace w := w.2 hc
        refine vv_aload_n (pc := 64) d_M_valueOf_64 rfl ?_
        refine ww_gr (pc := 65) 22 43 d_M_valueOf_65 fl_M_58 (by omega) rfl (by decide) ?_
        refine vv_iload (pc := 68) d_M_valueOf_68 rfl ?_
        refine vv_aload_n (pc := 70) d_M_valueOf_70 rfl ?_
        refine ww_gi (pc := 71) 20 d_M_valueOf_71 fl_M_197 (by omega) rfl ?_
        refine vv_isub (pc := 74) d_M_valueOf_74 ?_
        obtain ⟨b19, w⟩ := w
        refine ww_ld (pc := 75) 43 d_M_valueOf_75 (by omega) (by decide) b19 ?_
        refine vv_istore (pc := 76) d_M_valueOf_76 (Nat.le_of_ble_eq_true rfl) ?_
        refine vv_goto (pc := 78) (tgt := 208) d_M_valueOf_78 rfl ?_
        exact vv_sub [1, 2, 3, 4, 5, 0] rfl (w G h n z d hn hd)
    · replace w := w.2 hc
      refine vv_aload_n (pc := 31) d_M_valueOf_31 rfl ?_
      refine ww_gr (pc := 32) 50 63 d_M_valueOf_32 fl_M_118 (by omega) rfl (by decide) ?_
      refine vv_bipush (pc := 35) (v := 26) d_M_valueOf_35 rfl ?_
      refine vv_iload_n (pc := 37) d_M_valueOf_37 rfl ?_
      refine vv_imul (pc := 38) d_M_valueOf_38 ?_
      refine vv_aload_n (pc := 39) d_M_valueOf_39 rfl ?_
      refine ww_gr (pc := 40) 18 40 d_M_valueOf_40 fl_M_49 (by omega) rfl (by decide) ?_
      refine vv_iload (pc := 43) d_M_valueOf_43 rfl ?_
      obtain ⟨b20, w⟩ := w
      refine ww_ld (pc := 45) 40 d_M_valueOf_45 (by omega) (by decide) b20 ?_
      refine vv_iadd (pc := 46) d_M_valueOf_46 ?_
      obtain ⟨b21, w⟩ := w
      refine ww_ld (pc := 47) 63 d_M_valueOf_47 (by omega) (by decide) b21 ?_
      refine vv_istore (pc := 48) d_M_valueOf_48 (Nat.le_of_ble_eq_true rfl) ?_
      refine vv_goto (pc := 50) (tgt := 208) d_M_valueOf_50 rfl ?_
      exact vv_sub [1, 2, 3, 4, 5, 0] rfl (w G h n z d hn hd)
def wp_M_valueOf_162 (o : Option Value) (S' : cp_S) (S : cp_S) (x1 : Int32) (x2 : Int32) (x3 : Int32) (x4 : Int32) (x5 : Int32) (x6 : Int32) : Prop := vp_in x4 (cp_ml 41) ∧ ((((S.2 41) (Int32.toNatClampNeg x4)) ≤ (x6 : Int32) → JJ 2 m_M_valueOf o S' 208 [(1, .int x1), (2, .int x2), (3, .int x3), (4, .int x4), (5, .int x5)] S) ∧ (¬ ((S.2 41) (Int32.toNatClampNeg x4)) ≤ (x6 : Int32) → vp_in (x3 + (-1)) (cp_ml 57) ∧ vp_in (S.1 40) (cp_ml 56) ∧ JJ 2 m_M_valueOf o S' 162 [(1, .int x1), (2, .int x2), (3, .int (x3 + (-1))), (4, .int x4), (5, .int x5), (6, .int (x6 + 1))] ((va_up S.1 40 ((S.1 40) + 1)), (va_up S.2 56 (upd (S.2 56) (Int32.toNatClampNeg (S.1 40)) ((S.2 57) (Int32.toNatClampNeg (x3 + (-1)))))))))
theorem b_M_valueOf_162 {o : Option Value} {S' S : cp_S} {x1 : Int32} {x2 : Int32} {x3 : Int32} {x4 : Int32} {x5 : Int32} {x6 : Int32} (w : wp_M_valueOf_162 o S' S x1 x2 x3 x4 x5 x6) : JJ 2 m_M_valueOf o S' 162 [(1, .int x1), (2, .int x2), (3, .int x3), (4, .int x4), (5, .int x5), (6, .int x6)] S := by
  unfold wp_M_valueOf_162 at w
  intro G h n z d hn hd
  refine vv_iload (pc := 162) d_M_valueOf_162 rfl ?_
  refine vv_aload_n (pc := 164) d_M_valueOf_164 rfl ?_
  refine ww_gr (pc := 165) 19 41 d_M_valueOf_165 fl_M_52 (by omega) rfl (by decide) ?_
  refine vv_iload (pc := 168) d_M_valueOf_168 rfl ?_
  obtain ⟨b1, w⟩ := w
  refine ww_ld (pc := 170) 41 d_M_valueOf_170 (by omega) (by decide) b1 ?_
  refine vv_icmp_ge (pc := 171) (tgt := 208) d_M_valueOf_171 rfl (fun hc => ?_) (fun hc => ?_)
  · replace w := w.1 hc
    exact vv_sub [0, 1, 2, 3, 4, 5] rfl (w G h n z d hn hd)
  · replace w := w.2 hc
    refine vv_iinc (pc := 174) (v := (x3 + (-1))) d_M_valueOf_174 rfl rfl (Nat.le_of_ble_eq_true rfl) ?_
    refine vv_aload_n (pc := 177) d_M_valueOf_177 rfl ?_
    refine ww_gr (pc := 178) 41 56 d_M_valueOf_178 fl_M_97 (by omega) rfl (by decide) ?_
    refine vv_aload_n (pc := 181) d_M_valueOf_181 rfl ?_
    refine ww_gi (pc := 182) 40 d_M_valueOf_182 fl_M_262 (by omega) rfl ?_
    refine vv_aload_n (pc := 185) d_M_valueOf_185 rfl ?_
    refine ww_gr (pc := 186) 43 57 d_M_valueOf_186 fl_M_100 (by omega) rfl (by decide) ?_
    refine vv_iload_n (pc := 189) d_M_valueOf_189 rfl ?_
    obtain ⟨b2, w⟩ := w
    refine ww_ld (pc := 190) 57 d_M_valueOf_190 (by omega) (by decide) b2 ?_
    obtain ⟨b3, w⟩ := w
    refine ww_st (pc := 191) 56 d_M_valueOf_191 (by omega) (by decide) b3 ?_
    refine vv_aload_n (pc := 192) d_M_valueOf_192 rfl ?_
    refine vv_dup (pc := 193) d_M_valueOf_193 rfl ?_
    refine ww_gi (pc := 194) 40 d_M_valueOf_194 fl_M_262 (by omega) rfl ?_
    refine vv_iconst (pc := 197) (v := 1) d_M_valueOf_197 rfl ?_
    refine vv_iadd (pc := 198) d_M_valueOf_198 ?_
    refine ww_pi (pc := 199) 40 d_M_valueOf_199 fl_M_262 (by omega) rfl rfl rfl rfl ?_
    refine vv_iinc (pc := 202) (v := (x6 + 1)) d_M_valueOf_202 rfl rfl (Nat.le_of_ble_eq_true rfl) ?_
    refine vv_goto (pc := 205) (tgt := 162) d_M_valueOf_205 rfl ?_
    exact vv_sub [2, 3, 4, 1, 5, 6, 0] rfl (w G h n z d hn hd)
def wp_M_valueOf_208 (o : Option Value) (S' : cp_S) (S : cp_S) (x1 : Int32) (x2 : Int32) (x3 : Int32) (x4 : Int32) (x5 : Int32) : Prop := vp_in x3 (cp_ml 57) ∧ JJ 2 m_M_valueOf o S' 11 [(1, .int x1), (2, .int x2), (3, .int (x3 + 1)), (4, .int (x4 + (-1)))] (S.1, (va_up S.2 57 (upd (S.2 57) (Int32.toNatClampNeg x3) x5)))
theorem b_M_valueOf_208 {o : Option Value} {S' S : cp_S} {x1 : Int32} {x2 : Int32} {x3 : Int32} {x4 : Int32} {x5 : Int32} (w : wp_M_valueOf_208 o S' S x1 x2 x3 x4 x5) : JJ 2 m_M_valueOf o S' 208 [(1, .int x1), (2, .int x2), (3, .int x3), (4, .int x4), (5, .int x5)] S := by
  unfold wp_M_valueOf_208 at w
  intro G h n z d hn hd
  refine vv_aload_n (pc := 208) d_M_valueOf_208 rfl ?_
  refine ww_gr (pc := 209) 43 57 d_M_valueOf_209 fl_M_100 (by omega) rfl (by decide) ?_
  refine vv_iload_n (pc := 212) d_M_valueOf_212 rfl ?_
  refine vv_iload (pc := 213) d_M_valueOf_213 rfl ?_
  obtain ⟨b1, w⟩ := w
  refine ww_st (pc := 215) 57 d_M_valueOf_215 (by omega) (by decide) b1 ?_
  refine vv_iinc (pc := 216) (v := (x3 + 1)) d_M_valueOf_216 rfl rfl (Nat.le_of_ble_eq_true rfl) ?_
  refine vv_iinc (pc := 219) (v := (x4 + (-1))) d_M_valueOf_219 rfl rfl (Nat.le_of_ble_eq_true rfl) ?_
  refine vv_goto (pc := 222) (tgt := 11) d_M_valueOf_222 rfl ?_
  exact vv_sub [2, 3, 4, 1, 0] rfl (w G h n z d hn hd)
def wp_M_further_0 (o : Option Value) (S' : cp_S) (S : cp_S) (x1 : Int32) : Prop := JJ 1 m_M_further o S' 2 [(1, .int x1), (2, .int x1)] S
theorem b_M_further_0 {o : Option Value} {S' S : cp_S} {x1 : Int32} (w : wp_M_further_0 o S' S x1) : JJ 1 m_M_further o S' 0 [(1, .int x1)] S := by
  unfold wp_M_further_0 at w
  intro G h n z d hn hd
  refine vv_iload_n (pc := 0) d_M_further_0 rfl ?_
  refine vv_istore_n (pc := 1) d_M_further_1 (Nat.le_of_ble_eq_true rfl) ?_
  exact vv_sub [1, 2, 0] rfl (w G h n z d hn hd)
theorem c_M_further {o : Option Value} {S' S : cp_S} {x1 : Int32} (w : JJ 1 m_M_further o S' 0 [(1, .int x1)] S) : MC 1 m_M_further [.int x1] S o S' := fun G h n z d hn hd => cp_C.of rfl (Nat.le_of_ble_eq_true rfl) (w G h n z d hn hd)
def wp_M_further_2 (o : Option Value) (S' : cp_S) (S : cp_S) (x1 : Int32) (x2 : Int32) : Prop := (((x2 : Int32) ≤ 0 → JJ 1 m_M_further o S' 36 [(1, .int x1), (2, .int x2)] S) ∧ (¬ (x2 : Int32) ≤ 0 → vp_in (x2 - 1) (cp_ml 62) ∧ vp_in (x2 - 1) (cp_ml 61) ∧ vp_in ((S.2 61) (Int32.toNatClampNeg (x2 - 1))) (cp_ml 55) ∧ ((¬ (((S.2 62) (Int32.toNatClampNeg (x2 - 1))) : Int32) = ((S.2 55) (Int32.toNatClampNeg ((S.2 61) (Int32.toNatClampNeg (x2 - 1))))) → JJ 1 m_M_further o S' 36 [(1, .int x1), (2, .int x2)] S) ∧ ((((S.2 62) (Int32.toNatClampNeg (x2 - 1))) : Int32) = ((S.2 55) (Int32.toNatClampNeg ((S.2 61) (Int32.toNatClampNeg (x2 - 1))))) → JJ 1 m_M_further o S' 2 [(1, .int x1), (2, .int (x2 + (-1)))] S))))
theorem b_M_further_2 {o : Option Value} {S' S : cp_S} {x1 : Int32} {x2 : Int32} (w : wp_M_further_2 o S' S x1 x2) : JJ 1 m_M_further o S' 2 [(1, .int x1), (2, .int x2)] S := by
  unfold wp_M_further_2 at w
  intro G h n z d hn hd
  refine vv_iload_n (pc := 2) d_M_further_2 rfl ?_
  refine vv_if_le (pc := 3) (tgt := 36) d_M_further_3 rfl (fun hc => ?_) (fun hc => ?_)
  · replace w := w.1 hc
    exact vv_sub [0, 1, 2] rfl (w G h n z d hn hd)
  · replace w := w.2 hc
    refine vv_aload_n (pc := 6) d_M_further_6 rfl ?_
    refine ww_gr (pc := 7) 49 62 d_M_further_7 fl_M_115 (by omega) rfl (by decide) ?_
    refine vv_iload_n (pc := 10) d_M_further_10 rfl ?_
    refine vv_iconst (pc := 11) (v := 1) d_M_further_11 rfl ?_
    refine vv_isub (pc := 12) d_M_further_12 ?_
    obtain ⟨b1, w⟩ := w
    refine ww_ld (pc := 13) 62 d_M_further_13 (by omega) (by decide) b1 ?_
    refine vv_aload_n (pc := 14) d_M_further_14 rfl ?_
    refine ww_gr (pc := 15) 39 55 d_M_further_15 fl_M_94 (by omega) rfl (by decide) ?_
    refine vv_aload_n (pc := 18) d_M_further_18 rfl ?_
    refine ww_gr (pc := 19) 48 61 d_M_further_19 fl_M_112 (by omega) rfl (by decide) ?_
    refine vv_iload_n (pc := 22) d_M_further_22 rfl ?_
    refine vv_iconst (pc := 23) (v := 1) d_M_further_23 rfl ?_
    refine vv_isub (pc := 24) d_M_further_24 ?_
    obtain ⟨b2, w⟩ := w
    refine ww_ld (pc := 25) 61 d_M_further_25 (by omega) (by decide) b2 ?_
    obtain ⟨b3, w⟩ := w
    refine ww_ld (pc := 26) 55 d_M_further_26 (by omega) (by decide) b3 ?_
    refine vv_icmp_ne (pc := 27) (tgt := 36) d_M_further_27 rfl (fun hc => ?_) (fun hc => ?_)
    · replace w := w.1 hc
      exact vv_sub [0, 1, 2] rfl (w G h n z d hn hd)
    · replace w := w.2 hc
      refine vv_iinc (pc := 30) (v := (x2 + (-1))) d_M_further_30 rfl rfl (Nat.le_of_ble_eq_true rfl) ?_
      refine vv_goto (pc := 33) (tgt := 2) d_M_further_33 rfl ?_
      exact vv_sub [1, 2, 0] rfl (w G h n z d hn hd)
def wp_M_further_36 (o : Option Value) (S' : cp_S) (S : cp_S) (x1 : Int32) (x2 : Int32) : Prop := ((¬ (x2 : Int32) = 0 → vp_in (x2 - 1) (cp_ml 61) ∧ vp_in ((S.2 61) (Int32.toNatClampNeg (x2 - 1))) (cp_ml 54) ∧ vp_in (x2 - 1) (cp_ml 62) ∧ vp_in (((S.2 54) (Int32.toNatClampNeg ((S.2 61) (Int32.toNatClampNeg (x2 - 1))))) + ((S.2 62) (Int32.toNatClampNeg (x2 - 1)))) (cp_ml 56) ∧ ∃ r7 T6, MC 0 m_M_seen [.int ((S.2 56) (Int32.toNatClampNeg (((S.2 54) (Int32.toNatClampNeg ((S.2 61) (Int32.toNatClampNeg (x2 - 1))))) + ((S.2 62) (Int32.toNatClampNeg (x2 - 1))))))] S (some (.int r7)) T6 ∧ vp_in x2 (cp_ml 61) ∧ vp_in x2 (cp_ml 62) ∧ vp_in (x2 - 1) (cp_ml 62) ∧ vp_in (x2 - 1) (cp_ml 62) ∧ (o = some (.int (x2 + 1)) ∧ S' = (T6.1, (va_up (va_up (va_up T6.2 61 (upd (T6.2 61) (Int32.toNatClampNeg x2) r7)) 62 (upd (T6.2 62) (Int32.toNatClampNeg x2) 0)) 62 (upd (upd (T6.2 62) (Int32.toNatClampNeg x2) 0) (Int32.toNatClampNeg (x2 - 1)) (((upd (T6.2 62) (Int32.toNatClampNeg x2) 0) (Int32.toNatClampNeg (x2 - 1))) + 1)))))) ∧ ((x2 : Int32) = 0 → (o = some (.int 0) ∧ S' = S)))
theorem b_M_further_36 {o : Option Value} {S' S : cp_S} {x1 : Int32} {x2 : Int32} (w : wp_M_further_36 o S' S x1 x2) : JJ 1 m_M_further o S' 36 [(1, .int x1), (2, .int x2)] S := by
  unfold wp_M_further_36 at w
  intro G h n z d hn hd
  refine vv_iload_n (pc := 36) d_M_further_36 rfl ?_
  refine vv_if_ne (pc := 37) (tgt := 42) d_M_further_37 rfl (fun hc => ?_) (fun hc => ?_)
  · replace w := w.1 hc
    refine vv_aload_n (pc := 42) d_M_further_42 rfl ?_
    refine ww_gr (pc := 43) 48 61 d_M_further_43 fl_M_112 (by omega) rfl (by decide) ?_
    refine vv_iload_n (pc := 46) d_M_further_46 rfl ?_
    refine vv_iconst (pc := 47) (v := 1) d_M_further_47 rfl ?_
    refine vv_isub (pc := 48) d_M_further_48 ?_
    obtain ⟨b1, w⟩ := w
    refine ww_ld (pc := 49) 61 d_M_further_49 (by omega) (by decide) b1 ?_
    refine vv_istore_n (pc := 50) d_M_further_50 (Nat.le_of_ble_eq_true rfl) ?_
    refine vv_aload_n (pc := 51) d_M_further_51 rfl ?_
    refine ww_gr (pc := 52) 48 61 d_M_further_52 fl_M_112 (by omega) rfl (by decide) ?_
    refine vv_iload_n (pc := 55) d_M_further_55 rfl ?_
    refine vv_aload_n (pc := 56) d_M_further_56 rfl ?_
    refine vv_aload_n (pc := 57) d_M_further_57 rfl ?_
    refine ww_gr (pc := 58) 41 56 d_M_further_58 fl_M_97 (by omega) rfl (by decide) ?_
    refine vv_aload_n (pc := 61) d_M_further_61 rfl ?_
    refine ww_gr (pc := 62) 38 54 d_M_further_62 fl_M_91 (by omega) rfl (by decide) ?_
    refine vv_iload_n (pc := 65) d_M_further_65 rfl ?_
    obtain ⟨b2, w⟩ := w
    refine ww_ld (pc := 66) 54 d_M_further_66 (by omega) (by decide) b2 ?_
    refine vv_aload_n (pc := 67) d_M_further_67 rfl ?_
    refine ww_gr (pc := 68) 49 62 d_M_further_68 fl_M_115 (by omega) rfl (by decide) ?_
    refine vv_iload_n (pc := 71) d_M_further_71 rfl ?_
    refine vv_iconst (pc := 72) (v := 1) d_M_further_72 rfl ?_
    refine vv_isub (pc := 73) d_M_further_73 ?_
    obtain ⟨b3, w⟩ := w
    refine ww_ld (pc := 74) 62 d_M_further_74 (by omega) (by decide) b3 ?_
    refine vv_iadd (pc := 75) d_M_further_75 ?_
    obtain ⟨b4, w⟩ := w
    refine ww_ld (pc := 76) 56 d_M_further_76 (by omega) (by decide) b4 ?_
    obtain ⟨r7, T6, c5, w⟩ := w
    refine vv_callV (pc := 77) (As := [.int ((S.2 56) (Int32.toNatClampNeg (((S.2 54) (Int32.toNatClampNeg ((S.2 61) (Int32.toNatClampNeg (x2 - 1))))) + ((S.2 62) (Int32.toNatClampNeg (x2 - 1))))))]) d_M_further_77 (c5 G h n z (d - 1) hn (by omega)) k_M_seen ml_M_275.1 ml_M_275.2.1 ml_M_275.2.2.1 ml_M_275.2.2.2.1 ml_M_275.2.2.2.2 (by omega) mm_26 (by omega) (Nat.le_of_ble_eq_true rfl) ?_
    obtain ⟨b8, w⟩ := w
    refine ww_st (pc := 80) 61 d_M_further_80 (by omega) (by decide) b8 ?_
    refine vv_aload_n (pc := 81) d_M_further_81 rfl ?_
    refine ww_gr (pc := 82) 49 62 d_M_further_82 fl_M_115 (by omega) rfl (by decide) ?_
    refine vv_iload_n (pc := 85) d_M_further_85 rfl ?_
    refine vv_iconst (pc := 86) (v := 0) d_M_further_86 rfl ?_
    obtain ⟨b9, w⟩ := w
    refine ww_st (pc := 87) 62 d_M_further_87 (by omega) (by decide) b9 ?_
    refine vv_aload_n (pc := 88) d_M_further_88 rfl ?_
    refine ww_gr (pc := 89) 49 62 d_M_further_89 fl_M_115 (by omega) rfl (by decide) ?_
    refine vv_iload_n (pc := 92) d_M_further_92 rfl ?_
    refine vv_iconst (pc := 93) (v := 1) d_M_further_93 rfl ?_
    refine vv_isub (pc := 94) d_M_further_94 ?_
    refine vv_dup2 (pc := 95) d_M_further_95 rfl rfl ?_
    obtain ⟨b10, w⟩ := w
    refine ww_ld (pc := 96) 62 d_M_further_96 (by omega) (by decide) b10 ?_
    refine vv_iconst (pc := 97) (v := 1) d_M_further_97 rfl ?_
    refine vv_iadd (pc := 98) d_M_further_98 ?_
    obtain ⟨b11, w⟩ := w
    refine ww_st (pc := 99) 62 d_M_further_99 (by omega) (by decide) b11 ?_
    refine vv_iload_n (pc := 100) d_M_further_100 rfl ?_
    refine vv_iconst (pc := 101) (v := 1) d_M_further_101 rfl ?_
    refine vv_iadd (pc := 102) d_M_further_102 ?_
    obtain ⟨rfl, rfl⟩ := w
    exact vv_iret (pc := 103) d_M_further_103 rfl
  · replace w := w.2 hc
    refine vv_iconst (pc := 40) (v := 0) d_M_further_40 rfl ?_
    obtain ⟨rfl, rfl⟩ := w
    exact vv_iret (pc := 41) d_M_further_41 rfl
def wp_M_setOut_0 (o : Option Value) (S' : cp_S) (S : cp_S) (x1 : Int32) : Prop := ∃ r3 T2, MC 0 m_M_seen [.int x1] S (some (.int r3)) T2 ∧ vp_in 0 (cp_ml 61) ∧ vp_in 0 (cp_ml 62) ∧ (o = some (.int 1) ∧ S' = (T2.1, (va_up (va_up T2.2 61 (upd (T2.2 61) (Int32.toNatClampNeg 0) r3)) 62 (upd (T2.2 62) (Int32.toNatClampNeg 0) 0))))
theorem b_M_setOut_0 {o : Option Value} {S' S : cp_S} {x1 : Int32} (w : wp_M_setOut_0 o S' S x1) : JJ 1 m_M_setOut o S' 0 [(1, .int x1)] S := by
  unfold wp_M_setOut_0 at w
  intro G h n z d hn hd
  refine vv_aload_n (pc := 0) d_M_setOut_0 rfl ?_
  refine ww_gr (pc := 1) 48 61 d_M_setOut_1 fl_M_112 (by omega) rfl (by decide) ?_
  refine vv_iconst (pc := 4) (v := 0) d_M_setOut_4 rfl ?_
  refine vv_aload_n (pc := 5) d_M_setOut_5 rfl ?_
  refine vv_iload_n (pc := 6) d_M_setOut_6 rfl ?_
  obtain ⟨r3, T2, c1, w⟩ := w
  refine vv_callV (pc := 7) (As := [.int x1]) d_M_setOut_7 (c1 G h n z (d - 1) hn (by omega)) k_M_seen ml_M_275.1 ml_M_275.2.1 ml_M_275.2.2.1 ml_M_275.2.2.2.1 ml_M_275.2.2.2.2 (by omega) mm_26 (by omega) (Nat.le_of_ble_eq_true rfl) ?_
  obtain ⟨b4, w⟩ := w
  refine ww_st (pc := 10) 61 d_M_setOut_10 (by omega) (by decide) b4 ?_
  refine vv_aload_n (pc := 11) d_M_setOut_11 rfl ?_
  refine ww_gr (pc := 12) 49 62 d_M_setOut_12 fl_M_115 (by omega) rfl (by decide) ?_
  refine vv_iconst (pc := 15) (v := 0) d_M_setOut_15 rfl ?_
  refine vv_iconst (pc := 16) (v := 0) d_M_setOut_16 rfl ?_
  obtain ⟨b5, w⟩ := w
  refine ww_st (pc := 17) 62 d_M_setOut_17 (by omega) (by decide) b5 ?_
  refine vv_iconst (pc := 18) (v := 1) d_M_setOut_18 rfl ?_
  obtain ⟨rfl, rfl⟩ := w
  exact vv_iret (pc := 19) d_M_setOut_19 rfl
theorem c_M_setOut {o : Option Value} {S' S : cp_S} {x1 : Int32} (w : JJ 1 m_M_setOut o S' 0 [(1, .int x1)] S) : MC 1 m_M_setOut [.int x1] S o S' := fun G h n z d hn hd => cp_C.of rfl (Nat.le_of_ble_eq_true rfl) (w G h n z d hn hd)
def wp_M_lies_0 (o : Option Value) (S' : cp_S) (S : cp_S) (x1 : Int32) (x2 : Int32) : Prop := ∃ r3 T2, MC 1 m_M_setOut [.int x2] S (some (.int r3)) T2 ∧ JJ 2 m_M_lies o S' 9 [(1, .int x1), (2, .int x2), (3, .int r3), (4, .int 0)] T2
theorem b_M_lies_0 {o : Option Value} {S' S : cp_S} {x1 : Int32} {x2 : Int32} (w : wp_M_lies_0 o S' S x1 x2) : JJ 2 m_M_lies o S' 0 [(1, .int x1), (2, .int x2)] S := by
  unfold wp_M_lies_0 at w
  intro G h n z d hn hd
  refine vv_aload_n (pc := 0) d_M_lies_0 rfl ?_
  refine vv_iload_n (pc := 1) d_M_lies_1 rfl ?_
  obtain ⟨r3, T2, c1, w⟩ := w
  refine vv_callV (pc := 2) (As := [.int x2]) d_M_lies_2 (c1 G h n z (d - 1) hn (by omega)) k_M_setOut ml_M_278.1 ml_M_278.2.1 ml_M_278.2.2.1 ml_M_278.2.2.2.1 ml_M_278.2.2.2.2 (by omega) mm_26 (by omega) (Nat.le_of_ble_eq_true rfl) ?_
  refine vv_istore_n (pc := 5) d_M_lies_5 (Nat.le_of_ble_eq_true rfl) ?_
  refine vv_iconst (pc := 6) (v := 0) d_M_lies_6 rfl ?_
  refine vv_istore (pc := 7) d_M_lies_7 (Nat.le_of_ble_eq_true rfl) ?_
  exact vv_sub [2, 3, 4, 1, 0] rfl (w G h n z d hn hd)
theorem c_M_lies {o : Option Value} {S' S : cp_S} {x1 : Int32} {x2 : Int32} (w : JJ 2 m_M_lies o S' 0 [(1, .int x1), (2, .int x2)] S) : MC 2 m_M_lies [.int x1, .int x2] S o S' := fun G h n z d hn hd => cp_C.of rfl (Nat.le_of_ble_eq_true rfl) (w G h n z d hn hd)
def wp_M_lies_9 (o : Option Value) (S' : cp_S) (S : cp_S) (x1 : Int32) (x2 : Int32) (x3 : Int32) (x4 : Int32) : Prop := (((x3 : Int32) ≤ 0 → (o = some (.int x4) ∧ S' = S ∧ narrow .boolean (.int x4) = .int x4)) ∧ (¬ (x3 : Int32) ≤ 0 → ((¬ (x4 : Int32) = 0 → (o = some (.int x4) ∧ S' = S ∧ narrow .boolean (.int x4) = .int x4)) ∧ ((x4 : Int32) = 0 → vp_in (x3 - 1) (cp_ml 61) ∧ ((¬ (((S.2 61) (Int32.toNatClampNeg (x3 - 1))) : Int32) = x1 → ∃ r4 T3, MC 1 m_M_further [.int x3] S (some (.int r4)) T3 ∧ JJ 2 m_M_lies o S' 9 [(1, .int x1), (2, .int x2), (3, .int r4), (4, .int 0)] T3) ∧ ((((S.2 61) (Int32.toNatClampNeg (x3 - 1))) : Int32) = x1 → ∃ r7 T6, MC 1 m_M_further [.int x3] S (some (.int r7)) T6 ∧ JJ 2 m_M_lies o S' 9 [(1, .int x1), (2, .int x2), (3, .int r7), (4, .int 1)] T6))))))
theorem b_M_lies_9 {o : Option Value} {S' S : cp_S} {x1 : Int32} {x2 : Int32} {x3 : Int32} {x4 : Int32} (w : wp_M_lies_9 o S' S x1 x2 x3 x4) : JJ 2 m_M_lies o S' 9 [(1, .int x1), (2, .int x2), (3, .int x3), (4, .int x4)] S := by
  unfold wp_M_lies_9 at w
  intro G h n z d hn hd
  refine vv_iload_n (pc := 9) d_M_lies_9 rfl ?_
  refine vv_if_le (pc := 10) (tgt := 46) d_M_lies_10 rfl (fun hc => ?_) (fun hc => ?_)
  · replace w := w.1 hc
    refine vv_iload (pc := 46) d_M_lies_46 rfl ?_
    obtain ⟨rfl, rfl, hx⟩ := w
    exact vv_zret (pc := 48) d_M_lies_48 rfl hx
  · replace w := w.2 hc
    refine vv_iload (pc := 13) d_M_lies_13 rfl ?_
    refine vv_if_ne (pc := 15) (tgt := 46) d_M_lies_15 rfl (fun hc => ?_) (fun hc => ?_)
    · replace w := w.1 hc
      refine vv_iload (pc := 46) d_M_lies_46 rfl ?_
      obtain ⟨rfl, rfl, hx⟩ := w
      exact vv_zret (pc := 48) d_M_lies_48 rfl hx
    · replace w := w.2 hc
      refine vv_aload_n (pc := 18) d_M_lies_18 rfl ?_
      refine ww_gr (pc := 19) 48 61 d_M_lies_19 fl_M_112 (by omega) rfl (by decide) ?_
      refine vv_iload_n (pc := 22) d_M_lies_22 rfl ?_
      refine vv_iconst (pc := 23) (v := 1) d_M_lies_23 rfl ?_
      refine vv_isub (pc := 24) d_M_lies_24 ?_
      obtain ⟨b1, w⟩ := w
      refine ww_ld (pc := 25) 61 d_M_lies_25 (by omega) (by decide) b1 ?_
      refine vv_iload_n (pc := 26) d_M_lies_26 rfl ?_
      refine vv_icmp_ne (pc := 27) (tgt := 34) d_M_lies_27 rfl (fun hc => ?_) (fun hc => ?_)
      · replace w := w.1 hc
        refine vv_iconst (pc := 34) (v := 0) d_M_lies_34 rfl ?_
        refine vv_istore (pc := 35) d_M_lies_35 (Nat.le_of_ble_eq_true rfl) ?_
        refine vv_aload_n (pc := 37) d_M_lies_37 rfl ?_
        refine vv_iload_n (pc := 38) d_M_lies_38 rfl ?_
        obtain ⟨r4, T3, c2, w⟩ := w
        refine vv_callV (pc := 39) (As := [.int x3]) d_M_lies_39 (c2 G h n z (d - 1) hn (by omega)) k_M_further ml_M_281.1 ml_M_281.2.1 ml_M_281.2.2.1 ml_M_281.2.2.2.1 ml_M_281.2.2.2.2 (by omega) mm_26 (by omega) (Nat.le_of_ble_eq_true rfl) ?_
        refine vv_istore_n (pc := 42) d_M_lies_42 (Nat.le_of_ble_eq_true rfl) ?_
        refine vv_goto (pc := 43) (tgt := 9) d_M_lies_43 rfl ?_
        exact vv_sub [2, 3, 4, 0, 1] rfl (w G h n z d hn hd)
      · replace w := w.2 hc
        refine vv_iconst (pc := 30) (v := 1) d_M_lies_30 rfl ?_
        refine vv_goto (pc := 31) (tgt := 35) d_M_lies_31 rfl ?_
        refine vv_istore (pc := 35) d_M_lies_35 (Nat.le_of_ble_eq_true rfl) ?_
        refine vv_aload_n (pc := 37) d_M_lies_37 rfl ?_
        refine vv_iload_n (pc := 38) d_M_lies_38 rfl ?_
        obtain ⟨r7, T6, c5, w⟩ := w
        refine vv_callV (pc := 39) (As := [.int x3]) d_M_lies_39 (c5 G h n z (d - 1) hn (by omega)) k_M_further ml_M_281.1 ml_M_281.2.1 ml_M_281.2.2.1 ml_M_281.2.2.2.1 ml_M_281.2.2.2.2 (by omega) mm_26 (by omega) (Nat.le_of_ble_eq_true rfl) ?_
        refine vv_istore_n (pc := 42) d_M_lies_42 (Nat.le_of_ble_eq_true rfl) ?_
        refine vv_goto (pc := 43) (tgt := 9) d_M_lies_43 rfl ?_
        exact vv_sub [2, 3, 4, 0, 1] rfl (w G h n z d hn hd)
def wp_M_isLarge_0 (o : Option Value) (S' : cp_S) (S : cp_S) (x1 : Int32) : Prop := ∃ r3 T2, MC 1 m_M_setOut [.int x1] S (some (.int r3)) T2 ∧ JJ 2 m_M_isLarge o S' 8 [(1, .int x1), (2, .int r3), (3, .int 0)] T2
theorem b_M_isLarge_0 {o : Option Value} {S' S : cp_S} {x1 : Int32} (w : wp_M_isLarge_0 o S' S x1) : JJ 2 m_M_isLarge o S' 0 [(1, .int x1)] S := by
  unfold wp_M_isLarge_0 at w
  intro G h n z d hn hd
  refine vv_aload_n (pc := 0) d_M_isLarge_0 rfl ?_
  refine vv_iload_n (pc := 1) d_M_isLarge_1 rfl ?_
  obtain ⟨r3, T2, c1, w⟩ := w
  refine vv_callV (pc := 2) (As := [.int x1]) d_M_isLarge_2 (c1 G h n z (d - 1) hn (by omega)) k_M_setOut ml_M_278.1 ml_M_278.2.1 ml_M_278.2.2.1 ml_M_278.2.2.2.1 ml_M_278.2.2.2.2 (by omega) mm_26 (by omega) (Nat.le_of_ble_eq_true rfl) ?_
  refine vv_istore_n (pc := 5) d_M_isLarge_5 (Nat.le_of_ble_eq_true rfl) ?_
  refine vv_iconst (pc := 6) (v := 0) d_M_isLarge_6 rfl ?_
  refine vv_istore_n (pc := 7) d_M_isLarge_7 (Nat.le_of_ble_eq_true rfl) ?_
  exact vv_sub [2, 3, 1, 0] rfl (w G h n z d hn hd)
theorem c_M_isLarge {o : Option Value} {S' S : cp_S} {x1 : Int32} (w : JJ 2 m_M_isLarge o S' 0 [(1, .int x1)] S) : MC 2 m_M_isLarge [.int x1] S o S' := fun G h n z d hn hd => cp_C.of rfl (Nat.le_of_ble_eq_true rfl) (w G h n z d hn hd)
def wp_M_isLarge_8 (o : Option Value) (S' : cp_S) (S : cp_S) (x1 : Int32) (x2 : Int32) (x3 : Int32) : Prop := (((x2 : Int32) ≤ 0 → (((x3 : Int32) ≤ 200 → (o = some (.int 0) ∧ S' = S ∧ narrow .boolean (.int 0) = .int 0)) ∧ (¬ (x3 : Int32) ≤ 200 → (o = some (.int 1) ∧ S' = S ∧ narrow .boolean (.int 1) = .int 1)))) ∧ (¬ (x2 : Int32) ≤ 0 → ((200 < (x3 : Int32) → (((x3 : Int32) ≤ 200 → (o = some (.int 0) ∧ S' = S ∧ narrow .boolean (.int 0) = .int 0)) ∧ (¬ (x3 : Int32) ≤ 200 → (o = some (.int 1) ∧ S' = S ∧ narrow .boolean (.int 1) = .int 1)))) ∧ (¬ 200 < (x3 : Int32) → ∃ r3 T2, MC 1 m_M_further [.int x2] S (some (.int r3)) T2 ∧ JJ 2 m_M_isLarge o S' 8 [(1, .int x1), (2, .int r3), (3, .int (x3 + 1))] T2))))
theorem b_M_isLarge_8 {o : Option Value} {S' S : cp_S} {x1 : Int32} {x2 : Int32} {x3 : Int32} (w : wp_M_isLarge_8 o S' S x1 x2 x3) : JJ 2 m_M_isLarge o S' 8 [(1, .int x1), (2, .int x2), (3, .int x3)] S := by
  unfold wp_M_isLarge_8 at w
  intro G h n z d hn hd
  refine vv_iload_n (pc := 8) d_M_isLarge_8 rfl ?_
  refine vv_if_le (pc := 9) (tgt := 31) d_M_isLarge_9 rfl (fun hc => ?_) (fun hc => ?_)
  · replace w := w.1 hc
    refine vv_iload_n (pc := 31) d_M_isLarge_31 rfl ?_
    refine vv_sipush (pc := 32) (v := 200) d_M_isLarge_32 rfl ?_
    refine vv_icmp_le (pc := 35) (tgt := 42) d_M_isLarge_35 rfl (fun hc => ?_) (fun hc => ?_)
    · replace w := w.1 hc
      refine vv_iconst (pc := 42) (v := 0) d_M_isLarge_42 rfl ?_
      obtain ⟨rfl, rfl, hx⟩ := w
      exact vv_zret (pc := 43) d_M_isLarge_43 rfl hx
    · replace w := w.2 hc
      refine vv_iconst (pc := 38) (v := 1) d_M_isLarge_38 rfl ?_
      refine vv_goto (pc := 39) (tgt := 43) d_M_isLarge_39 rfl ?_
      obtain ⟨rfl, rfl, hx⟩ := w
      exact vv_zret (pc := 43) d_M_isLarge_43 rfl hx
  · replace w := w.2 hc
    refine vv_iload_n (pc := 12) d_M_isLarge_12 rfl ?_
    refine vv_sipush (pc := 13) (v := 200) d_M_isLarge_13 rfl ?_
    refine vv_icmp_gt (pc := 16) (tgt := 31) d_M_isLarge_16 rfl (fun hc => ?_) (fun hc => ?_)
    · replace w := w.1 hc
      refine vv_iload_n (pc := 31) d_M_isLarge_31 rfl ?_
      refine vv_sipush (pc := 32) (v := 200) d_M_isLarge_32 rfl ?_
      refine vv_icmp_le (pc := 35) (tgt := 42) d_M_isLarge_35 rfl (fun hc => ?_) (fun hc => ?_)
      · replace w := w.1 hc
        refine vv_iconst (pc := 42) (v := 0) d_M_isLarge_42 rfl ?_
        obtain ⟨rfl, rfl, hx⟩ := w
        exact vv_zret (pc := 43) d_M_isLarge_43 rfl hx
      · replace w := w.2 hc
        refine vv_iconst (pc := 38) (v := 1) d_M_isLarge_38 rfl ?_
        refine vv_goto (pc := 39) (tgt := 43) d_M_isLarge_39 rfl ?_
        obtain ⟨rfl, rfl, hx⟩ := w
        exact vv_zret (pc := 43) d_M_isLarge_43 rfl hx
    · replace w := w.2 hc
      refine vv_iinc (pc := 19) (v := (x3 + 1)) d_M_isLarge_19 rfl rfl (Nat.le_of_ble_eq_true rfl) ?_
      refine vv_aload_n (pc := 22) d_M_isLarge_22 rfl ?_
      refine vv_iload_n (pc := 23) d_M_isLarge_23 rfl ?_
      obtain ⟨r3, T2, c1, w⟩ := w
      refine vv_callV (pc := 24) (As := [.int x2]) d_M_isLarge_24 (c1 G h n z (d - 1) hn (by omega)) k_M_further ml_M_281.1 ml_M_281.2.1 ml_M_281.2.2.1 ml_M_281.2.2.2.1 ml_M_281.2.2.2.2 (by omega) mm_26 (by omega) (Nat.le_of_ble_eq_true rfl) ?_
      refine vv_istore_n (pc := 27) d_M_isLarge_27 (Nat.le_of_ble_eq_true rfl) ?_
      refine vv_goto (pc := 28) (tgt := 8) d_M_isLarge_28 rfl ?_
      exact vv_sub [2, 3, 0, 1] rfl (w G h n z d hn hd)
def wp_M_nextPair_0 (o : Option Value) (S' : cp_S) (S : cp_S) (x1 : Int32) : Prop := JJ 1 m_M_nextPair o S' 2 [(1, .int x1), (2, .int x1)] S
theorem b_M_nextPair_0 {o : Option Value} {S' S : cp_S} {x1 : Int32} (w : wp_M_nextPair_0 o S' S x1) : JJ 1 m_M_nextPair o S' 0 [(1, .int x1)] S := by
  unfold wp_M_nextPair_0 at w
  intro G h n z d hn hd
  refine vv_iload_n (pc := 0) d_M_nextPair_0 rfl ?_
  refine vv_istore_n (pc := 1) d_M_nextPair_1 (Nat.le_of_ble_eq_true rfl) ?_
  exact vv_sub [1, 2, 0] rfl (w G h n z d hn hd)
theorem c_M_nextPair {o : Option Value} {S' S : cp_S} {x1 : Int32} (w : JJ 1 m_M_nextPair o S' 0 [(1, .int x1)] S) : MC 1 m_M_nextPair [.int x1] S o S' := fun G h n z d hn hd => cp_C.of rfl (Nat.le_of_ble_eq_true rfl) (w G h n z d hn hd)
def wp_M_nextPair_2 (o : Option Value) (S' : cp_S) (S : cp_S) (x1 : Int32) (x2 : Int32) : Prop := (((x2 : Int32) ≤ 0 → JJ 1 m_M_nextPair o S' 36 [(1, .int x1), (2, .int x2)] S) ∧ (¬ (x2 : Int32) ≤ 0 → vp_in (x2 - 1) (cp_ml 60) ∧ vp_in (x2 - 1) (cp_ml 58) ∧ vp_in ((S.2 58) (Int32.toNatClampNeg (x2 - 1))) (cp_ml 55) ∧ ((¬ (((S.2 60) (Int32.toNatClampNeg (x2 - 1))) : Int32) = ((S.2 55) (Int32.toNatClampNeg ((S.2 58) (Int32.toNatClampNeg (x2 - 1))))) → JJ 1 m_M_nextPair o S' 36 [(1, .int x1), (2, .int x2)] S) ∧ ((((S.2 60) (Int32.toNatClampNeg (x2 - 1))) : Int32) = ((S.2 55) (Int32.toNatClampNeg ((S.2 58) (Int32.toNatClampNeg (x2 - 1))))) → JJ 1 m_M_nextPair o S' 2 [(1, .int x1), (2, .int (x2 + (-1)))] S))))
theorem b_M_nextPair_2 {o : Option Value} {S' S : cp_S} {x1 : Int32} {x2 : Int32} (w : wp_M_nextPair_2 o S' S x1 x2) : JJ 1 m_M_nextPair o S' 2 [(1, .int x1), (2, .int x2)] S := by
  unfold wp_M_nextPair_2 at w
  intro G h n z d hn hd
  refine vv_iload_n (pc := 2) d_M_nextPair_2 rfl ?_
  refine vv_if_le (pc := 3) (tgt := 36) d_M_nextPair_3 rfl (fun hc => ?_) (fun hc => ?_)
  · replace w := w.1 hc
    exact vv_sub [0, 1, 2] rfl (w G h n z d hn hd)
  · replace w := w.2 hc
    refine vv_aload_n (pc := 6) d_M_nextPair_6 rfl ?_
    refine ww_gr (pc := 7) 47 60 d_M_nextPair_7 fl_M_109 (by omega) rfl (by decide) ?_
    refine vv_iload_n (pc := 10) d_M_nextPair_10 rfl ?_
    refine vv_iconst (pc := 11) (v := 1) d_M_nextPair_11 rfl ?_
    refine vv_isub (pc := 12) d_M_nextPair_12 ?_
    obtain ⟨b1, w⟩ := w
    refine ww_ld (pc := 13) 60 d_M_nextPair_13 (by omega) (by decide) b1 ?_
    refine vv_aload_n (pc := 14) d_M_nextPair_14 rfl ?_
    refine ww_gr (pc := 15) 39 55 d_M_nextPair_15 fl_M_94 (by omega) rfl (by decide) ?_
    refine vv_aload_n (pc := 18) d_M_nextPair_18 rfl ?_
    refine ww_gr (pc := 19) 45 58 d_M_nextPair_19 fl_M_103 (by omega) rfl (by decide) ?_
    refine vv_iload_n (pc := 22) d_M_nextPair_22 rfl ?_
    refine vv_iconst (pc := 23) (v := 1) d_M_nextPair_23 rfl ?_
    refine vv_isub (pc := 24) d_M_nextPair_24 ?_
    obtain ⟨b2, w⟩ := w
    refine ww_ld (pc := 25) 58 d_M_nextPair_25 (by omega) (by decide) b2 ?_
    obtain ⟨b3, w⟩ := w
    refine ww_ld (pc := 26) 55 d_M_nextPair_26 (by omega) (by decide) b3 ?_
    refine vv_icmp_ne (pc := 27) (tgt := 36) d_M_nextPair_27 rfl (fun hc => ?_) (fun hc => ?_)
    · replace w := w.1 hc
      exact vv_sub [0, 1, 2] rfl (w G h n z d hn hd)
    · replace w := w.2 hc
      refine vv_iinc (pc := 30) (v := (x2 + (-1))) d_M_nextPair_30 rfl rfl (Nat.le_of_ble_eq_true rfl) ?_
      refine vv_goto (pc := 33) (tgt := 2) d_M_nextPair_33 rfl ?_
      exact vv_sub [1, 2, 0] rfl (w G h n z d hn hd)
def wp_M_nextPair_36 (o : Option Value) (S' : cp_S) (S : cp_S) (x1 : Int32) (x2 : Int32) : Prop := ((¬ (x2 : Int32) = 0 → vp_in (x2 - 1) (cp_ml 60) ∧ vp_in (x2 - 1) (cp_ml 60) ∧ vp_in (x2 - 1) (cp_ml 60) ∧ vp_in (x2 - 1) (cp_ml 58) ∧ vp_in ((S.2 58) (Int32.toNatClampNeg (x2 - 1))) (cp_ml 54) ∧ vp_in (((S.2 54) (Int32.toNatClampNeg ((S.2 58) (Int32.toNatClampNeg (x2 - 1))))) + ((S.2 60) (Int32.toNatClampNeg (x2 - 1)))) (cp_ml 56) ∧ ∃ r9 T8, MC 0 m_M_seen [.int ((S.2 56) (Int32.toNatClampNeg (((S.2 54) (Int32.toNatClampNeg ((S.2 58) (Int32.toNatClampNeg (x2 - 1))))) + ((S.2 60) (Int32.toNatClampNeg (x2 - 1))))))] (S.1, (va_up S.2 60 (upd (S.2 60) (Int32.toNatClampNeg (x2 - 1)) (((S.2 60) (Int32.toNatClampNeg (x2 - 1))) + 1)))) (some (.int r9)) T8 ∧ vp_in x2 (cp_ml 58) ∧ vp_in (x2 - 1) (cp_ml 59) ∧ vp_in ((T8.2 59) (Int32.toNatClampNeg (x2 - 1))) (cp_ml 54) ∧ vp_in (((T8.2 54) (Int32.toNatClampNeg ((T8.2 59) (Int32.toNatClampNeg (x2 - 1))))) + ((S.2 60) (Int32.toNatClampNeg (x2 - 1)))) (cp_ml 56) ∧ ∃ r16 T15, MC 0 m_M_seen [.int ((T8.2 56) (Int32.toNatClampNeg (((T8.2 54) (Int32.toNatClampNeg ((T8.2 59) (Int32.toNatClampNeg (x2 - 1))))) + ((S.2 60) (Int32.toNatClampNeg (x2 - 1))))))] (T8.1, (va_up T8.2 58 (upd (T8.2 58) (Int32.toNatClampNeg x2) r9))) (some (.int r16)) T15 ∧ vp_in x2 (cp_ml 59) ∧ vp_in x2 (cp_ml 60) ∧ (o = some (.int (x2 + 1)) ∧ S' = (T15.1, (va_up (va_up T15.2 59 (upd (T15.2 59) (Int32.toNatClampNeg x2) r16)) 60 (upd (T15.2 60) (Int32.toNatClampNeg x2) 0))))) ∧ ((x2 : Int32) = 0 → (o = some (.int 0) ∧ S' = S)))
theorem b_M_nextPair_36 {o : Option Value} {S' S : cp_S} {x1 : Int32} {x2 : Int32} (w : wp_M_nextPair_36 o S' S x1 x2) : JJ 1 m_M_nextPair o S' 36 [(1, .int x1), (2, .int x2)] S := by
  unfold wp_M_nextPair_36 at w
  intro G h n z d hn hd
  refine vv_iload_n (pc := 36) d_M_nextPair_36 rfl ?_
  refine vv_if_ne (pc := 37) (tgt := 42) d_M_nextPair_37 rfl (fun hc => ?_) (fun hc => ?_)
  · replace w := w.1 hc
    refine vv_aload_n (pc := 42) d_M_nextPair_42 rfl ?_
    refine ww_gr (pc := 43) 47 60 d_M_nextPair_43 fl_M_109 (by omega) rfl (by decide) ?_
    refine vv_iload_n (pc := 46) d_M_nextPair_46 rfl ?_
    refine vv_iconst (pc := 47) (v := 1) d_M_nextPair_47 rfl ?_
    refine vv_isub (pc := 48) d_M_nextPair_48 ?_
    obtain ⟨b1, w⟩ := w
    refine ww_ld (pc := 49) 60 d_M_nextPair_49 (by omega) (by decide) b1 ?_
    refine vv_istore_n (pc := 50) d_M_nextPair_50 (Nat.le_of_ble_eq_true rfl) ?_
    refine vv_aload_n (pc := 51) d_M_nextPair_51 rfl ?_
    refine ww_gr (pc := 52) 47 60 d_M_nextPair_52 fl_M_109 (by omega) rfl (by decide) ?_
    refine vv_iload_n (pc := 55) d_M_nextPair_55 rfl ?_
    refine vv_iconst (pc := 56) (v := 1) d_M_nextPair_56 rfl ?_
    refine vv_isub (pc := 57) d_M_nextPair_57 ?_
    refine vv_dup2 (pc := 58) d_M_nextPair_58 rfl rfl ?_
    obtain ⟨b2, w⟩ := w
    refine ww_ld (pc := 59) 60 d_M_nextPair_59 (by omega) (by decide) b2 ?_
    refine vv_iconst (pc := 60) (v := 1) d_M_nextPair_60 rfl ?_
    refine vv_iadd (pc := 61) d_M_nextPair_61 ?_
    obtain ⟨b3, w⟩ := w
    refine ww_st (pc := 62) 60 d_M_nextPair_62 (by omega) (by decide) b3 ?_
    refine vv_aload_n (pc := 63) d_M_nextPair_63 rfl ?_
    refine ww_gr (pc := 64) 45 58 d_M_nextPair_64 fl_M_103 (by omega) rfl (by decide) ?_
    refine vv_iload_n (pc := 67) d_M_nextPair_67 rfl ?_
    refine vv_aload_n (pc := 68) d_M_nextPair_68 rfl ?_
    refine vv_aload_n (pc := 69) d_M_nextPair_69 rfl ?_
    refine ww_gr (pc := 70) 41 56 d_M_nextPair_70 fl_M_97 (by omega) rfl (by decide) ?_
    refine vv_aload_n (pc := 73) d_M_nextPair_73 rfl ?_
    refine ww_gr (pc := 74) 38 54 d_M_nextPair_74 fl_M_91 (by omega) rfl (by decide) ?_
    refine vv_aload_n (pc := 77) d_M_nextPair_77 rfl ?_
    refine ww_gr (pc := 78) 45 58 d_M_nextPair_78 fl_M_103 (by omega) rfl (by decide) ?_
    refine vv_iload_n (pc := 81) d_M_nextPair_81 rfl ?_
    refine vv_iconst (pc := 82) (v := 1) d_M_nextPair_82 rfl ?_
    refine vv_isub (pc := 83) d_M_nextPair_83 ?_
    obtain ⟨b4, w⟩ := w
    refine ww_ld (pc := 84) 58 d_M_nextPair_84 (by omega) (by decide) b4 ?_
    obtain ⟨b5, w⟩ := w
    refine ww_ld (pc := 85) 54 d_M_nextPair_85 (by omega) (by decide) b5 ?_
    refine vv_iload_n (pc := 86) d_M_nextPair_86 rfl ?_
    refine vv_iadd (pc := 87) d_M_nextPair_87 ?_
    obtain ⟨b6, w⟩ := w
    refine ww_ld (pc := 88) 56 d_M_nextPair_88 (by omega) (by decide) b6 ?_
    obtain ⟨r9, T8, c7, w⟩ := w
    refine vv_callV (pc := 89) (As := [.int ((S.2 56) (Int32.toNatClampNeg (((S.2 54) (Int32.toNatClampNeg ((S.2 58) (Int32.toNatClampNeg (x2 - 1))))) + ((S.2 60) (Int32.toNatClampNeg (x2 - 1))))))]) d_M_nextPair_89 (c7 G h n z (d - 1) hn (by omega)) k_M_seen ml_M_275.1 ml_M_275.2.1 ml_M_275.2.2.1 ml_M_275.2.2.2.1 ml_M_275.2.2.2.2 (by omega) mm_26 (by omega) (Nat.le_of_ble_eq_true rfl) ?_
    obtain ⟨b10, w⟩ := w
    refine ww_st (pc := 92) 58 d_M_nextPair_92 (by omega) (by decide) b10 ?_
    refine vv_aload_n (pc := 93) d_M_nextPair_93 rfl ?_
    refine ww_gr (pc := 94) 46 59 d_M_nextPair_94 fl_M_106 (by omega) rfl (by decide) ?_
    refine vv_iload_n (pc := 97) d_M_nextPair_97 rfl ?_
    refine vv_aload_n (pc := 98) d_M_nextPair_98 rfl ?_
    refine vv_aload_n (pc := 99) d_M_nextPair_99 rfl ?_
    refine ww_gr (pc := 100) 41 56 d_M_nextPair_100 fl_M_97 (by omega) rfl (by decide) ?_
    refine vv_aload_n (pc := 103) d_M_nextPair_103 rfl ?_
    refine ww_gr (pc := 104) 38 54 d_M_nextPair_104 fl_M_91 (by omega) rfl (by decide) ?_
    refine vv_aload_n (pc := 107) d_M_nextPair_107 rfl ?_
    refine ww_gr (pc := 108) 46 59 d_M_nextPair_108 fl_M_106 (by omega) rfl (by decide) ?_
    refine vv_iload_n (pc := 111) d_M_nextPair_111 rfl ?_
    refine vv_iconst (pc := 112) (v := 1) d_M_nextPair_112 rfl ?_
    refine vv_isub (pc := 113) d_M_nextPair_113 ?_
    obtain ⟨b11, w⟩ := w
    refine ww_ld (pc := 114) 59 d_M_nextPair_114 (by omega) (by decide) b11 ?_
    obtain ⟨b12, w⟩ := w
    refine ww_ld (pc := 115) 54 d_M_nextPair_115 (by omega) (by decide) b12 ?_
    refine vv_iload_n (pc := 116) d_M_nextPair_116 rfl ?_
    refine vv_iadd (pc := 117) d_M_nextPair_117 ?_
    obtain ⟨b13, w⟩ := w
    refine ww_ld (pc := 118) 56 d_M_nextPair_118 (by omega) (by decide) b13 ?_
    obtain ⟨r16, T15, c14, w⟩ := w
    refine vv_callV (pc := 119) (As := [.int ((T8.2 56) (Int32.toNatClampNeg (((T8.2 54) (Int32.toNatClampNeg ((T8.2 59) (Int32.toNatClampNeg (x2 - 1))))) + ((S.2 60) (Int32.toNatClampNeg (x2 - 1))))))]) d_M_nextPair_119 (c14 G h n z (d - 1) hn (by omega)) k_M_seen ml_M_275.1 ml_M_275.2.1 ml_M_275.2.2.1 ml_M_275.2.2.2.1 ml_M_275.2.2.2.2 (by omega) mm_26 (by omega) (Nat.le_of_ble_eq_true rfl) ?_
    obtain ⟨b17, w⟩ := w
    refine ww_st (pc := 122) 59 d_M_nextPair_122 (by omega) (by decide) b17 ?_
    refine vv_aload_n (pc := 123) d_M_nextPair_123 rfl ?_
    refine ww_gr (pc := 124) 47 60 d_M_nextPair_124 fl_M_109 (by omega) rfl (by decide) ?_
    refine vv_iload_n (pc := 127) d_M_nextPair_127 rfl ?_
    refine vv_iconst (pc := 128) (v := 0) d_M_nextPair_128 rfl ?_
    obtain ⟨b18, w⟩ := w
    refine ww_st (pc := 129) 60 d_M_nextPair_129 (by omega) (by decide) b18 ?_
    refine vv_iload_n (pc := 130) d_M_nextPair_130 rfl ?_
    refine vv_iconst (pc := 131) (v := 1) d_M_nextPair_131 rfl ?_
    refine vv_iadd (pc := 132) d_M_nextPair_132 ?_
    obtain ⟨rfl, rfl⟩ := w
    exact vv_iret (pc := 133) d_M_nextPair_133 rfl
  · replace w := w.2 hc
    refine vv_iconst (pc := 40) (v := 0) d_M_nextPair_40 rfl ?_
    obtain ⟨rfl, rfl⟩ := w
    exact vv_iret (pc := 41) d_M_nextPair_41 rfl
def wp_M_firstPair_0 (o : Option Value) (S' : cp_S) (S : cp_S) (x1 : Int32) (x2 : Int32) : Prop := ∃ r3 T2, MC 0 m_M_seen [.int x1] S (some (.int r3)) T2 ∧ vp_in 0 (cp_ml 58) ∧ ∃ r7 T6, MC 0 m_M_seen [.int x2] (T2.1, (va_up T2.2 58 (upd (T2.2 58) (Int32.toNatClampNeg 0) r3))) (some (.int r7)) T6 ∧ vp_in 0 (cp_ml 59) ∧ vp_in 0 (cp_ml 60) ∧ (o = some (.int 1) ∧ S' = ((va_up T6.1 44 0), (va_up (va_up T6.2 59 (upd (T6.2 59) (Int32.toNatClampNeg 0) r7)) 60 (upd (T6.2 60) (Int32.toNatClampNeg 0) 0))))
theorem b_M_firstPair_0 {o : Option Value} {S' S : cp_S} {x1 : Int32} {x2 : Int32} (w : wp_M_firstPair_0 o S' S x1 x2) : JJ 1 m_M_firstPair o S' 0 [(1, .int x1), (2, .int x2)] S := by
  unfold wp_M_firstPair_0 at w
  intro G h n z d hn hd
  refine vv_aload_n (pc := 0) d_M_firstPair_0 rfl ?_
  refine ww_gr (pc := 1) 45 58 d_M_firstPair_1 fl_M_103 (by omega) rfl (by decide) ?_
  refine vv_iconst (pc := 4) (v := 0) d_M_firstPair_4 rfl ?_
  refine vv_aload_n (pc := 5) d_M_firstPair_5 rfl ?_
  refine vv_iload_n (pc := 6) d_M_firstPair_6 rfl ?_
  obtain ⟨r3, T2, c1, w⟩ := w
  refine vv_callV (pc := 7) (As := [.int x1]) d_M_firstPair_7 (c1 G h n z (d - 1) hn (by omega)) k_M_seen ml_M_275.1 ml_M_275.2.1 ml_M_275.2.2.1 ml_M_275.2.2.2.1 ml_M_275.2.2.2.2 (by omega) mm_26 (by omega) (Nat.le_of_ble_eq_true rfl) ?_
  obtain ⟨b4, w⟩ := w
  refine ww_st (pc := 10) 58 d_M_firstPair_10 (by omega) (by decide) b4 ?_
  refine vv_aload_n (pc := 11) d_M_firstPair_11 rfl ?_
  refine ww_gr (pc := 12) 46 59 d_M_firstPair_12 fl_M_106 (by omega) rfl (by decide) ?_
  refine vv_iconst (pc := 15) (v := 0) d_M_firstPair_15 rfl ?_
  refine vv_aload_n (pc := 16) d_M_firstPair_16 rfl ?_
  refine vv_iload_n (pc := 17) d_M_firstPair_17 rfl ?_
  obtain ⟨r7, T6, c5, w⟩ := w
  refine vv_callV (pc := 18) (As := [.int x2]) d_M_firstPair_18 (c5 G h n z (d - 1) hn (by omega)) k_M_seen ml_M_275.1 ml_M_275.2.1 ml_M_275.2.2.1 ml_M_275.2.2.2.1 ml_M_275.2.2.2.2 (by omega) mm_26 (by omega) (Nat.le_of_ble_eq_true rfl) ?_
  obtain ⟨b8, w⟩ := w
  refine ww_st (pc := 21) 59 d_M_firstPair_21 (by omega) (by decide) b8 ?_
  refine vv_aload_n (pc := 22) d_M_firstPair_22 rfl ?_
  refine ww_gr (pc := 23) 47 60 d_M_firstPair_23 fl_M_109 (by omega) rfl (by decide) ?_
  refine vv_iconst (pc := 26) (v := 0) d_M_firstPair_26 rfl ?_
  refine vv_iconst (pc := 27) (v := 0) d_M_firstPair_27 rfl ?_
  obtain ⟨b9, w⟩ := w
  refine ww_st (pc := 28) 60 d_M_firstPair_28 (by omega) (by decide) b9 ?_
  refine vv_aload_n (pc := 29) d_M_firstPair_29 rfl ?_
  refine vv_iconst (pc := 30) (v := 0) d_M_firstPair_30 rfl ?_
  refine ww_pi (pc := 31) 44 d_M_firstPair_31 fl_M_284 (by omega) rfl rfl rfl rfl ?_
  refine vv_iconst (pc := 34) (v := 1) d_M_firstPair_34 rfl ?_
  obtain ⟨rfl, rfl⟩ := w
  exact vv_iret (pc := 35) d_M_firstPair_35 rfl
theorem c_M_firstPair {o : Option Value} {S' S : cp_S} {x1 : Int32} {x2 : Int32} (w : JJ 1 m_M_firstPair o S' 0 [(1, .int x1), (2, .int x2)] S) : MC 1 m_M_firstPair [.int x1, .int x2] S o S' := fun G h n z d hn hd => cp_C.of rfl (Nat.le_of_ble_eq_true rfl) (w G h n z d hn hd)
def wp_M_isLevel_0 (o : Option Value) (S' : cp_S) (S : cp_S) (x1 : Int32) (x2 : Int32) : Prop := vp_in x1 (cp_ml 52) ∧ vp_in x2 (cp_ml 52) ∧ ((¬ (((S.2 52) (Int32.toNatClampNeg x1)) : Int32) = ((S.2 52) (Int32.toNatClampNeg x2)) → (o = some (.int 0) ∧ S' = S ∧ narrow .boolean (.int 0) = .int 0)) ∧ ((((S.2 52) (Int32.toNatClampNeg x1)) : Int32) = ((S.2 52) (Int32.toNatClampNeg x2)) → vp_in x1 (cp_ml 53) ∧ vp_in x2 (cp_ml 53) ∧ ((¬ (((S.2 53) (Int32.toNatClampNeg x1)) : Int32) = ((S.2 53) (Int32.toNatClampNeg x2)) → (o = some (.int 0) ∧ S' = S ∧ narrow .boolean (.int 0) = .int 0)) ∧ ((((S.2 53) (Int32.toNatClampNeg x1)) : Int32) = ((S.2 53) (Int32.toNatClampNeg x2)) → vp_in x1 (cp_ml 55) ∧ vp_in x2 (cp_ml 55) ∧ ((¬ (((S.2 55) (Int32.toNatClampNeg x1)) : Int32) = ((S.2 55) (Int32.toNatClampNeg x2)) → (o = some (.int 0) ∧ S' = S ∧ narrow .boolean (.int 0) = .int 0)) ∧ ((((S.2 55) (Int32.toNatClampNeg x1)) : Int32) = ((S.2 55) (Int32.toNatClampNeg x2)) → (o = some (.int 1) ∧ S' = S ∧ narrow .boolean (.int 1) = .int 1)))))))
theorem b_M_isLevel_0 {o : Option Value} {S' S : cp_S} {x1 : Int32} {x2 : Int32} (w : wp_M_isLevel_0 o S' S x1 x2) : JJ 0 m_M_isLevel o S' 0 [(1, .int x1), (2, .int x2)] S := by
  unfold wp_M_isLevel_0 at w
  intro G h n z d hn hd
  refine vv_aload_n (pc := 0) d_M_isLevel_0 rfl ?_
  refine ww_gr (pc := 1) 36 52 d_M_isLevel_1 fl_M_85 (by omega) rfl (by decide) ?_
  refine vv_iload_n (pc := 4) d_M_isLevel_4 rfl ?_
  obtain ⟨b1, w⟩ := w
  refine ww_ld (pc := 5) 52 d_M_isLevel_5 (by omega) (by decide) b1 ?_
  refine vv_aload_n (pc := 6) d_M_isLevel_6 rfl ?_
  refine ww_gr (pc := 7) 36 52 d_M_isLevel_7 fl_M_85 (by omega) rfl (by decide) ?_
  refine vv_iload_n (pc := 10) d_M_isLevel_10 rfl ?_
  obtain ⟨b2, w⟩ := w
  refine ww_ld (pc := 11) 52 d_M_isLevel_11 (by omega) (by decide) b2 ?_
  refine vv_icmp_ne (pc := 12) (tgt := 49) d_M_isLevel_12 rfl (fun hc => ?_) (fun hc => ?_)
  · replace w := w.1 hc
    refine vv_iconst (pc := 49) (v := 0) d_M_isLevel_49 rfl ?_
    obtain ⟨rfl, rfl, hx⟩ := w
    exact vv_zret (pc := 50) d_M_isLevel_50 rfl hx
  · replace w := w.2 hc
    refine vv_aload_n (pc := 15) d_M_isLevel_15 rfl ?_
    refine ww_gr (pc := 16) 37 53 d_M_isLevel_16 fl_M_88 (by omega) rfl (by decide) ?_
    refine vv_iload_n (pc := 19) d_M_isLevel_19 rfl ?_
    obtain ⟨b3, w⟩ := w
    refine ww_ld (pc := 20) 53 d_M_isLevel_20 (by omega) (by decide) b3 ?_
    refine vv_aload_n (pc := 21) d_M_isLevel_21 rfl ?_
    refine ww_gr (pc := 22) 37 53 d_M_isLevel_22 fl_M_88 (by omega) rfl (by decide) ?_
    refine vv_iload_n (pc := 25) d_M_isLevel_25 rfl ?_
    obtain ⟨b4, w⟩ := w
    refine ww_ld (pc := 26) 53 d_M_isLevel_26 (by omega) (by decide) b4 ?_
    refine vv_icmp_ne (pc := 27) (tgt := 49) d_M_isLevel_27 rfl (fun hc => ?_) (fun hc => ?_)
    · replace w := w.1 hc
      refine vv_iconst (pc := 49) (v := 0) d_M_isLevel_49 rfl ?_
      obtain ⟨rfl, rfl, hx⟩ := w
      exact vv_zret (pc := 50) d_M_isLevel_50 rfl hx
    · replace w := w.2 hc
      refine vv_aload_n (pc := 30) d_M_isLevel_30 rfl ?_
      refine ww_gr (pc := 31) 39 55 d_M_isLevel_31 fl_M_94 (by omega) rfl (by decide) ?_
      refine vv_iload_n (pc := 34) d_M_isLevel_34 rfl ?_
      obtain ⟨b5, w⟩ := w
      refine ww_ld (pc := 35) 55 d_M_isLevel_35 (by omega) (by decide) b5 ?_
      refine vv_aload_n (pc := 36) d_M_isLevel_36 rfl ?_
      refine ww_gr (pc := 37) 39 55 d_M_isLevel_37 fl_M_94 (by omega) rfl (by decide) ?_
      refine vv_iload_n (pc := 40) d_M_isLevel_40 rfl ?_
      obtain ⟨b6, w⟩ := w
      refine ww_ld (pc := 41) 55 d_M_isLevel_41 (by omega) (by decide) b6 ?_
      refine vv_icmp_ne (pc := 42) (tgt := 49) d_M_isLevel_42 rfl (fun hc => ?_) (fun hc => ?_)
      · replace w := w.1 hc
        refine vv_iconst (pc := 49) (v := 0) d_M_isLevel_49 rfl ?_
        obtain ⟨rfl, rfl, hx⟩ := w
        exact vv_zret (pc := 50) d_M_isLevel_50 rfl hx
      · replace w := w.2 hc
        refine vv_iconst (pc := 45) (v := 1) d_M_isLevel_45 rfl ?_
        refine vv_goto (pc := 46) (tgt := 50) d_M_isLevel_46 rfl ?_
        obtain ⟨rfl, rfl, hx⟩ := w
        exact vv_zret (pc := 50) d_M_isLevel_50 rfl hx
theorem c_M_isLevel {o : Option Value} {S' S : cp_S} {x1 : Int32} {x2 : Int32} (w : JJ 0 m_M_isLevel o S' 0 [(1, .int x1), (2, .int x2)] S) : MC 0 m_M_isLevel [.int x1, .int x2] S o S' := fun G h n z d hn hd => cp_C.of rfl (Nat.le_of_ble_eq_true rfl) (w G h n z d hn hd)
def wp_M_makeSame_0 (o : Option Value) (S' : cp_S) (S : cp_S) (x1 : Int32) (x2 : Int32) : Prop := ∃ r3 T2, MC 1 m_M_firstPair [.int x1, .int x2] S (some (.int r3)) T2 ∧ JJ 3 m_M_makeSame o S' 7 [(1, .int x1), (2, .int x2), (3, .int r3)] T2
theorem b_M_makeSame_0 {o : Option Value} {S' S : cp_S} {x1 : Int32} {x2 : Int32} (w : wp_M_makeSame_0 o S' S x1 x2) : JJ 3 m_M_makeSame o S' 0 [(1, .int x1), (2, .int x2)] S := by
  unfold wp_M_makeSame_0 at w
  intro G h n z d hn hd
  refine vv_aload_n (pc := 0) d_M_makeSame_0 rfl ?_
  refine vv_iload_n (pc := 1) d_M_makeSame_1 rfl ?_
  refine vv_iload_n (pc := 2) d_M_makeSame_2 rfl ?_
  obtain ⟨r3, T2, c1, w⟩ := w
  refine vv_callV (pc := 3) (As := [.int x1, .int x2]) d_M_makeSame_3 (c1 G h n z (d - 1) hn (by omega)) k_M_firstPair ml_M_287.1 ml_M_287.2.1 ml_M_287.2.2.1 ml_M_287.2.2.2.1 ml_M_287.2.2.2.2 (by omega) mm_26 (by omega) (Nat.le_of_ble_eq_true rfl) ?_
  refine vv_istore_n (pc := 6) d_M_makeSame_6 (Nat.le_of_ble_eq_true rfl) ?_
  exact vv_sub [1, 2, 3, 0] rfl (w G h n z d hn hd)
theorem c_M_makeSame {o : Option Value} {S' S : cp_S} {x1 : Int32} {x2 : Int32} (w : JJ 3 m_M_makeSame o S' 0 [(1, .int x1), (2, .int x2)] S) : MC 3 m_M_makeSame [.int x1, .int x2] S o S' := fun G h n z d hn hd => cp_C.of rfl (Nat.le_of_ble_eq_true rfl) (w G h n z d hn hd)
def wp_M_makeSame_7 (o : Option Value) (S' : cp_S) (S : cp_S) (x1 : Int32) (x2 : Int32) (x3 : Int32) : Prop := (((x3 : Int32) ≤ 0 → (o = some (.int 1) ∧ S' = S ∧ narrow .boolean (.int 1) = .int 1)) ∧ (¬ (x3 : Int32) ≤ 0 → vp_in (x3 - 1) (cp_ml 58) ∧ vp_in (x3 - 1) (cp_ml 59) ∧ (((((S.1 44) + 1) : Int32) ≤ 1000 → vp_in ((S.2 58) (Int32.toNatClampNeg (x3 - 1))) (cp_ml 52) ∧ (((((S.2 52) (Int32.toNatClampNeg ((S.2 58) (Int32.toNatClampNeg (x3 - 1))))) : Int32) = 2 → JJ 3 m_M_makeSame o S' 75 [(1, .int x1), (2, .int x2), (3, .int x3), (4, .int ((S.2 58) (Int32.toNatClampNeg (x3 - 1)))), (5, .int ((S.2 59) (Int32.toNatClampNeg (x3 - 1))))] ((va_up S.1 44 ((S.1 44) + 1)), S.2)) ∧ (¬ (((S.2 52) (Int32.toNatClampNeg ((S.2 58) (Int32.toNatClampNeg (x3 - 1))))) : Int32) = 2 → vp_in ((S.2 59) (Int32.toNatClampNeg (x3 - 1))) (cp_ml 52) ∧ ((¬ (((S.2 52) (Int32.toNatClampNeg ((S.2 59) (Int32.toNatClampNeg (x3 - 1))))) : Int32) = 2 → ∃ r7 T6, MC 0 m_M_isLevel [.int ((S.2 58) (Int32.toNatClampNeg (x3 - 1))), .int ((S.2 59) (Int32.toNatClampNeg (x3 - 1)))] ((va_up S.1 44 ((S.1 44) + 1)), S.2) (some (.int r7)) T6 ∧ ((¬ (r7 : Int32) = 0 → JJ 3 m_M_makeSame o S' 193 [(1, .int x1), (2, .int x2), (3, .int x3), (4, .int ((S.2 58) (Int32.toNatClampNeg (x3 - 1)))), (5, .int ((S.2 59) (Int32.toNatClampNeg (x3 - 1))))] T6) ∧ ((r7 : Int32) = 0 → (o = some (.int 0) ∧ S' = T6 ∧ narrow .boolean (.int 0) = .int 0)))) ∧ ((((S.2 52) (Int32.toNatClampNeg ((S.2 59) (Int32.toNatClampNeg (x3 - 1))))) : Int32) = 2 → JJ 3 m_M_makeSame o S' 75 [(1, .int x1), (2, .int x2), (3, .int x3), (4, .int ((S.2 58) (Int32.toNatClampNeg (x3 - 1)))), (5, .int ((S.2 59) (Int32.toNatClampNeg (x3 - 1))))] ((va_up S.1 44 ((S.1 44) + 1)), S.2)))))) ∧ (¬ (((S.1 44) + 1) : Int32) ≤ 1000 → (o = some (.int 0) ∧ S' = ((va_up S.1 44 ((S.1 44) + 1)), S.2) ∧ narrow .boolean (.int 0) = .int 0)))))
theorem b_M_makeSame_7 {o : Option Value} {S' S : cp_S} {x1 : Int32} {x2 : Int32} {x3 : Int32} (w : wp_M_makeSame_7 o S' S x1 x2 x3) : JJ 3 m_M_makeSame o S' 7 [(1, .int x1), (2, .int x2), (3, .int x3)] S := by
  unfold wp_M_makeSame_7 at w
  intro G h n z d hn hd
  refine vv_iload_n (pc := 7) d_M_makeSame_7 rfl ?_
  refine vv_if_le (pc := 8) (tgt := 202) d_M_makeSame_8 rfl (fun hc => ?_) (fun hc => ?_)
  · replace w := w.1 hc
    refine vv_iconst (pc := 202) (v := 1) d_M_makeSame_202 rfl ?_
    obtain ⟨rfl, rfl, hx⟩ := w
    exact vv_zret (pc := 203) d_M_makeSame_203 rfl hx
  · replace w := w.2 hc
    refine vv_aload_n (pc := 11) d_M_makeSame_11 rfl ?_
    refine ww_gr (pc := 12) 45 58 d_M_makeSame_12 fl_M_103 (by omega) rfl (by decide) ?_
    refine vv_iload_n (pc := 15) d_M_makeSame_15 rfl ?_
    refine vv_iconst (pc := 16) (v := 1) d_M_makeSame_16 rfl ?_
    refine vv_isub (pc := 17) d_M_makeSame_17 ?_
    obtain ⟨b1, w⟩ := w
    refine ww_ld (pc := 18) 58 d_M_makeSame_18 (by omega) (by decide) b1 ?_
    refine vv_istore (pc := 19) d_M_makeSame_19 (Nat.le_of_ble_eq_true rfl) ?_
    refine vv_aload_n (pc := 21) d_M_makeSame_21 rfl ?_
    refine ww_gr (pc := 22) 46 59 d_M_makeSame_22 fl_M_106 (by omega) rfl (by decide) ?_
    refine vv_iload_n (pc := 25) d_M_makeSame_25 rfl ?_
    refine vv_iconst (pc := 26) (v := 1) d_M_makeSame_26 rfl ?_
    refine vv_isub (pc := 27) d_M_makeSame_27 ?_
    obtain ⟨b2, w⟩ := w
    refine ww_ld (pc := 28) 59 d_M_makeSame_28 (by omega) (by decide) b2 ?_
    refine vv_istore (pc := 29) d_M_makeSame_29 (Nat.le_of_ble_eq_true rfl) ?_
    refine vv_aload_n (pc := 31) d_M_makeSame_31 rfl ?_
    refine vv_dup (pc := 32) d_M_makeSame_32 rfl ?_
    refine ww_gi (pc := 33) 44 d_M_makeSame_33 fl_M_284 (by omega) rfl ?_
    refine vv_iconst (pc := 36) (v := 1) d_M_makeSame_36 rfl ?_
    refine vv_iadd (pc := 37) d_M_makeSame_37 ?_
    refine ww_pi (pc := 38) 44 d_M_makeSame_38 fl_M_284 (by omega) rfl rfl rfl rfl ?_
    refine vv_aload_n (pc := 41) d_M_makeSame_41 rfl ?_
    refine ww_gi (pc := 42) 44 d_M_makeSame_42 fl_M_284 (by omega) rfl ?_
    refine vv_topi (y := ((S.1 44) + 1)) rfl ?_
    refine vv_sipush (pc := 45) (v := 1000) d_M_makeSame_45 rfl ?_
    refine vv_icmp_le (pc := 48) (tgt := 53) d_M_makeSame_48 rfl (fun hc => ?_) (fun hc => ?_)
    · replace w := w.1 hc
      refine vv_aload_n (pc := 53) d_M_makeSame_53 rfl ?_
      refine ww_gr (pc := 54) 36 52 d_M_makeSame_54 fl_M_85 (by omega) rfl (by decide) ?_
      refine vv_iload (pc := 57) d_M_makeSame_57 rfl ?_
      obtain ⟨b3, w⟩ := w
      refine ww_ld (pc := 59) 52 d_M_makeSame_59 (by omega) (by decide) b3 ?_
      refine vv_iconst (pc := 60) (v := 2) d_M_makeSame_60 rfl ?_
      refine vv_icmp_eq (pc := 61) (tgt := 75) d_M_makeSame_61 rfl (fun hc => ?_) (fun hc => ?_)
      · replace w := w.1 hc
        exact vv_sub [2, 3, 4, 5, 1, 0] rfl (w G h n z d hn hd)
      · replace w := w.2 hc
        refine vv_aload_n (pc := 64) d_M_makeSame_64 rfl ?_
        refine ww_gr (pc := 65) 36 52 d_M_makeSame_65 fl_M_85 (by omega) rfl (by decide) ?_
        refine vv_iload (pc := 68) d_M_makeSame_68 rfl ?_
        obtain ⟨b4, w⟩ := w
        refine ww_ld (pc := 70) 52 d_M_makeSame_70 (by omega) (by decide) b4 ?_
        refine vv_iconst (pc := 71) (v := 2) d_M_makeSame_71 rfl ?_
        refine vv_icmp_ne (pc := 72) (tgt := 180) d_M_makeSame_72 rfl (fun hc => ?_) (fun hc => ?_)
        · replace w := w.1 hc
          refine vv_aload_n (pc := 180) d_M_makeSame_180 rfl ?_
          refine vv_iload (pc := 181) d_M_makeSame_181 rfl ?_
          refine vv_iload (pc := 183) d_M_makeSame_183 rfl ?_
          obtain ⟨r7, T6, c5, w⟩ := w
          refine vv_callV (pc := 185) (As := [.int ((S.2 58) (Int32.toNatClampNeg (x3 - 1))), .int ((S.2 59) (Int32.toNatClampNeg (x3 - 1)))]) d_M_makeSame_185 (c5 G h n z (d - 1) hn (by omega)) k_M_isLevel ml_M_296.1 ml_M_296.2.1 ml_M_296.2.2.1 ml_M_296.2.2.2.1 ml_M_296.2.2.2.2 (by omega) mm_26 (by omega) (Nat.le_of_ble_eq_true rfl) ?_
          refine vv_if_ne (pc := 188) (tgt := 193) d_M_makeSame_188 rfl (fun hc => ?_) (fun hc => ?_)
          · replace w := w.1 hc
            exact vv_sub [2, 3, 4, 5, 1, 0] rfl (w G h n z d hn hd)
          · replace w := w.2 hc
            refine vv_iconst (pc := 191) (v := 0) d_M_makeSame_191 rfl ?_
            obtain ⟨rfl, rfl, hx⟩ := w
            exact vv_zret (pc := 192) d_M_makeSame_192 rfl hx
        · replace w := w.2 hc
          exact vv_sub [2, 3, 4, 5, 1, 0] rfl (w G h n z d hn hd)
    · replace w := w.2 hc
      refine vv_iconst (pc := 51) (v := 0) d_M_makeSame_51 rfl ?_
      obtain ⟨rfl, rfl, hx⟩ := w
      exact vv_zret (pc := 52) d_M_makeSame_52 rfl hx
def wp_M_makeSame_75 (o : Option Value) (S' : cp_S) (S : cp_S) (x1 : Int32) (x2 : Int32) (x3 : Int32) (x4 : Int32) (x5 : Int32) : Prop := vp_in x4 (cp_ml 52) ∧ ((¬ (((S.2 52) (Int32.toNatClampNeg x4)) : Int32) = 2 → vp_in x4 (cp_ml 52) ∧ ((¬ (((S.2 52) (Int32.toNatClampNeg x4)) : Int32) = 2 → vp_in x4 (cp_ml 52) ∧ ((¬ (((S.2 52) (Int32.toNatClampNeg x4)) : Int32) = 3 → JJ 3 m_M_makeSame o S' 148 [(1, .int x1), (2, .int x2), (3, .int x3), (4, .int x4), (5, .int x5), (6, .int x5), (7, .int x4)] S) ∧ ((((S.2 52) (Int32.toNatClampNeg x4)) : Int32) = 3 → ∃ r6 T5, MC 2 m_M_isLarge [.int x4] S (some (.int r6)) T5 ∧ ((¬ (r6 : Int32) = 0 → (o = some (.int 0) ∧ S' = T5 ∧ narrow .boolean (.int 0) = .int 0)) ∧ ((r6 : Int32) = 0 → ∃ r9 T8, MC 2 m_M_lies [.int x5, .int x4] T5 (some (.int r9)) T8 ∧ (((r9 : Int32) = 0 → JJ 3 m_M_makeSame o S' 148 [(1, .int x1), (2, .int x2), (3, .int x3), (4, .int x4), (5, .int x5), (6, .int x5), (7, .int x4)] T8) ∧ (¬ (r9 : Int32) = 0 → (o = some (.int 0) ∧ S' = T8 ∧ narrow .boolean (.int 0) = .int 0)))))))) ∧ ((((S.2 52) (Int32.toNatClampNeg x4)) : Int32) = 2 → vp_in x5 (cp_ml 52) ∧ ((¬ (((S.2 52) (Int32.toNatClampNeg x5)) : Int32) = 3 → JJ 3 m_M_makeSame o S' 148 [(1, .int x1), (2, .int x2), (3, .int x3), (4, .int x4), (5, .int x5), (6, .int x5), (7, .int x5)] S) ∧ ((((S.2 52) (Int32.toNatClampNeg x5)) : Int32) = 3 → ∃ r13 T12, MC 2 m_M_isLarge [.int x5] S (some (.int r13)) T12 ∧ ((¬ (r13 : Int32) = 0 → (o = some (.int 0) ∧ S' = T12 ∧ narrow .boolean (.int 0) = .int 0)) ∧ ((r13 : Int32) = 0 → ∃ r16 T15, MC 2 m_M_lies [.int x5, .int x5] T12 (some (.int r16)) T15 ∧ (((r16 : Int32) = 0 → JJ 3 m_M_makeSame o S' 148 [(1, .int x1), (2, .int x2), (3, .int x3), (4, .int x4), (5, .int x5), (6, .int x5), (7, .int x5)] T15) ∧ (¬ (r16 : Int32) = 0 → (o = some (.int 0) ∧ S' = T15 ∧ narrow .boolean (.int 0) = .int 0)))))))))) ∧ ((((S.2 52) (Int32.toNatClampNeg x4)) : Int32) = 2 → vp_in x4 (cp_ml 52) ∧ ((¬ (((S.2 52) (Int32.toNatClampNeg x4)) : Int32) = 2 → vp_in x4 (cp_ml 52) ∧ ((¬ (((S.2 52) (Int32.toNatClampNeg x4)) : Int32) = 3 → JJ 3 m_M_makeSame o S' 148 [(1, .int x1), (2, .int x2), (3, .int x3), (4, .int x4), (5, .int x5), (6, .int x4), (7, .int x4)] S) ∧ ((((S.2 52) (Int32.toNatClampNeg x4)) : Int32) = 3 → ∃ r21 T20, MC 2 m_M_isLarge [.int x4] S (some (.int r21)) T20 ∧ ((¬ (r21 : Int32) = 0 → (o = some (.int 0) ∧ S' = T20 ∧ narrow .boolean (.int 0) = .int 0)) ∧ ((r21 : Int32) = 0 → ∃ r24 T23, MC 2 m_M_lies [.int x4, .int x4] T20 (some (.int r24)) T23 ∧ (((r24 : Int32) = 0 → JJ 3 m_M_makeSame o S' 148 [(1, .int x1), (2, .int x2), (3, .int x3), (4, .int x4), (5, .int x5), (6, .int x4), (7, .int x4)] T23) ∧ (¬ (r24 : Int32) = 0 → (o = some (.int 0) ∧ S' = T23 ∧ narrow .boolean (.int 0) = .int 0)))))))) ∧ ((((S.2 52) (Int32.toNatClampNeg x4)) : Int32) = 2 → vp_in x5 (cp_ml 52) ∧ ((¬ (((S.2 52) (Int32.toNatClampNeg x5)) : Int32) = 3 → JJ 3 m_M_makeSame o S' 148 [(1, .int x1), (2, .int x2), (3, .int x3), (4, .int x4), (5, .int x5), (6, .int x4), (7, .int x5)] S) ∧ ((((S.2 52) (Int32.toNatClampNeg x5)) : Int32) = 3 → ∃ r28 T27, MC 2 m_M_isLarge [.int x5] S (some (.int r28)) T27 ∧ ((¬ (r28 : Int32) = 0 → (o = some (.int 0) ∧ S' = T27 ∧ narrow .boolean (.int 0) = .int 0)) ∧ ((r28 : Int32) = 0 → ∃ r31 T30, MC 2 m_M_lies [.int x4, .int x5] T27 (some (.int r31)) T30 ∧ (((r31 : Int32) = 0 → JJ 3 m_M_makeSame o S' 148 [(1, .int x1), (2, .int x2), (3, .int x3), (4, .int x4), (5, .int x5), (6, .int x4), (7, .int x5)] T30) ∧ (¬ (r31 : Int32) = 0 → (o = some (.int 0) ∧ S' = T30 ∧ narrow .boolean (.int 0) = .int 0)))))))))))
theorem b_M_makeSame_75 {o : Option Value} {S' S : cp_S} {x1 : Int32} {x2 : Int32} {x3 : Int32} {x4 : Int32} {x5 : Int32} (w : wp_M_makeSame_75 o S' S x1 x2 x3 x4 x5) : JJ 3 m_M_makeSame o S' 75 [(1, .int x1), (2, .int x2), (3, .int x3), (4, .int x4), (5, .int x5)] S := by
  unfold wp_M_makeSame_75 at w
  intro G h n z d hn hd
  refine vv_aload_n (pc := 75) d_M_makeSame_75 rfl ?_
  refine ww_gr (pc := 76) 36 52 d_M_makeSame_76 fl_M_85 (by omega) rfl (by decide) ?_
  refine vv_iload (pc := 79) d_M_makeSame_79 rfl ?_
  obtain ⟨b1, w⟩ := w
  refine ww_ld (pc := 81) 52 d_M_makeSame_81 (by omega) (by decide) b1 ?_
  refine vv_iconst (pc := 82) (v := 2) d_M_makeSame_82 rfl ?_
  refine vv_icmp_ne (pc := 83) (tgt := 91) d_M_makeSame_83 rfl (fun hc => ?_) (fun hc => ?_)
  · replace w := w.1 hc
    refine vv_iload (pc := 91) d_M_makeSame_91 rfl ?_
    refine vv_istore (pc := 93) d_M_makeSame_93 (Nat.le_of_ble_eq_true rfl) ?_
    refine vv_aload_n (pc := 95) d_M_makeSame_95 rfl ?_
    refine ww_gr (pc := 96) 36 52 d_M_makeSame_96 fl_M_85 (by omega) rfl (by decide) ?_
    refine vv_iload (pc := 99) d_M_makeSame_99 rfl ?_
    obtain ⟨b2, w⟩ := w
    refine ww_ld (pc := 101) 52 d_M_makeSame_101 (by omega) (by decide) b2 ?_
    refine vv_iconst (pc := 102) (v := 2) d_M_makeSame_102 rfl ?_
    refine vv_icmp_ne (pc := 103) (tgt := 111) d_M_makeSame_103 rfl (fun hc => ?_) (fun hc => ?_)
    · replace w := w.1 hc
      refine vv_iload (pc := 111) d_M_makeSame_111 rfl ?_
      refine vv_istore (pc := 113) d_M_makeSame_113 (Nat.le_of_ble_eq_true rfl) ?_
      refine vv_aload_n (pc := 115) d_M_makeSame_115 rfl ?_
      refine ww_gr (pc := 116) 36 52 d_M_makeSame_116 fl_M_85 (by omega) rfl (by decide) ?_
      refine vv_iload (pc := 119) d_M_makeSame_119 rfl ?_
      obtain ⟨b3, w⟩ := w
      refine ww_ld (pc := 121) 52 d_M_makeSame_121 (by omega) (by decide) b3 ?_
      refine vv_iconst (pc := 122) (v := 3) d_M_makeSame_122 rfl ?_
      refine vv_icmp_ne (pc := 123) (tgt := 148) d_M_makeSame_123 rfl (fun hc => ?_) (fun hc => ?_)
      · replace w := w.1 hc
        exact vv_sub [2, 3, 4, 5, 6, 7, 1, 0] rfl (w G h n z d hn hd)
      · replace w := w.2 hc
        refine vv_aload_n (pc := 126) d_M_makeSame_126 rfl ?_
        refine vv_iload (pc := 127) d_M_makeSame_127 rfl ?_
        obtain ⟨r6, T5, c4, w⟩ := w
        refine vv_callV (pc := 129) (As := [.int x4]) d_M_makeSame_129 (c4 G h n z (d - 1) hn (by omega)) k_M_isLarge ml_M_290.1 ml_M_290.2.1 ml_M_290.2.2.1 ml_M_290.2.2.2.1 ml_M_290.2.2.2.2 (by omega) mm_26 (by omega) (Nat.le_of_ble_eq_true rfl) ?_
        refine vv_if_ne (pc := 132) (tgt := 146) d_M_makeSame_132 rfl (fun hc => ?_) (fun hc => ?_)
        · replace w := w.1 hc
          refine vv_iconst (pc := 146) (v := 0) d_M_makeSame_146 rfl ?_
          obtain ⟨rfl, rfl, hx⟩ := w
          exact vv_zret (pc := 147) d_M_makeSame_147 rfl hx
        · replace w := w.2 hc
          refine vv_aload_n (pc := 135) d_M_makeSame_135 rfl ?_
          refine vv_iload (pc := 136) d_M_makeSame_136 rfl ?_
          refine vv_iload (pc := 138) d_M_makeSame_138 rfl ?_
          obtain ⟨r9, T8, c7, w⟩ := w
          refine vv_callV (pc := 140) (As := [.int x5, .int x4]) d_M_makeSame_140 (c7 G h n z (d - 1) hn (by omega)) k_M_lies ml_M_293.1 ml_M_293.2.1 ml_M_293.2.2.1 ml_M_293.2.2.2.1 ml_M_293.2.2.2.2 (by omega) mm_26 (by omega) (Nat.le_of_ble_eq_true rfl) ?_
          refine vv_if_eq (pc := 143) (tgt := 148) d_M_makeSame_143 rfl (fun hc => ?_) (fun hc => ?_)
          · replace w := w.1 hc
            exact vv_sub [2, 3, 4, 5, 6, 7, 1, 0] rfl (w G h n z d hn hd)
          · replace w := w.2 hc
            refine vv_iconst (pc := 146) (v := 0) d_M_makeSame_146 rfl ?_
            obtain ⟨rfl, rfl, hx⟩ := w
            exact vv_zret (pc := 147) d_M_makeSame_147 rfl hx
    · replace w := w.2 hc
      refine vv_iload (pc := 106) d_M_makeSame_106 rfl ?_
      refine vv_goto (pc := 108) (tgt := 113) d_M_makeSame_108 rfl ?_
      refine vv_istore (pc := 113) d_M_makeSame_113 (Nat.le_of_ble_eq_true rfl) ?_
      refine vv_aload_n (pc := 115) d_M_makeSame_115 rfl ?_
      refine ww_gr (pc := 116) 36 52 d_M_makeSame_116 fl_M_85 (by omega) rfl (by decide) ?_
      refine vv_iload (pc := 119) d_M_makeSame_119 rfl ?_
      obtain ⟨b10, w⟩ := w
      refine ww_ld (pc := 121) 52 d_M_makeSame_121 (by omega) (by decide) b10 ?_
      refine vv_iconst (pc := 122) (v := 3) d_M_makeSame_122 rfl ?_
      refine vv_icmp_ne (pc := 123) (tgt := 148) d_M_makeSame_123 rfl (fun hc => ?_) (fun hc => ?_)
      · replace w := w.1 hc
        exact vv_sub [2, 3, 4, 5, 6, 7, 1, 0] rfl (w G h n z d hn hd)
      · replace w := w.2 hc
        refine vv_aload_n (pc := 126) d_M_makeSame_126 rfl ?_
        refine vv_iload (pc := 127) d_M_makeSame_127 rfl ?_
        obtain ⟨r13, T12, c11, w⟩ := w
        refine vv_callV (pc := 129) (As := [.int x5]) d_M_makeSame_129 (c11 G h n z (d - 1) hn (by omega)) k_M_isLarge ml_M_290.1 ml_M_290.2.1 ml_M_290.2.2.1 ml_M_290.2.2.2.1 ml_M_290.2.2.2.2 (by omega) mm_26 (by omega) (Nat.le_of_ble_eq_true rfl) ?_
        refine vv_if_ne (pc := 132) (tgt := 146) d_M_makeSame_132 rfl (fun hc => ?_) (fun hc => ?_)
        · replace w := w.1 hc
          refine vv_iconst (pc := 146) (v := 0) d_M_makeSame_146 rfl ?_
          obtain ⟨rfl, rfl, hx⟩ := w
          exact vv_zret (pc := 147) d_M_makeSame_147 rfl hx
        · replace w := w.2 hc
          refine vv_aload_n (pc := 135) d_M_makeSame_135 rfl ?_
          refine vv_iload (pc := 136) d_M_makeSame_136 rfl ?_
          refine vv_iload (pc := 138) d_M_makeSame_138 rfl ?_
          obtain ⟨r16, T15, c14, w⟩ := w
          refine vv_callV (pc := 140) (As := [.int x5, .int x5]) d_M_makeSame_140 (c14 G h n z (d - 1) hn (by omega)) k_M_lies ml_M_293.1 ml_M_293.2.1 ml_M_293.2.2.1 ml_M_293.2.2.2.1 ml_M_293.2.2.2.2 (by omega) mm_26 (by omega) (Nat.le_of_ble_eq_true rfl) ?_
          refine vv_if_eq (pc := 143) (tgt := 148) d_M_makeSame_143 rfl (fun hc => ?_) (fun hc => ?_)
          · replace w := w.1 hc
            exact vv_sub [2, 3, 4, 5, 6, 7, 1, 0] rfl (w G h n z d hn hd)
          · replace w := w.2 hc
            refine vv_iconst (pc := 146) (v := 0) d_M_makeSame_146 rfl ?_
            obtain ⟨rfl, rfl, hx⟩ := w
            exact vv_zret (pc := 147) d_M_makeSame_147 rfl hx
  · replace w := w.2 hc
    refine vv_iload (pc := 86) d_M_makeSame_86 rfl ?_
    refine vv_goto (pc := 88) (tgt := 93) d_M_makeSame_88 rfl ?_
    refine vv_istore (pc := 93) d_M_makeSame_93 (Nat.le_of_ble_eq_true rfl) ?_
    refine vv_aload_n (pc := 95) d_M_makeSame_95 rfl ?_
    refine ww_gr (pc := 96) 36 52 d_M_makeSame_96 fl_M_85 (by omega) rfl (by decide) ?_
    refine vv_iload (pc := 99) d_M_makeSame_99 rfl ?_
    obtain ⟨b17, w⟩ := w
    refine ww_ld (pc := 101) 52 d_M_makeSame_101 (by omega) (by decide) b17 ?_
    refine vv_iconst (pc := 102) (v := 2) d_M_makeSame_102 rfl ?_
    refine vv_icmp_ne (pc := 103) (tgt := 111) d_M_makeSame_103 rfl (fun hc => ?_) (fun hc => ?_)
    · replace w := w.1 hc
      refine vv_iload (pc := 111) d_M_makeSame_111 rfl ?_
      refine vv_istore (pc := 113) d_M_makeSame_113 (Nat.le_of_ble_eq_true rfl) ?_
      refine vv_aload_n (pc := 115) d_M_makeSame_115 rfl ?_
      refine ww_gr (pc := 116) 36 52 d_M_makeSame_116 fl_M_85 (by omega) rfl (by decide) ?_
      refine vv_iload (pc := 119) d_M_makeSame_119 rfl ?_
      obtain ⟨b18, w⟩ := w
      refine ww_ld (pc := 121) 52 d_M_makeSame_121 (by omega) (by decide) b18 ?_
      refine vv_iconst (pc := 122) (v := 3) d_M_makeSame_122 rfl ?_
      refine vv_icmp_ne (pc := 123) (tgt := 148) d_M_makeSame_123 rfl (fun hc => ?_) (fun hc => ?_)
      · replace w := w.1 hc
        exact vv_sub [2, 3, 4, 5, 6, 7, 1, 0] rfl (w G h n z d hn hd)
      · replace w := w.2 hc
        refine vv_aload_n (pc := 126) d_M_makeSame_126 rfl ?_
        refine vv_iload (pc := 127) d_M_makeSame_127 rfl ?_
        obtain ⟨r21, T20, c19, w⟩ := w
        refine vv_callV (pc := 129) (As := [.int x4]) d_M_makeSame_129 (c19 G h n z (d - 1) hn (by omega)) k_M_isLarge ml_M_290.1 ml_M_290.2.1 ml_M_290.2.2.1 ml_M_290.2.2.2.1 ml_M_290.2.2.2.2 (by omega) mm_26 (by omega) (Nat.le_of_ble_eq_true rfl) ?_
        refine vv_if_ne (pc := 132) (tgt := 146) d_M_makeSame_132 rfl (fun hc => ?_) (fun hc => ?_)
        · replace w := w.1 hc
          refine vv_iconst (pc := 146) (v := 0) d_M_makeSame_146 rfl ?_
          obtain ⟨rfl, rfl, hx⟩ := w
          exact vv_zret (pc := 147) d_M_makeSame_147 rfl hx
        · replace w := w.2 hc
          refine vv_aload_n (pc := 135) d_M_makeSame_135 rfl ?_
          refine vv_iload (pc := 136) d_M_makeSame_136 rfl ?_
          refine vv_iload (pc := 138) d_M_makeSame_138 rfl ?_
          obtain ⟨r24, T23, c22, w⟩ := w
          refine vv_callV (pc := 140) (As := [.int x4, .int x4]) d_M_makeSame_140 (c22 G h n z (d - 1) hn (by omega)) k_M_lies ml_M_293.1 ml_M_293.2.1 ml_M_293.2.2.1 ml_M_293.2.2.2.1 ml_M_293.2.2.2.2 (by omega) mm_26 (by omega) (Nat.le_of_ble_eq_true rfl) ?_
          refine vv_if_eq (pc := 143) (tgt := 148) d_M_makeSame_143 rfl (fun hc => ?_) (fun hc => ?_)
          · replace w := w.1 hc
            exact vv_sub [2, 3, 4, 5, 6, 7, 1, 0] rfl (w G h n z d hn hd)
          · replace w := w.2 hc
            refine vv_iconst (pc := 146) (v := 0) d_M_makeSame_146 rfl ?_
            obtain ⟨rfl, rfl, hx⟩ := w
            exact vv_zret (pc := 147) d_M_makeSame_147 rfl hx
    · replace w := w.2 hc
      refine vv_iload (pc := 106) d_M_makeSame_106 rfl ?_
      refine vv_goto (pc := 108) (tgt := 113) d_M_makeSame_108 rfl ?_
      refine vv_istore (pc := 113) d_M_makeSame_113 (Nat.le_of_ble_eq_true rfl) ?_
      refine vv_aload_n (pc := 115) d_M_makeSame_115 rfl ?_
      refine ww_gr (pc := 116) 36 52 d_M_makeSame_116 fl_M_85 (by omega) rfl (by decide) ?_
      refine vv_iload (pc := 119) d_M_makeSame_119 rfl ?_
      obtain ⟨b25, w⟩ := w
      refine ww_ld (pc := 121) 52 d_M_makeSame_121 (by omega) (by decide) b25 ?_
      refine vv_iconst (pc := 122) (v := 3) d_M_makeSame_122 rfl ?_
      refine vv_icmp_ne (pc := 123) (tgt := 148) d_M_makeSame_123 rfl (fun hc => ?_) (fun hc => ?_)
      · replace w := w.1 hc
        exact vv_sub [2, 3, 4, 5, 6, 7, 1, 0] rfl (w G h n z d hn hd)
      · replace w := w.2 hc
        refine vv_aload_n (pc := 126) d_M_makeSame_126 rfl ?_
        refine vv_iload (pc := 127) d_M_makeSame_127 rfl ?_
        obtain ⟨r28, T27, c26, w⟩ := w
        refine vv_callV (pc := 129) (As := [.int x5]) d_M_makeSame_129 (c26 G h n z (d - 1) hn (by omega)) k_M_isLarge ml_M_290.1 ml_M_290.2.1 ml_M_290.2.2.1 ml_M_290.2.2.2.1 ml_M_290.2.2.2.2 (by omega) mm_26 (by omega) (Nat.le_of_ble_eq_true rfl) ?_
        refine vv_if_ne (pc := 132) (tgt := 146) d_M_makeSame_132 rfl (fun hc => ?_) (fun hc => ?_)
        · replace w := w.1 hc
          refine vv_iconst (pc := 146) (v := 0) d_M_makeSame_146 rfl ?_
          obtain ⟨rfl, rfl, hx⟩ := w
          exact vv_zret (pc := 147) d_M_makeSame_147 rfl hx
        · replace w := w.2 hc
          refine vv_aload_n (pc := 135) d_M_makeSame_135 rfl ?_
          refine vv_iload (pc := 136) d_M_makeSame_136 rfl ?_
          refine vv_iload (pc := 138) d_M_makeSame_138 rfl ?_
          obtain ⟨r31, T30, c29, w⟩ := w
          refine vv_callV (pc := 140) (As := [.int x4, .int x5]) d_M_makeSame_140 (c29 G h n z (d - 1) hn (by omega)) k_M_lies ml_M_293.1 ml_M_293.2.1 ml_M_293.2.2.1 ml_M_293.2.2.2.1 ml_M_293.2.2.2.2 (by omega) mm_26 (by omega) (Nat.le_of_ble_eq_true rfl) ?_
          refine vv_if_eq (pc := 143) (tgt := 148) d_M_makeSame_143 rfl (fun hc => ?_) (fun hc => ?_)
          · replace w := w.1 hc
            exact vv_sub [2, 3, 4, 5, 6, 7, 1, 0] rfl (w G h n z d hn hd)
          · replace w := w.2 hc
            refine vv_iconst (pc := 146) (v := 0) d_M_makeSame_146 rfl ?_
            obtain ⟨rfl, rfl, hx⟩ := w
            exact vv_zret (pc := 147) d_M_makeSame_147 rfl hx
def wp_M_makeSame_148 (o : Option Value) (S' : cp_S) (S : cp_S) (x1 : Int32) (x2 : Int32) (x3 : Int32) (x4 : Int32) (x5 : Int32) (x6 : Int32) (x7 : Int32) : Prop := (((x4 : Int32) = x5 → JJ 3 m_M_makeSame o S' 174 [(1, .int x1), (2, .int x2), (3, .int x3), (4, .int x4), (5, .int x5), (6, .int x6), (7, .int x7)] S) ∧ (¬ (x4 : Int32) = x5 → vp_in x6 (cp_ml 53) ∧ JJ 3 m_M_makeSame o S' 174 [(1, .int x1), (2, .int x2), (3, .int x3), (4, .int x4), (5, .int x5), (6, .int x6), (7, .int x7)] ((va_up S.1 42 ((S.1 42) + 1)), (va_up S.2 53 (upd (S.2 53) (Int32.toNatClampNeg x6) x7)))))
theorem b_M_makeSame_148 {o : Option Value} {S' S : cp_S} {x1 : Int32} {x2 : Int32} {x3 : Int32} {x4 : Int32} {x5 : Int32} {x6 : Int32} {x7 : Int32} (w : wp_M_makeSame_148 o S' S x1 x2 x3 x4 x5 x6 x7) : JJ 3 m_M_makeSame o S' 148 [(1, .int x1), (2, .int x2), (3, .int x3), (4, .int x4), (5, .int x5), (6, .int x6), (7, .int x7)] S := by
  unfold wp_M_makeSame_148 at w
  intro G h n z d hn hd
  refine vv_iload (pc := 148) d_M_makeSame_148 rfl ?_
  refine vv_iload (pc := 150) d_M_makeSame_150 rfl ?_
  refine vv_icmp_eq (pc := 152) (tgt := 174) d_M_makeSame_152 rfl (fun hc => ?_) (fun hc => ?_)
  · replace w := w.1 hc
    exact vv_sub [0, 1, 2, 3, 4, 5, 6, 7] rfl (w G h n z d hn hd)
  · replace w := w.2 hc
    refine vv_aload_n (pc := 155) d_M_makeSame_155 rfl ?_
    refine ww_gr (pc := 156) 37 53 d_M_makeSame_156 fl_M_88 (by omega) rfl (by decide) ?_
    refine vv_iload (pc := 159) d_M_makeSame_159 rfl ?_
    refine vv_iload (pc := 161) d_M_makeSame_161 rfl ?_
    obtain ⟨b1, w⟩ := w
    refine ww_st (pc := 163) 53 d_M_makeSame_163 (by omega) (by decide) b1 ?_
    refine vv_aload_n (pc := 164) d_M_makeSame_164 rfl ?_
    refine vv_dup (pc := 165) d_M_makeSame_165 rfl ?_
    refine ww_gi (pc := 166) 42 d_M_makeSame_166 fl_M_265 (by omega) rfl ?_
    refine vv_iconst (pc := 169) (v := 1) d_M_makeSame_169 rfl ?_
    refine vv_iadd (pc := 170) d_M_makeSame_170 ?_
    refine ww_pi (pc := 171) 42 d_M_makeSame_171 fl_M_265 (by omega) rfl rfl rfl rfl ?_
    exact vv_sub [0, 1, 2, 3, 4, 5, 6, 7] rfl (w G h n z d hn hd)
def wp_M_makeSame_174 (o : Option Value) (S' : cp_S) (S : cp_S) (x1 : Int32) (x2 : Int32) (x3 : Int32) (x4 : Int32) (x5 : Int32) (x6 : Int32) (x7 : Int32) : Prop := JJ 3 m_M_makeSame o S' 193 [(1, .int x1), (2, .int x2), (3, .int (x3 + (-1))), (4, .int x4), (5, .int x5)] S
theorem b_M_makeSame_174 {o : Option Value} {S' S : cp_S} {x1 : Int32} {x2 : Int32} {x3 : Int32} {x4 : Int32} {x5 : Int32} {x6 : Int32} {x7 : Int32} (w : wp_M_makeSame_174 o S' S x1 x2 x3 x4 x5 x6 x7) : JJ 3 m_M_makeSame o S' 174 [(1, .int x1), (2, .int x2), (3, .int x3), (4, .int x4), (5, .int x5), (6, .int x6), (7, .int x7)] S := by
  unfold wp_M_makeSame_174 at w
  intro G h n z d hn hd
  refine vv_iinc (pc := 174) (v := (x3 + (-1))) d_M_makeSame_174 rfl rfl (Nat.le_of_ble_eq_true rfl) ?_
  refine vv_goto (pc := 177) (tgt := 193) d_M_makeSame_177 rfl ?_
  exact vv_sub [1, 2, 3, 0, 4, 5] rfl (w G h n z d hn hd)
def wp_M_makeSame_193 (o : Option Value) (S' : cp_S) (S : cp_S) (x1 : Int32) (x2 : Int32) (x3 : Int32) (x4 : Int32) (x5 : Int32) : Prop := ∃ r3 T2, MC 1 m_M_nextPair [.int x3] S (some (.int r3)) T2 ∧ JJ 3 m_M_makeSame o S' 7 [(1, .int x1), (2, .int x2), (3, .int r3)] T2
theorem b_M_makeSame_193 {o : Option Value} {S' S : cp_S} {x1 : Int32} {x2 : Int32} {x3 : Int32} {x4 : Int32} {x5 : Int32} (w : wp_M_makeSame_193 o S' S x1 x2 x3 x4 x5) : JJ 3 m_M_makeSame o S' 193 [(1, .int x1), (2, .int x2), (3, .int x3), (4, .int x4), (5, .int x5)] S := by
  unfold wp_M_makeSame_193 at w
  intro G h n z d hn hd
  refine vv_aload_n (pc := 193) d_M_makeSame_193 rfl ?_
  refine vv_iload_n (pc := 194) d_M_makeSame_194 rfl ?_
  obtain ⟨r3, T2, c1, w⟩ := w
  refine vv_callV (pc := 195) (As := [.int x3]) d_M_makeSame_195 (c1 G h n z (d - 1) hn (by omega)) k_M_nextPair ml_M_299.1 ml_M_299.2.1 ml_M_299.2.2.1 ml_M_299.2.2.2.1 ml_M_299.2.2.2.2 (by omega) mm_26 (by omega) (Nat.le_of_ble_eq_true rfl) ?_
  refine vv_istore_n (pc := 198) d_M_makeSame_198 (Nat.le_of_ble_eq_true rfl) ?_
  refine vv_goto (pc := 199) (tgt := 7) d_M_makeSame_199 rfl ?_
  exact vv_sub [1, 2, 3, 0] rfl (w G h n z d hn hd)
def wp_M_draw_0 (o : Option Value) (S' : cp_S) (S : cp_S) (x1 : Int32) : Prop := ∃ r3 T2, MC 1 m_M_setOut [.int x1] ((va_up (va_up S.1 75 0) 74 0), S.2) (some (.int r3)) T2 ∧ vp_in 0 (cp_ml 61) ∧ ∃ r7 T6, MC 0 m_M_drawOne [.int ((T2.2 61) (Int32.toNatClampNeg 0)), .int 0] T2 (some (.int r7)) T6 ∧ JJ 2 m_M_draw o S' 28 [(1, .int x1), (2, .int r3), (3, .int r7)] T6
theorem b_M_draw_0 {o : Option Value} {S' S : cp_S} {x1 : Int32} (w : wp_M_draw_0 o S' S x1) : JJ 2 m_M_draw o S' 0 [(1, .int x1)] S := by
  unfold wp_M_draw_0 at w
  intro G h n z d hn hd
  refine vv_aload_n (pc := 0) d_M_draw_0 rfl ?_
  refine vv_iconst (pc := 1) (v := 0) d_M_draw_1 rfl ?_
  refine ww_pi (pc := 2) 75 d_M_draw_2 fl_M_302 (by omega) rfl rfl rfl rfl ?_
  refine vv_aload_n (pc := 5) d_M_draw_5 rfl ?_
  refine vv_iconst (pc := 6) (v := 0) d_M_draw_6 rfl ?_
  refine ww_pi (pc := 7) 74 d_M_draw_7 fl_M_305 (by omega) rfl rfl rfl rfl ?_
  refine vv_aload_n (pc := 10) d_M_draw_10 rfl ?_
  refine vv_iload_n (pc := 11) d_M_draw_11 rfl ?_
  obtain ⟨r3, T2, c1, w⟩ := w
  refine vv_callV (pc := 12) (As := [.int x1]) d_M_draw_12 (c1 G h n z (d - 1) hn (by omega)) k_M_setOut ml_M_278.1 ml_M_278.2.1 ml_M_278.2.2.1 ml_M_278.2.2.2.1 ml_M_278.2.2.2.2 (by omega) mm_26 (by omega) (Nat.le_of_ble_eq_true rfl) ?_
  refine vv_istore_n (pc := 15) d_M_draw_15 (Nat.le_of_ble_eq_true rfl) ?_
  refine vv_aload_n (pc := 16) d_M_draw_16 rfl ?_
  refine vv_aload_n (pc := 17) d_M_draw_17 rfl ?_
  refine ww_gr (pc := 18) 48 61 d_M_draw_18 fl_M_112 (by omega) rfl (by decide) ?_
  refine vv_iconst (pc := 21) (v := 0) d_M_draw_21 rfl ?_
  obtain ⟨b4, w⟩ := w
  refine ww_ld (pc := 22) 61 d_M_draw_22 (by omega) (by decide) b4 ?_
  refine vv_iconst (pc := 23) (v := 0) d_M_draw_23 rfl ?_
  obtain ⟨r7, T6, c5, w⟩ := w
  refine vv_callV (pc := 24) (As := [.int ((T2.2 61) (Int32.toNatClampNeg 0)), .int 0]) d_M_draw_24 (c5 G h n z (d - 1) hn (by omega)) k_M_drawOne ml_M_309.1 ml_M_309.2.1 ml_M_309.2.2.1 ml_M_309.2.2.2.1 ml_M_309.2.2.2.2 (by omega) mm_26 (by omega) (Nat.le_of_ble_eq_true rfl) ?_
  refine vv_istore_n (pc := 27) d_M_draw_27 (Nat.le_of_ble_eq_true rfl) ?_
  exact vv_sub [2, 3, 1, 0] rfl (w G h n z d hn hd)
theorem c_M_draw {o : Option Value} {S' S : cp_S} {x1 : Int32} (w : JJ 2 m_M_draw o S' 0 [(1, .int x1)] S) : MC 2 m_M_draw [.int x1] S o S' := fun G h n z d hn hd => cp_C.of rfl (Nat.le_of_ble_eq_true rfl) (w G h n z d hn hd)
def wp_M_draw_28 (o : Option Value) (S' : cp_S) (S : cp_S) (x1 : Int32) (x2 : Int32) (x3 : Int32) : Prop := (((x2 : Int32) ≤ 0 → (((x3 : Int32) ≤ 100 → (o = some (.int x3) ∧ S' = S)) ∧ (¬ (x3 : Int32) ≤ 100 → (o = some (.int (-200)) ∧ S' = S)))) ∧ (¬ (x2 : Int32) ≤ 0 → ((100 < (x3 : Int32) → (((x3 : Int32) ≤ 100 → (o = some (.int x3) ∧ S' = S)) ∧ (¬ (x3 : Int32) ≤ 100 → (o = some (.int (-200)) ∧ S' = S)))) ∧ (¬ 100 < (x3 : Int32) → vp_in (x2 - 1) (cp_ml 61) ∧ vp_in (x2 - 1) (cp_ml 62) ∧ vp_in ((S.2 61) (Int32.toNatClampNeg (x2 - 1))) (cp_ml 55) ∧ ((((S.2 55) (Int32.toNatClampNeg ((S.2 61) (Int32.toNatClampNeg (x2 - 1))))) ≤ (((S.2 62) (Int32.toNatClampNeg (x2 - 1))) : Int32) → vp_in ((S.2 61) (Int32.toNatClampNeg (x2 - 1))) (cp_ml 55) ∧ (((((S.2 55) (Int32.toNatClampNeg ((S.2 61) (Int32.toNatClampNeg (x2 - 1))))) : Int32) ≤ 0 → JJ 2 m_M_draw o S' 110 [(1, .int x1), (2, .int x2), (3, .int x3), (4, .int ((S.2 61) (Int32.toNatClampNeg (x2 - 1))))] S) ∧ (¬ (((S.2 55) (Int32.toNatClampNeg ((S.2 61) (Int32.toNatClampNeg (x2 - 1))))) : Int32) ≤ 0 → vp_in x3 (cp_ml 29) ∧ JJ 2 m_M_draw o S' 110 [(1, .int x1), (2, .int x2), (3, .int (x3 + 1)), (4, .int ((S.2 61) (Int32.toNatClampNeg (x2 - 1))))] (S.1, (va_up S.2 29 (upd (S.2 29) (Int32.toNatClampNeg x3) 41)))))) ∧ (¬ ((S.2 55) (Int32.toNatClampNeg ((S.2 61) (Int32.toNatClampNeg (x2 - 1))))) ≤ (((S.2 62) (Int32.toNatClampNeg (x2 - 1))) : Int32) → ∃ r8 T7, MC 1 m_M_further [.int x2] S (some (.int r8)) T7 ∧ vp_in (r8 - 1) (cp_ml 61) ∧ ∃ r12 T11, MC 0 m_M_drawOne [.int ((T7.2 61) (Int32.toNatClampNeg (r8 - 1))), .int x3] T7 (some (.int r12)) T11 ∧ JJ 2 m_M_draw o S' 113 [(1, .int x1), (2, .int r8), (3, .int r12), (4, .int ((S.2 61) (Int32.toNatClampNeg (x2 - 1))))] T11))))))
theorem b_M_draw_28 {o : Option Value} {S' S : cp_S} {x1 : Int32} {x2 : Int32} {x3 : Int32} (w : wp_M_draw_28 o S' S x1 x2 x3) : JJ 2 m_M_draw o S' 28 [(1, .int x1), (2, .int x2), (3, .int x3)] S := by
  unfold wp_M_draw_28 at w
  intro G h n z d hn hd
  refine vv_iload_n (pc := 28) d_M_draw_28 rfl ?_
  refine vv_if_le (pc := 29) (tgt := 116) d_M_draw_29 rfl (fun hc => ?_) (fun hc => ?_)
  · replace w := w.1 hc
    refine vv_iload_n (pc := 116) d_M_draw_116 rfl ?_
    refine vv_bipush (pc := 117) (v := 100) d_M_draw_117 rfl ?_
    refine vv_icmp_le (pc := 119) (tgt := 128) d_M_draw_119 rfl (fun hc => ?_) (fun hc => ?_)
    · replace w := w.1 hc
      refine vv_iload_n (pc := 128) d_M_draw_128 rfl ?_
      obtain ⟨rfl, rfl⟩ := w
      exact vv_iret (pc := 129) d_M_draw_129 rfl
    · replace w := w.2 hc
      refine vv_sipush (pc := 122) (v := (-200)) d_M_draw_122 rfl ?_
      refine vv_goto (pc := 125) (tgt := 129) d_M_draw_125 rfl ?_
      obtain ⟨rfl, rfl⟩ := w
      exact vv_iret (pc := 129) d_M_draw_129 rfl
  · replace w := w.2 hc
    refine vv_iload_n (pc := 32) d_M_draw_32 rfl ?_
    refine vv_bipush (pc := 33) (v := 100) d_M_draw_33 rfl ?_
    refine vv_icmp_gt (pc := 35) (tgt := 116) d_M_draw_35 rfl (fun hc => ?_) (fun hc => ?_)
    · replace w := w.1 hc
      refine vv_iload_n (pc := 116) d_M_draw_116 rfl ?_
      refine vv_bipush (pc := 117) (v := 100) d_M_draw_117 rfl ?_
      refine vv_icmp_le (pc := 119) (tgt := 128) d_M_draw_119 rfl (fun hc => ?_) (fun hc => ?_)
      · replace w := w.1 hc
        refine vv_iload_n (pc := 128) d_M_draw_128 rfl ?_
        obtain ⟨rfl, rfl⟩ := w
        exact vv_iret (pc := 129) d_M_draw_129 rfl
      · replace w := w.2 hc
        refine vv_sipush (pc := 122) (v := (-200)) d_M_draw_122 rfl ?_
        refine vv_goto (pc := 125) (tgt := 129) d_M_draw_125 rfl ?_
        obtain ⟨rfl, rfl⟩ := w
        exact vv_iret (pc := 129) d_M_draw_129 rfl
    · replace w := w.2 hc
      refine vv_aload_n (pc := 38) d_M_draw_38 rfl ?_
      refine ww_gr (pc := 39) 48 61 d_M_draw_39 fl_M_112 (by omega) rfl (by decide) ?_
      refine vv_iload_n (pc := 42) d_M_draw_42 rfl ?_
      refine vv_iconst (pc := 43) (v := 1) d_M_draw_43 rfl ?_
      refine vv_isub (pc := 44) d_M_draw_44 ?_
      obtain ⟨b1, w⟩ := w
      refine ww_ld (pc := 45) 61 d_M_draw_45 (by omega) (by decide) b1 ?_
      refine vv_istore (pc := 46) d_M_draw_46 (Nat.le_of_ble_eq_true rfl) ?_
      refine vv_aload_n (pc := 48) d_M_draw_48 rfl ?_
      refine ww_gr (pc := 49) 49 62 d_M_draw_49 fl_M_115 (by omega) rfl (by decide) ?_
      refine vv_iload_n (pc := 52) d_M_draw_52 rfl ?_
      refine vv_iconst (pc := 53) (v := 1) d_M_draw_53 rfl ?_
      refine vv_isub (pc := 54) d_M_draw_54 ?_
      obtain ⟨b2, w⟩ := w
      refine ww_ld (pc := 55) 62 d_M_draw_55 (by omega) (by decide) b2 ?_
      refine vv_aload_n (pc := 56) d_M_draw_56 rfl ?_
      refine ww_gr (pc := 57) 39 55 d_M_draw_57 fl_M_94 (by omega) rfl (by decide) ?_
      refine vv_iload (pc := 60) d_M_draw_60 rfl ?_
      obtain ⟨b3, w⟩ := w
      refine ww_ld (pc := 62) 55 d_M_draw_62 (by omega) (by decide) b3 ?_
      refine vv_icmp_ge (pc := 63) (tgt := 89) d_M_draw_63 rfl (fun hc => ?_) (fun hc => ?_)
      · replace w := w.1 hc
        refine vv_aload_n (pc := 89) d_M_draw_89 rfl ?_
        refine ww_gr (pc := 90) 39 55 d_M_draw_90 fl_M_94 (by omega) rfl (by decide) ?_
        refine vv_iload (pc := 93) d_M_draw_93 rfl ?_
        obtain ⟨b4, w⟩ := w
        refine ww_ld (pc := 95) 55 d_M_draw_95 (by omega) (by decide) b4 ?_
        refine vv_if_le (pc := 96) (tgt := 110) d_M_draw_96 rfl (fun hc => ?_) (fun hc => ?_)
        · replace w := w.1 hc
          exact vv_sub [1, 2, 3, 4, 0] rfl (w G h n z d hn hd)
        · replace w := w.2 hc
          refine vv_aload_n (pc := 99) d_M_draw_99 rfl ?_
          refine ww_gr (pc := 100) 5 29 d_M_draw_100 fl_M_16 (by omega) rfl (by decide) ?_
          refine vv_iload_n (pc := 103) d_M_draw_103 rfl ?_
          refine vv_bipush (pc := 104) (v := 41) d_M_draw_104 rfl ?_
          obtain ⟨b5, w⟩ := w
          refine ww_st (pc := 106) 29 d_M_draw_106 (by omega) (by decide) b5 ?_
          refine vv_iinc (pc := 107) (v := (x3 + 1)) d_M_draw_107 rfl rfl (Nat.le_of_ble_eq_true rfl) ?_
          exact vv_sub [2, 3, 4, 0, 1] rfl (w G h n z d hn hd)
      · replace w := w.2 hc
        refine vv_aload_n (pc := 66) d_M_draw_66 rfl ?_
        refine vv_iload_n (pc := 67) d_M_draw_67 rfl ?_
        obtain ⟨r8, T7, c6, w⟩ := w
        refine vv_callV (pc := 68) (As := [.int x2]) d_M_draw_68 (c6 G h n z (d - 1) hn (by omega)) k_M_further ml_M_281.1 ml_M_281.2.1 ml_M_281.2.2.1 ml_M_281.2.2.2.1 ml_M_281.2.2.2.2 (by omega) mm_26 (by omega) (Nat.le_of_ble_eq_true rfl) ?_
        refine vv_istore_n (pc := 71) d_M_draw_71 (Nat.le_of_ble_eq_true rfl) ?_
        refine vv_aload_n (pc := 72) d_M_draw_72 rfl ?_
        refine vv_aload_n (pc := 73) d_M_draw_73 rfl ?_
        refine ww_gr (pc := 74) 48 61 d_M_draw_74 fl_M_112 (by omega) rfl (by decide) ?_
        refine vv_iload_n (pc := 77) d_M_draw_77 rfl ?_
        refine vv_iconst (pc := 78) (v := 1) d_M_draw_78 rfl ?_
        refine vv_isub (pc := 79) d_M_draw_79 ?_
        obtain ⟨b9, w⟩ := w
        refine ww_ld (pc := 80) 61 d_M_draw_80 (by omega) (by decide) b9 ?_
        refine vv_iload_n (pc := 81) d_M_draw_81 rfl ?_
        obtain ⟨r12, T11, c10, w⟩ := w
        refine vv_callV (pc := 82) (As := [.int ((T7.2 61) (Int32.toNatClampNeg (r8 - 1))), .int x3]) d_M_draw_82 (c10 G h n z (d - 1) hn (by omega)) k_M_drawOne ml_M_309.1 ml_M_309.2.1 ml_M_309.2.2.1 ml_M_309.2.2.2.1 ml_M_309.2.2.2.2 (by omega) mm_26 (by omega) (Nat.le_of_ble_eq_true rfl) ?_
        refine vv_istore_n (pc := 85) d_M_draw_85 (Nat.le_of_ble_eq_true rfl) ?_
        refine vv_goto (pc := 86) (tgt := 113) d_M_draw_86 rfl ?_
        exact vv_sub [3, 4, 1, 0, 2] rfl (w G h n z d hn hd)
def wp_M_draw_110 (o : Option Value) (S' : cp_S) (S : cp_S) (x1 : Int32) (x2 : Int32) (x3 : Int32) (x4 : Int32) : Prop := JJ 2 m_M_draw o S' 113 [(1, .int x1), (2, .int (x2 + (-1))), (3, .int x3), (4, .int x4)] S
theorem b_M_draw_110 {o : Option Value} {S' S : cp_S} {x1 : Int32} {x2 : Int32} {x3 : Int32} {x4 : Int32} (w : wp_M_draw_110 o S' S x1 x2 x3 x4) : JJ 2 m_M_draw o S' 110 [(1, .int x1), (2, .int x2), (3, .int x3), (4, .int x4)] S := by
  unfold wp_M_draw_110 at w
  intro G h n z d hn hd
  refine vv_iinc (pc := 110) (v := (x2 + (-1))) d_M_draw_110 rfl rfl (Nat.le_of_ble_eq_true rfl) ?_
  exact vv_sub [1, 2, 0, 3, 4] rfl (w G h n z d hn hd)
def wp_M_draw_113 (o : Option Value) (S' : cp_S) (S : cp_S) (x1 : Int32) (x2 : Int32) (x3 : Int32) (x4 : Int32) : Prop := JJ 2 m_M_draw o S' 28 [(1, .int x1), (2, .int x2), (3, .int x3)] S
theorem b_M_draw_113 {o : Option Value} {S' S : cp_S} {x1 : Int32} {x2 : Int32} {x3 : Int32} {x4 : Int32} (w : wp_M_draw_113 o S' S x1 x2 x3 x4) : JJ 2 m_M_draw o S' 113 [(1, .int x1), (2, .int x2), (3, .int x3), (4, .int x4)] S := by
  unfold wp_M_draw_113 at w
  intro G h n z d hn hd
  refine vv_goto (pc := 113) (tgt := 28) d_M_draw_113 rfl ?_
  exact vv_sub [0, 1, 2, 3] rfl (w G h n z d hn hd)
def wp_M_show_0 (o : Option Value) (S' : cp_S) (S : cp_S) (x1 : Int32) : Prop := JJ 0 m_M_show o S' 2 [(1, .int x1), (2, .int 0)] S
theorem b_M_show_0 {o : Option Value} {S' S : cp_S} {x1 : Int32} (w : wp_M_show_0 o S' S x1) : JJ 0 m_M_show o S' 0 [(1, .int x1)] S := by
  unfold wp_M_show_0 at w
  intro G h n z d hn hd
  refine vv_iconst (pc := 0) (v := 0) d_M_show_0 rfl ?_
  refine vv_istore_n (pc := 1) d_M_show_1 (Nat.le_of_ble_eq_true rfl) ?_
  exact vv_sub [1, 2, 0] rfl (w G h n z d hn hd)
theorem c_M_show {o : Option Value} {S' S : cp_S} {x1 : Int32} (w : JJ 0 m_M_show o S' 0 [(1, .int x1)] S) : MC 0 m_M_show [.int x1] S o S' := fun G h n z d hn hd => cp_C.of rfl (Nat.le_of_ble_eq_true rfl) (w G h n z d hn hd)
def wp_M_show_2 (o : Option Value) (S' : cp_S) (S : cp_S) (x1 : Int32) (x2 : Int32) : Prop := ((x1 ≤ (x2 : Int32) → (o = some (.int x1) ∧ S' = ((va_up S.1 3 x1), S.2))) ∧ (¬ x1 ≤ (x2 : Int32) → vp_in x2 (cp_ml 29) ∧ vp_in x2 (cp_ml 28) ∧ JJ 0 m_M_show o S' 2 [(1, .int x1), (2, .int (x2 + 1))] (S.1, (va_up S.2 28 (upd (S.2 28) (Int32.toNatClampNeg x2) ((S.2 29) (Int32.toNatClampNeg x2)))))))
theorem b_M_show_2 {o : Option Value} {S' S : cp_S} {x1 : Int32} {x2 : Int32} (w : wp_M_show_2 o S' S x1 x2) : JJ 0 m_M_show o S' 2 [(1, .int x1), (2, .int x2)] S := by
  unfold wp_M_show_2 at w
  intro G h n z d hn hd
  refine vv_iload_n (pc := 2) d_M_show_2 rfl ?_
  refine vv_iload_n (pc := 3) d_M_show_3 rfl ?_
  refine vv_icmp_ge (pc := 4) (tgt := 25) d_M_show_4 rfl (fun hc => ?_) (fun hc => ?_)
  · replace w := w.1 hc
    refine vv_aload_n (pc := 25) d_M_show_25 rfl ?_
    refine vv_iload_n (pc := 26) d_M_show_26 rfl ?_
    refine ww_pi (pc := 27) 3 d_M_show_27 fl_M_314 (by omega) rfl rfl rfl rfl ?_
    refine vv_iload_n (pc := 30) d_M_show_30 rfl ?_
    obtain ⟨rfl, rfl⟩ := w
    exact vv_iret (pc := 31) d_M_show_31 rfl
  · replace w := w.2 hc
    refine vv_aload_n (pc := 7) d_M_show_7 rfl ?_
    refine ww_gr (pc := 8) 4 28 d_M_show_8 fl_M_13 (by omega) rfl (by decide) ?_
    refine vv_iload_n (pc := 11) d_M_show_11 rfl ?_
    refine vv_aload_n (pc := 12) d_M_show_12 rfl ?_
    refine ww_gr (pc := 13) 5 29 d_M_show_13 fl_M_16 (by omega) rfl (by decide) ?_
    refine vv_iload_n (pc := 16) d_M_show_16 rfl ?_
    obtain ⟨b1, w⟩ := w
    refine ww_ld (pc := 17) 29 d_M_show_17 (by omega) (by decide) b1 ?_
    obtain ⟨b2, w⟩ := w
    refine ww_st (pc := 18) 28 d_M_show_18 (by omega) (by decide) b2 ?_
    refine vv_iinc (pc := 19) (v := (x2 + 1)) d_M_show_19 rfl rfl (Nat.le_of_ble_eq_true rfl) ?_
    refine vv_goto (pc := 22) (tgt := 2) d_M_show_22 rfl ?_
    exact vv_sub [1, 2, 0] rfl (w G h n z d hn hd)
def wp_M_bind_0 (o : Option Value) (S' : cp_S) (S : cp_S) (x1 : Int32) (x2 : Int32) (x3 : Int32) : Prop := vp_in (S.1 70) (cp_ml 76) ∧ vp_in (S.1 70) (cp_ml 77) ∧ vp_in (S.1 70) (cp_ml 78) ∧ (o = none ∧ S' = ((va_up S.1 70 ((S.1 70) + 1)), (va_up (va_up (va_up S.2 76 (upd (S.2 76) (Int32.toNatClampNeg (S.1 70)) x1)) 77 (upd (S.2 77) (Int32.toNatClampNeg (S.1 70)) x2)) 78 (upd (S.2 78) (Int32.toNatClampNeg (S.1 70)) x3))))
theorem b_M_bind_0 {o : Option Value} {S' S : cp_S} {x1 : Int32} {x2 : Int32} {x3 : Int32} (w : wp_M_bind_0 o S' S x1 x2 x3) : JJ 0 m_M_bind o S' 0 [(1, .int x1), (2, .int x2), (3, .int x3)] S := by
  unfold wp_M_bind_0 at w
  intro G h n z d hn hd
  refine vv_aload_n (pc := 0) d_M_bind_0 rfl ?_
  refine ww_gr (pc := 1) 71 76 d_M_bind_1 fl_M_157 (by omega) rfl (by decide) ?_
  refine vv_aload_n (pc := 4) d_M_bind_4 rfl ?_
  refine ww_gi (pc := 5) 70 d_M_bind_5 fl_M_317 (by omega) rfl ?_
  refine vv_iload_n (pc := 8) d_M_bind_8 rfl ?_
  obtain ⟨b1, w⟩ := w
  refine ww_st (pc := 9) 76 d_M_bind_9 (by omega) (by decide) b1 ?_
  refine vv_aload_n (pc := 10) d_M_bind_10 rfl ?_
  refine ww_gr (pc := 11) 72 77 d_M_bind_11 fl_M_160 (by omega) rfl (by decide) ?_
  refine vv_aload_n (pc := 14) d_M_bind_14 rfl ?_
  refine ww_gi (pc := 15) 70 d_M_bind_15 fl_M_317 (by omega) rfl ?_
  refine vv_iload_n (pc := 18) d_M_bind_18 rfl ?_
  obtain ⟨b2, w⟩ := w
  refine ww_st (pc := 19) 77 d_M_bind_19 (by omega) (by decide) b2 ?_
  refine vv_aload_n (pc := 20) d_M_bind_20 rfl ?_
  refine ww_gr (pc := 21) 73 78 d_M_bind_21 fl_M_163 (by omega) rfl (by decide) ?_
  refine vv_aload_n (pc := 24) d_M_bind_24 rfl ?_
  refine ww_gi (pc := 25) 70 d_M_bind_25 fl_M_317 (by omega) rfl ?_
  refine vv_iload_n (pc := 28) d_M_bind_28 rfl ?_
  obtain ⟨b3, w⟩ := w
  refine ww_st (pc := 29) 78 d_M_bind_29 (by omega) (by decide) b3 ?_
  refine vv_aload_n (pc := 30) d_M_bind_30 rfl ?_
  refine vv_dup (pc := 31) d_M_bind_31 rfl ?_
  refine ww_gi (pc := 32) 70 d_M_bind_32 fl_M_317 (by omega) rfl ?_
  refine vv_iconst (pc := 35) (v := 1) d_M_bind_35 rfl ?_
  refine vv_iadd (pc := 36) d_M_bind_36 ?_
  refine ww_pi (pc := 37) 70 d_M_bind_37 fl_M_317 (by omega) rfl rfl rfl rfl ?_
  obtain ⟨rfl, rfl⟩ := w
  exact vv_vret (pc := 40) d_M_bind_40 rfl
theorem c_M_bind {o : Option Value} {S' S : cp_S} {x1 : Int32} {x2 : Int32} {x3 : Int32} (w : JJ 0 m_M_bind o S' 0 [(1, .int x1), (2, .int x2), (3, .int x3)] S) : MC 0 m_M_bind [.int x1, .int x2, .int x3] S o S' := fun G h n z d hn hd => cp_C.of rfl (Nat.le_of_ble_eq_true rfl) (w G h n z d hn hd)
def wp_M_enter_0 (o : Option Value) (S' : cp_S) (S : cp_S) (x1 : Int32) (x2 : Int32) : Prop := ((((S.1 61) : Int32) = 100 → (o = none ∧ S' = ((va_up S.1 63 1), S.2))) ∧ (¬ ((S.1 61) : Int32) = 100 → ((¬ ((S.1 62) : Int32) = 30 → vp_in (S.1 62) (cp_ml 72) ∧ vp_in (S.1 62) (cp_ml 73) ∧ vp_in (S.1 62) (cp_ml 74) ∧ (o = none ∧ S' = ((va_up (va_up (va_up S.1 61 ((S.1 61) + 1)) 60 ((S.1 60) + 1)) 62 ((S.1 62) + 1)), (va_up (va_up (va_up S.2 72 (upd (S.2 72) (Int32.toNatClampNeg (S.1 62)) x1)) 73 (upd (S.2 73) (Int32.toNatClampNeg (S.1 62)) 0)) 74 (upd (S.2 74) (Int32.toNatClampNeg (S.1 62)) x2))))) ∧ (((S.1 62) : Int32) = 30 → (o = none ∧ S' = ((va_up S.1 63 1), S.2))))))
theorem b_M_enter_0 {o : Option Value} {S' S : cp_S} {x1 : Int32} {x2 : Int32} (w : wp_M_enter_0 o S' S x1 x2) : JJ 0 m_M_enter o S' 0 [(1, .int x1), (2, .int x2)] S := by
  unfold wp_M_enter_0 at w
  intro G h n z d hn hd
  refine vv_aload_n (pc := 0) d_M_enter_0 rfl ?_
  refine ww_gi (pc := 1) 61 d_M_enter_1 fl_M_320 (by omega) rfl ?_
  refine vv_bipush (pc := 4) (v := 100) d_M_enter_4 rfl ?_
  refine vv_icmp_eq (pc := 6) (tgt := 18) d_M_enter_6 rfl (fun hc => ?_) (fun hc => ?_)
  · replace w := w.1 hc
    refine vv_aload_n (pc := 18) d_M_enter_18 rfl ?_
    refine vv_iconst (pc := 19) (v := 1) d_M_enter_19 rfl ?_
    refine ww_pi (pc := 20) 63 d_M_enter_20 fl_M_326 (by omega) rfl rfl rfl rfl ?_
    obtain ⟨rfl, rfl⟩ := w
    exact vv_vret (pc := 23) d_M_enter_23 rfl
  · replace w := w.2 hc
    refine vv_aload_n (pc := 9) d_M_enter_9 rfl ?_
    refine ww_gi (pc := 10) 62 d_M_enter_10 fl_M_323 (by omega) rfl ?_
    refine vv_bipush (pc := 13) (v := 30) d_M_enter_13 rfl ?_
    refine vv_icmp_ne (pc := 15) (tgt := 24) d_M_enter_15 rfl (fun hc => ?_) (fun hc => ?_)
    · replace w := w.1 hc
      refine vv_aload_n (pc := 24) d_M_enter_24 rfl ?_
      refine vv_dup (pc := 25) d_M_enter_25 rfl ?_
      refine ww_gi (pc := 26) 61 d_M_enter_26 fl_M_320 (by omega) rfl ?_
      refine vv_iconst (pc := 29) (v := 1) d_M_enter_29 rfl ?_
      refine vv_iadd (pc := 30) d_M_enter_30 ?_
      refine ww_pi (pc := 31) 61 d_M_enter_31 fl_M_320 (by omega) rfl rfl rfl rfl ?_
      refine vv_aload_n (pc := 34) d_M_enter_34 rfl ?_
      refine vv_dup (pc := 35) d_M_enter_35 rfl ?_
      refine ww_gi (pc := 36) 60 d_M_enter_36 fl_M_329 (by omega) rfl ?_
      refine vv_iconst (pc := 39) (v := 1) d_M_enter_39 rfl ?_
      refine vv_iadd (pc := 40) d_M_enter_40 ?_
      refine ww_pi (pc := 41) 60 d_M_enter_41 fl_M_329 (by omega) rfl rfl rfl rfl ?_
      refine vv_aload_n (pc := 44) d_M_enter_44 rfl ?_
      refine ww_gr (pc := 45) 66 72 d_M_enter_45 fl_M_145 (by omega) rfl (by decide) ?_
      refine vv_aload_n (pc := 48) d_M_enter_48 rfl ?_
      refine ww_gi (pc := 49) 62 d_M_enter_49 fl_M_323 (by omega) rfl ?_
      refine vv_iload_n (pc := 52) d_M_enter_52 rfl ?_
      obtain ⟨b1, w⟩ := w
      refine ww_st (pc := 53) 72 d_M_enter_53 (by omega) (by decide) b1 ?_
      refine vv_aload_n (pc := 54) d_M_enter_54 rfl ?_
      refine ww_gr (pc := 55) 67 73 d_M_enter_55 fl_M_148 (by omega) rfl (by decide) ?_
      refine vv_aload_n (pc := 58) d_M_enter_58 rfl ?_
      refine ww_gi (pc := 59) 62 d_M_enter_59 fl_M_323 (by omega) rfl ?_
      refine vv_iconst (pc := 62) (v := 0) d_M_enter_62 rfl ?_
      obtain ⟨b2, w⟩ := w
      refine ww_st (pc := 63) 73 d_M_enter_63 (by omega) (by decide) b2 ?_
      refine vv_aload_n (pc := 64) d_M_enter_64 rfl ?_
      refine ww_gr (pc := 65) 68 74 d_M_enter_65 fl_M_151 (by omega) rfl (by decide) ?_
      refine vv_aload_n (pc := 68) d_M_enter_68 rfl ?_
      refine ww_gi (pc := 69) 62 d_M_enter_69 fl_M_323 (by omega) rfl ?_
      refine vv_iload_n (pc := 72) d_M_enter_72 rfl ?_
      obtain ⟨b3, w⟩ := w
      refine ww_st (pc := 73) 74 d_M_enter_73 (by omega) (by decide) b3 ?_
      refine vv_aload_n (pc := 74) d_M_enter_74 rfl ?_
      refine vv_dup (pc := 75) d_M_enter_75 rfl ?_
      refine ww_gi (pc := 76) 62 d_M_enter_76 fl_M_323 (by omega) rfl ?_
      refine vv_iconst (pc := 79) (v := 1) d_M_enter_79 rfl ?_
      refine vv_iadd (pc := 80) d_M_enter_80 ?_
      refine ww_pi (pc := 81) 62 d_M_enter_81 fl_M_323 (by omega) rfl rfl rfl rfl ?_
      obtain ⟨rfl, rfl⟩ := w
      exact vv_vret (pc := 84) d_M_enter_84 rfl
    · replace w := w.2 hc
      refine vv_aload_n (pc := 18) d_M_enter_18 rfl ?_
      refine vv_iconst (pc := 19) (v := 1) d_M_enter_19 rfl ?_
      refine ww_pi (pc := 20) 63 d_M_enter_20 fl_M_326 (by omega) rfl rfl rfl rfl ?_
      obtain ⟨rfl, rfl⟩ := w
      exact vv_vret (pc := 23) d_M_enter_23 rfl
theorem c_M_enter {o : Option Value} {S' S : cp_S} {x1 : Int32} {x2 : Int32} (w : JJ 0 m_M_enter o S' 0 [(1, .int x1), (2, .int x2)] S) : MC 0 m_M_enter [.int x1, .int x2] S o S' := fun G h n z d hn hd => cp_C.of rfl (Nat.le_of_ble_eq_true rfl) (w G h n z d hn hd)
def wp_M_give_0 (o : Option Value) (S' : cp_S) (S : cp_S) (x1 : Int32) : Prop := (((((S.1 62) - 1) : Int32) ≤ 0 → (o = none ∧ S' = ((va_up (va_up S.1 62 ((S.1 62) - 1)) 64 x1), S.2))) ∧ (¬ (((S.1 62) - 1) : Int32) ≤ 0 → vp_in (((S.1 62) - 1) - 1) (cp_ml 73) ∧ vp_in ((8 * (((S.1 62) - 1) - 1)) + ((S.2 73) (Int32.toNatClampNeg (((S.1 62) - 1) - 1)))) (cp_ml 75) ∧ vp_in (((S.1 62) - 1) - 1) (cp_ml 73) ∧ vp_in (((S.1 62) - 1) - 1) (cp_ml 73) ∧ (o = none ∧ S' = ((va_up (va_up S.1 62 ((S.1 62) - 1)) 64 x1), (va_up (va_up S.2 75 (upd (S.2 75) (Int32.toNatClampNeg ((8 * (((S.1 62) - 1) - 1)) + ((S.2 73) (Int32.toNatClampNeg (((S.1 62) - 1) - 1))))) x1)) 73 (upd (S.2 73) (Int32.toNatClampNeg (((S.1 62) - 1) - 1)) (((S.2 73) (Int32.toNatClampNeg (((S.1 62) - 1) - 1))) + 1)))))))
theorem b_M_give_0 {o : Option Value} {S' S : cp_S} {x1 : Int32} (w : wp_M_give_0 o S' S x1) : JJ 0 m_M_give o S' 0 [(1, .int x1)] S := by
  unfold wp_M_give_0 at w
  intro G h n z d hn hd
  refine vv_aload_n (pc := 0) d_M_give_0 rfl ?_
  refine vv_dup (pc := 1) d_M_give_1 rfl ?_
  refine ww_gi (pc := 2) 62 d_M_give_2 fl_M_323 (by omega) rfl ?_
  refine vv_iconst (pc := 5) (v := 1) d_M_give_5 rfl ?_
  refine vv_isub (pc := 6) d_M_give_6 ?_
  refine ww_pi (pc := 7) 62 d_M_give_7 fl_M_323 (by omega) rfl rfl rfl rfl ?_
  refine vv_aload_n (pc := 10) d_M_give_10 rfl ?_
  refine vv_iload_n (pc := 11) d_M_give_11 rfl ?_
  refine ww_pi (pc := 12) 64 d_M_give_12 fl_M_332 (by omega) rfl rfl rfl rfl ?_
  refine vv_aload_n (pc := 15) d_M_give_15 rfl ?_
  refine ww_gi (pc := 16) 62 d_M_give_16 fl_M_323 (by omega) rfl ?_
  refine vv_topi (y := ((S.1 62) - 1)) rfl ?_
  refine vv_if_le (pc := 19) (tgt := 56) d_M_give_19 rfl (fun hc => ?_) (fun hc => ?_)
  · replace w := w.1 hc
    obtain ⟨rfl, rfl⟩ := w
    exact vv_vret (pc := 56) d_M_give_56 rfl
  · replace w := w.2 hc
    refine vv_aload_n (pc := 22) d_M_give_22 rfl ?_
    refine ww_gi (pc := 23) 62 d_M_give_23 fl_M_323 (by omega) rfl ?_
    refine vv_topi (y := ((S.1 62) - 1)) rfl ?_
    refine vv_iconst (pc := 26) (v := 1) d_M_give_26 rfl ?_
    refine vv_isub (pc := 27) d_M_give_27 ?_
    refine vv_istore_n (pc := 28) d_M_give_28 (Nat.le_of_ble_eq_true rfl) ?_
    refine vv_aload_n (pc := 29) d_M_give_29 rfl ?_
    refine ww_gr (pc := 30) 69 75 d_M_give_30 fl_M_154 (by omega) rfl (by decide) ?_
    refine vv_bipush (pc := 33) (v := 8) d_M_give_33 rfl ?_
    refine vv_iload_n (pc := 35) d_M_give_35 rfl ?_
    refine vv_imul (pc := 36) d_M_give_36 ?_
    refine vv_aload_n (pc := 37) d_M_give_37 rfl ?_
    refine ww_gr (pc := 38) 67 73 d_M_give_38 fl_M_148 (by omega) rfl (by decide) ?_
    refine vv_iload_n (pc := 41) d_M_give_41 rfl ?_
    obtain ⟨b1, w⟩ := w
    refine ww_ld (pc := 42) 73 d_M_give_42 (by omega) (by decide) b1 ?_
    refine vv_iadd (pc := 43) d_M_give_43 ?_
    refine vv_iload_n (pc := 44) d_M_give_44 rfl ?_
    obtain ⟨b2, w⟩ := w
    refine ww_st (pc := 45) 75 d_M_give_45 (by omega) (by decide) b2 ?_
    refine vv_aload_n (pc := 46) d_M_give_46 rfl ?_
    refine ww_gr (pc := 47) 67 73 d_M_give_47 fl_M_148 (by omega) rfl (by decide) ?_
    refine vv_iload_n (pc := 50) d_M_give_50 rfl ?_
    refine vv_dup2 (pc := 51) d_M_give_51 rfl rfl ?_
    obtain ⟨b3, w⟩ := w
    refine ww_ld (pc := 52) 73 d_M_give_52 (by omega) (by decide) b3 ?_
    refine vv_iconst (pc := 53) (v := 1) d_M_give_53 rfl ?_
    refine vv_iadd (pc := 54) d_M_give_54 ?_
    obtain ⟨b4, w⟩ := w
    refine ww_st (pc := 55) 73 d_M_give_55 (by omega) (by decide) b4 ?_
    obtain ⟨rfl, rfl⟩ := w
    exact vv_vret (pc := 56) d_M_give_56 rfl
theorem c_M_give {o : Option Value} {S' S : cp_S} {x1 : Int32} (w : JJ 0 m_M_give o S' 0 [(1, .int x1)] S) : MC 0 m_M_give [.int x1] S o S' := fun G h n z d hn hd => cp_C.of rfl (Nat.le_of_ble_eq_true rfl) (w G h n z d hn hd)
def wp_M_child_0 (o : Option Value) (S' : cp_S) (S : cp_S) (x1 : Int32) (x2 : Int32) : Prop := JJ 2 m_M_child o S' 7 [(1, .int x1), (2, .int x2), (3, .int (x1 + 1)), (4, .int 0)] S
theorem b_M_child_0 {o : Option Value} {S' S : cp_S} {x1 : Int32} {x2 : Int32} (w : wp_M_child_0 o S' S x1 x2) : JJ 2 m_M_child o S' 0 [(1, .int x1), (2, .int x2)] S := by
  unfold wp_M_child_0 at w
  intro G h n z d hn hd
  refine vv_iload_n (pc := 0) d_M_child_0 rfl ?_
  refine vv_iconst (pc := 1) (v := 1) d_M_child_1 rfl ?_
  refine vv_iadd (pc := 2) d_M_child_2 ?_
  refine vv_istore_n (pc := 3) d_M_child_3 (Nat.le_of_ble_eq_true rfl) ?_
  refine vv_iconst (pc := 4) (v := 0) d_M_child_4 rfl ?_
  refine vv_istore (pc := 5) d_M_child_5 (Nat.le_of_ble_eq_true rfl) ?_
  exact vv_sub [2, 3, 4, 1, 0] rfl (w G h n z d hn hd)
theorem c_M_child {o : Option Value} {S' S : cp_S} {x1 : Int32} {x2 : Int32} (w : JJ 2 m_M_child o S' 0 [(1, .int x1), (2, .int x2)] S) : MC 2 m_M_child [.int x1, .int x2] S o S' := fun G h n z d hn hd => cp_C.of rfl (Nat.le_of_ble_eq_true rfl) (w G h n z d hn hd)
def wp_M_child_7 (o : Option Value) (S' : cp_S) (S : cp_S) (x1 : Int32) (x2 : Int32) (x3 : Int32) (x4 : Int32) : Prop := ((x2 ≤ (x4 : Int32) → (o = some (.int x3) ∧ S' = S)) ∧ (¬ x2 ≤ (x4 : Int32) → ∃ r3 T2, MC 1 m_M_behind [.int x3] S (some (.int r3)) T2 ∧ JJ 2 m_M_child o S' 7 [(1, .int x1), (2, .int x2), (3, .int r3), (4, .int (x4 + 1))] T2))
theorem b_M_child_7 {o : Option Value} {S' S : cp_S} {x1 : Int32} {x2 : Int32} {x3 : Int32} {x4 : Int32} (w : wp_M_child_7 o S' S x1 x2 x3 x4) : JJ 2 m_M_child o S' 7 [(1, .int x1), (2, .int x2), (3, .int x3), (4, .int x4)] S := by
  unfold wp_M_child_7 at w
  intro G h n z d hn hd
  refine vv_iload (pc := 7) d_M_child_7 rfl ?_
  refine vv_iload_n (pc := 9) d_M_child_9 rfl ?_
  refine vv_icmp_ge (pc := 10) (tgt := 25) d_M_child_10 rfl (fun hc => ?_) (fun hc => ?_)
  · replace w := w.1 hc
    refine vv_iload_n (pc := 25) d_M_child_25 rfl ?_
    obtain ⟨rfl, rfl⟩ := w
    exact vv_iret (pc := 26) d_M_child_26 rfl
  · replace w := w.2 hc
    refine vv_aload_n (pc := 13) d_M_child_13 rfl ?_
    refine vv_iload_n (pc := 14) d_M_child_14 rfl ?_
    obtain ⟨r3, T2, c1, w⟩ := w
    refine vv_callV (pc := 15) (As := [.int x3]) d_M_child_15 (c1 G h n z (d - 1) hn (by omega)) k_M_behind ml_M_268.1 ml_M_268.2.1 ml_M_268.2.2.1 ml_M_268.2.2.2.1 ml_M_268.2.2.2.2 (by omega) mm_26 (by omega) (Nat.le_of_ble_eq_true rfl) ?_
    refine vv_istore_n (pc := 18) d_M_child_18 (Nat.le_of_ble_eq_true rfl) ?_
    refine vv_iinc (pc := 19) (v := (x4 + 1)) d_M_child_19 rfl rfl (Nat.le_of_ble_eq_true rfl) ?_
    refine vv_goto (pc := 22) (tgt := 7) d_M_child_22 rfl ?_
    exact vv_sub [2, 3, 4, 1, 0] rfl (w G h n z d hn hd)
def wp_M_meaning_0 (o : Option Value) (S' : cp_S) (S : cp_S) (x1 : Int32) (x2 : Int32) : Prop := JJ 0 m_M_meaning o S' 2 [(1, .int x1), (2, .int x2), (3, .int x2)] S
theorem b_M_meaning_0 {o : Option Value} {S' S : cp_S} {x1 : Int32} {x2 : Int32} (w : wp_M_meaning_0 o S' S x1 x2) : JJ 0 m_M_meaning o S' 0 [(1, .int x1), (2, .int x2)] S := by
  unfold wp_M_meaning_0 at w
  intro G h n z d hn hd
  refine vv_iload_n (pc := 0) d_M_meaning_0 rfl ?_
  refine vv_istore_n (pc := 1) d_M_meaning_1 (Nat.le_of_ble_eq_true rfl) ?_
  exact vv_sub [1, 2, 3, 0] rfl (w G h n z d hn hd)
theorem c_M_meaning {o : Option Value} {S' S : cp_S} {x1 : Int32} {x2 : Int32} (w : JJ 0 m_M_meaning o S' 0 [(1, .int x1), (2, .int x2)] S) : MC 0 m_M_meaning [.int x1, .int x2] S o S' := fun G h n z d hn hd => cp_C.of rfl (Nat.le_of_ble_eq_true rfl) (w G h n z d hn hd)
def wp_M_meaning_2 (o : Option Value) (S' : cp_S) (S : cp_S) (x1 : Int32) (x2 : Int32) (x3 : Int32) : Prop := vp_in x3 (cp_ml 76) ∧ (((((S.2 76) (Int32.toNatClampNeg x3)) : Int32) = x1 → vp_in x3 (cp_ml 77) ∧ (o = some (.int ((S.2 77) (Int32.toNatClampNeg x3))) ∧ S' = S)) ∧ (¬ (((S.2 76) (Int32.toNatClampNeg x3)) : Int32) = x1 → vp_in x3 (cp_ml 78) ∧ JJ 0 m_M_meaning o S' 2 [(1, .int x1), (2, .int x2), (3, .int ((S.2 78) (Int32.toNatClampNeg x3)))] S))
theorem b_M_meaning_2 {o : Option Value} {S' S : cp_S} {x1 : Int32} {x2 : Int32} {x3 : Int32} (w : wp_M_meaning_2 o S' S x1 x2 x3) : JJ 0 m_M_meaning o S' 2 [(1, .int x1), (2, .int x2), (3, .int x3)] S := by
  unfold wp_M_meaning_2 at w
  intro G h n z d hn hd
  refine vv_aload_n (pc := 2) d_M_meaning_2 rfl ?_
  refine ww_gr (pc := 3) 71 76 d_M_meaning_3 fl_M_157 (by omega) rfl (by decide) ?_
  refine vv_iload_n (pc := 6) d_M_meaning_6 rfl ?_
  obtain ⟨b1, w⟩ := w
  refine ww_ld (pc := 7) 76 d_M_meaning_7 (by omega) (by decide) b1 ?_
  refine vv_iload_n (pc := 8) d_M_meaning_8 rfl ?_
  refine vv_icmp_eq (pc := 9) (tgt := 22) d_M_meaning_9 rfl (fun hc => ?_) (fun hc => ?_)
  · replace w := w.1 hc
    refine vv_aload_n (pc := 22) d_M_meaning_22 rfl ?_
    refine ww_gr (pc := 23) 72 77 d_M_meaning_23 fl_M_160 (by omega) rfl (by decide) ?_
    refine vv_iload_n (pc := 26) d_M_meaning_26 rfl ?_
    obtain ⟨b2, w⟩ := w
    refine ww_ld (pc := 27) 77 d_M_meaning_27 (by omega) (by decide) b2 ?_
    obtain ⟨rfl, rfl⟩ := w
    exact vv_iret (pc := 28) d_M_meaning_28 rfl
  · replace w := w.2 hc
    refine vv_aload_n (pc := 12) d_M_meaning_12 rfl ?_
    refine ww_gr (pc := 13) 73 78 d_M_meaning_13 fl_M_163 (by omega) rfl (by decide) ?_
    refine vv_iload_n (pc := 16) d_M_meaning_16 rfl ?_
    obtain ⟨b3, w⟩ := w
    refine ww_ld (pc := 17) 78 d_M_meaning_17 (by omega) (by decide) b3 ?_
    refine vv_istore_n (pc := 18) d_M_meaning_18 (Nat.le_of_ble_eq_true rfl) ?_
    refine vv_goto (pc := 19) (tgt := 2) d_M_meaning_19 rfl ?_
    exact vv_sub [1, 2, 3, 0] rfl (w G h n z d hn hd)
def wp_M_compare_0 (o : Option Value) (S' : cp_S) (S : cp_S) (x1 : Int32) (x2 : Int32) : Prop := ∃ r3 T2, MC 1 m_M_firstPair [.int x1, .int x2] S (some (.int r3)) T2 ∧ JJ 2 m_M_compare o S' 7 [(1, .int x1), (2, .int x2), (3, .int r3)] T2
theorem b_M_compare_0 {o : Option Value} {S' S : cp_S} {x1 : Int32} {x2 : Int32} (w : wp_M_compare_0 o S' S x1 x2) : JJ 2 m_M_compare o S' 0 [(1, .int x1), (2, .int x2)] S := by
  unfold wp_M_compare_0 at w
  intro G h n z d hn hd
  refine vv_aload_n (pc := 0) d_M_compare_0 rfl ?_
  refine vv_iload_n (pc := 1) d_M_compare_1 rfl ?_
  refine vv_iload_n (pc := 2) d_M_compare_2 rfl ?_
  obtain ⟨r3, T2, c1, w⟩ := w
  refine vv_callV (pc := 3) (As := [.int x1, .int x2]) d_M_compare_3 (c1 G h n z (d - 1) hn (by omega)) k_M_firstPair ml_M_287.1 ml_M_287.2.1 ml_M_287.2.2.1 ml_M_287.2.2.2.1 ml_M_287.2.2.2.2 (by omega) mm_26 (by omega) (Nat.le_of_ble_eq_true rfl) ?_
  refine vv_istore_n (pc := 6) d_M_compare_6 (Nat.le_of_ble_eq_true rfl) ?_
  exact vv_sub [1, 2, 3, 0] rfl (w G h n z d hn hd)
theorem c_M_compare {o : Option Value} {S' S : cp_S} {x1 : Int32} {x2 : Int32} (w : JJ 2 m_M_compare o S' 0 [(1, .int x1), (2, .int x2)] S) : MC 2 m_M_compare [.int x1, .int x2] S o S' := fun G h n z d hn hd => cp_C.of rfl (Nat.le_of_ble_eq_true rfl) (w G h n z d hn hd)
def wp_M_compare_7 (o : Option Value) (S' : cp_S) (S : cp_S) (x1 : Int32) (x2 : Int32) (x3 : Int32) : Prop := (((x3 : Int32) ≤ 0 → (o = some (.int 1) ∧ S' = S)) ∧ (¬ (x3 : Int32) ≤ 0 → vp_in (x3 - 1) (cp_ml 58) ∧ vp_in (x3 - 1) (cp_ml 59) ∧ ((1000 < (((S.1 44) + 1) : Int32) → (o = some (.int (-1)) ∧ S' = ((va_up S.1 44 ((S.1 44) + 1)), S.2))) ∧ (¬ 1000 < (((S.1 44) + 1) : Int32) → vp_in ((S.2 58) (Int32.toNatClampNeg (x3 - 1))) (cp_ml 52) ∧ (((((S.2 52) (Int32.toNatClampNeg ((S.2 58) (Int32.toNatClampNeg (x3 - 1))))) : Int32) = 2 → (o = some (.int (-1)) ∧ S' = ((va_up S.1 44 ((S.1 44) + 1)), S.2))) ∧ (¬ (((S.2 52) (Int32.toNatClampNeg ((S.2 58) (Int32.toNatClampNeg (x3 - 1))))) : Int32) = 2 → vp_in ((S.2 59) (Int32.toNatClampNeg (x3 - 1))) (cp_ml 52) ∧ ((¬ (((S.2 52) (Int32.toNatClampNeg ((S.2 59) (Int32.toNatClampNeg (x3 - 1))))) : Int32) = 2 → ∃ r7 T6, MC 0 m_M_isLevel [.int ((S.2 58) (Int32.toNatClampNeg (x3 - 1))), .int ((S.2 59) (Int32.toNatClampNeg (x3 - 1)))] ((va_up S.1 44 ((S.1 44) + 1)), S.2) (some (.int r7)) T6 ∧ ((¬ (r7 : Int32) = 0 → ∃ r10 T9, MC 1 m_M_nextPair [.int x3] T6 (some (.int r10)) T9 ∧ JJ 2 m_M_compare o S' 7 [(1, .int x1), (2, .int x2), (3, .int r10)] T9) ∧ ((r7 : Int32) = 0 → (o = some (.int 0) ∧ S' = T6)))) ∧ ((((S.2 52) (Int32.toNatClampNeg ((S.2 59) (Int32.toNatClampNeg (x3 - 1))))) : Int32) = 2 → (o = some (.int (-1)) ∧ S' = ((va_up S.1 44 ((S.1 44) + 1)), S.2))))))))))
theorem b_M_compare_7 {o : Option Value} {S' S : cp_S} {x1 : Int32} {x2 : Int32} {x3 : Int32} (w : wp_M_compare_7 o S' S x1 x2 x3) : JJ 2 m_M_compare o S' 7 [(1, .int x1), (2, .int x2), (3, .int x3)] S := by
  unfold wp_M_compare_7 at w
  intro G h n z d hn hd
  refine vv_iload_n (pc := 7) d_M_compare_7 rfl ?_
  refine vv_if_le (pc := 8) (tgt := 97) d_M_compare_8 rfl (fun hc => ?_) (fun hc => ?_)
  · replace w := w.1 hc
    refine vv_iconst (pc := 97) (v := 1) d_M_compare_97 rfl ?_
    obtain ⟨rfl, rfl⟩ := w
    exact vv_iret (pc := 98) d_M_compare_98 rfl
  · replace w := w.2 hc
    refine vv_aload_n (pc := 11) d_M_compare_11 rfl ?_
    refine ww_gr (pc := 12) 45 58 d_M_compare_12 fl_M_103 (by omega) rfl (by decide) ?_
    refine vv_iload_n (pc := 15) d_M_compare_15 rfl ?_
    refine vv_iconst (pc := 16) (v := 1) d_M_compare_16 rfl ?_
    refine vv_isub (pc := 17) d_M_compare_17 ?_
    obtain ⟨b1, w⟩ := w
    refine ww_ld (pc := 18) 58 d_M_compare_18 (by omega) (by decide) b1 ?_
    refine vv_istore (pc := 19) d_M_compare_19 (Nat.le_of_ble_eq_true rfl) ?_
    refine vv_aload_n (pc := 21) d_M_compare_21 rfl ?_
    refine ww_gr (pc := 22) 46 59 d_M_compare_22 fl_M_106 (by omega) rfl (by decide) ?_
    refine vv_iload_n (pc := 25) d_M_compare_25 rfl ?_
    refine vv_iconst (pc := 26) (v := 1) d_M_compare_26 rfl ?_
    refine vv_isub (pc := 27) d_M_compare_27 ?_
    obtain ⟨b2, w⟩ := w
    refine ww_ld (pc := 28) 59 d_M_compare_28 (by omega) (by decide) b2 ?_
    refine vv_istore (pc := 29) d_M_compare_29 (Nat.le_of_ble_eq_true rfl) ?_
    refine vv_aload_n (pc := 31) d_M_compare_31 rfl ?_
    refine vv_dup (pc := 32) d_M_compare_32 rfl ?_
    refine ww_gi (pc := 33) 44 d_M_compare_33 fl_M_284 (by omega) rfl ?_
    refine vv_iconst (pc := 36) (v := 1) d_M_compare_36 rfl ?_
    refine vv_iadd (pc := 37) d_M_compare_37 ?_
    refine ww_pi (pc := 38) 44 d_M_compare_38 fl_M_284 (by omega) rfl rfl rfl rfl ?_
    refine vv_aload_n (pc := 41) d_M_compare_41 rfl ?_
    refine ww_gi (pc := 42) 44 d_M_compare_42 fl_M_284 (by omega) rfl ?_
    refine vv_topi (y := ((S.1 44) + 1)) rfl ?_
    refine vv_sipush (pc := 45) (v := 1000) d_M_compare_45 rfl ?_
    refine vv_icmp_gt (pc := 48) (tgt := 73) d_M_compare_48 rfl (fun hc => ?_) (fun hc => ?_)
    · replace w := w.1 hc
      refine vv_iconst (pc := 73) (v := (-1)) d_M_compare_73 rfl ?_
      obtain ⟨rfl, rfl⟩ := w
      exact vv_iret (pc := 74) d_M_compare_74 rfl
    · replace w := w.2 hc
      refine vv_aload_n (pc := 51) d_M_compare_51 rfl ?_
      refine ww_gr (pc := 52) 36 52 d_M_compare_52 fl_M_85 (by omega) rfl (by decide) ?_
      refine vv_iload (pc := 55) d_M_compare_55 rfl ?_
      obtain ⟨b3, w⟩ := w
      refine ww_ld (pc := 57) 52 d_M_compare_57 (by omega) (by decide) b3 ?_
      refine vv_iconst (pc := 58) (v := 2) d_M_compare_58 rfl ?_
      refine vv_icmp_eq (pc := 59) (tgt := 73) d_M_compare_59 rfl (fun hc => ?_) (fun hc => ?_)
      · replace w := w.1 hc
        refine vv_iconst (pc := 73) (v := (-1)) d_M_compare_73 rfl ?_
        obtain ⟨rfl, rfl⟩ := w
        exact vv_iret (pc := 74) d_M_compare_74 rfl
      · replace w := w.2 hc
        refine vv_aload_n (pc := 62) d_M_compare_62 rfl ?_
        refine ww_gr (pc := 63) 36 52 d_M_compare_63 fl_M_85 (by omega) rfl (by decide) ?_
        refine vv_iload (pc := 66) d_M_compare_66 rfl ?_
        obtain ⟨b4, w⟩ := w
        refine ww_ld (pc := 68) 52 d_M_compare_68 (by omega) (by decide) b4 ?_
        refine vv_iconst (pc := 69) (v := 2) d_M_compare_69 rfl ?_
        refine vv_icmp_ne (pc := 70) (tgt := 75) d_M_compare_70 rfl (fun hc => ?_) (fun hc => ?_)
        · replace w := w.1 hc
          refine vv_aload_n (pc := 75) d_M_compare_75 rfl ?_
          refine vv_iload (pc := 76) d_M_compare_76 rfl ?_
          refine vv_iload (pc := 78) d_M_compare_78 rfl ?_
          obtain ⟨r7, T6, c5, w⟩ := w
          refine vv_callV (pc := 80) (As := [.int ((S.2 58) (Int32.toNatClampNeg (x3 - 1))), .int ((S.2 59) (Int32.toNatClampNeg (x3 - 1)))]) d_M_compare_80 (c5 G h n z (d - 1) hn (by omega)) k_M_isLevel ml_M_296.1 ml_M_296.2.1 ml_M_296.2.2.1 ml_M_296.2.2.2.1 ml_M_296.2.2.2.2 (by omega) mm_26 (by omega) (Nat.le_of_ble_eq_true rfl) ?_
          refine vv_if_ne (pc := 83) (tgt := 88) d_M_compare_83 rfl (fun hc => ?_) (fun hc => ?_)
          · replace w := w.1 hc
            refine vv_aload_n (pc := 88) d_M_compare_88 rfl ?_
            refine vv_iload_n (pc := 89) d_M_compare_89 rfl ?_
            obtain ⟨r10, T9, c8, w⟩ := w
            refine vv_callV (pc := 90) (As := [.int x3]) d_M_compare_90 (c8 G h n z (d - 1) hn (by omega)) k_M_nextPair ml_M_299.1 ml_M_299.2.1 ml_M_299.2.2.1 ml_M_299.2.2.2.1 ml_M_299.2.2.2.2 (by omega) mm_26 (by omega) (Nat.le_of_ble_eq_true rfl) ?_
            refine vv_istore_n (pc := 93) d_M_compare_93 (Nat.le_of_ble_eq_true rfl) ?_
            refine vv_goto (pc := 94) (tgt := 7) d_M_compare_94 rfl ?_
            exact vv_sub [3, 4, 5, 0] rfl (w G h n z d hn hd)
          · replace w := w.2 hc
            refine vv_iconst (pc := 86) (v := 0) d_M_compare_86 rfl ?_
            obtain ⟨rfl, rfl⟩ := w
            exact vv_iret (pc := 87) d_M_compare_87 rfl
        · replace w := w.2 hc
          refine vv_iconst (pc := 73) (v := (-1)) d_M_compare_73 rfl ?_
          obtain ⟨rfl, rfl⟩ := w
          exact vv_iret (pc := 74) d_M_compare_74 rfl
def wp_M_call_0 (o : Option Value) (S' : cp_S) (S : cp_S) (x1 : Int32) (x2 : Int32) (x3 : Int32) : Prop := vp_in x2 (cp_ml 41) ∧ vp_in x2 (cp_ml 40) ∧ ((((S.2 41) (Int32.toNatClampNeg x2)) ≤ (x3 : Int32) → (((x3 : Int32) ≤ ((S.2 41) (Int32.toNatClampNeg x2)) → vp_in ((S.2 40) (Int32.toNatClampNeg x2)) (cp_ml 30) ∧ ((¬ (((S.2 30) (Int32.toNatClampNeg ((S.2 40) (Int32.toNatClampNeg x2)))) : Int32) = 1 → JJ 3 m_M_call o S' 174 [(1, .int x1), (2, .int x2), (3, .int x3), (4, .int ((S.2 41) (Int32.toNatClampNeg x2))), (5, .int ((S.2 40) (Int32.toNatClampNeg x2))), (6, .int (-1)), (7, .int 0)] S) ∧ ((((S.2 30) (Int32.toNatClampNeg ((S.2 40) (Int32.toNatClampNeg x2)))) : Int32) = 1 → ∃ r6 T5, MC 0 m_M_value [.int 3, .int ((S.2 40) (Int32.toNatClampNeg x2))] S (some (.int r6)) T5 ∧ vp_in r6 (cp_ml 55) ∧ JJ 3 m_M_call o S' 98 [(1, .int x1), (2, .int x2), (3, .int x3), (4, .int ((S.2 41) (Int32.toNatClampNeg x2))), (5, .int ((S.2 40) (Int32.toNatClampNeg x2))), (6, .int r6), (7, .int 0)] (T5.1, (va_up T5.2 55 (upd (T5.2 55) (Int32.toNatClampNeg r6) ((S.2 41) (Int32.toNatClampNeg x2)))))))) ∧ (¬ (x3 : Int32) ≤ ((S.2 41) (Int32.toNatClampNeg x2)) → vp_in ((8 * x1) + ((S.2 41) (Int32.toNatClampNeg x2))) (cp_ml 75) ∧ ∃ T10, MC 0 m_M_give [.int ((S.2 75) (Int32.toNatClampNeg ((8 * x1) + ((S.2 41) (Int32.toNatClampNeg x2)))))] S none T10 ∧ (o = none ∧ S' = T10)))) ∧ (¬ ((S.2 41) (Int32.toNatClampNeg x2)) ≤ (x3 : Int32) → ∃ r13 T12, MC 2 m_M_child [.int x2, .int x3] S (some (.int r13)) T12 ∧ vp_in x1 (cp_ml 74) ∧ ∃ T16, MC 0 m_M_enter [.int r13, .int ((T12.2 74) (Int32.toNatClampNeg x1))] T12 none T16 ∧ (o = none ∧ S' = T16)))
theorem b_M_call_0 {o : Option Value} {S' S : cp_S} {x1 : Int32} {x2 : Int32} {x3 : Int32} (w : wp_M_call_0 o S' S x1 x2 x3) : JJ 3 m_M_call o S' 0 [(1, .int x1), (2, .int x2), (3, .int x3)] S := by
  unfold wp_M_call_0 at w
  intro G h n z d hn hd
  refine vv_aload_n (pc := 0) d_M_call_0 rfl ?_
  refine ww_gr (pc := 1) 19 41 d_M_call_1 fl_M_52 (by omega) rfl (by decide) ?_
  refine vv_iload_n (pc := 4) d_M_call_4 rfl ?_
  obtain ⟨b1, w⟩ := w
  refine ww_ld (pc := 5) 41 d_M_call_5 (by omega) (by decide) b1 ?_
  refine vv_istore (pc := 6) d_M_call_6 (Nat.le_of_ble_eq_true rfl) ?_
  refine vv_aload_n (pc := 8) d_M_call_8 rfl ?_
  refine ww_gr (pc := 9) 18 40 d_M_call_9 fl_M_49 (by omega) rfl (by decide) ?_
  refine vv_iload_n (pc := 12) d_M_call_12 rfl ?_
  obtain ⟨b2, w⟩ := w
  refine ww_ld (pc := 13) 40 d_M_call_13 (by omega) (by decide) b2 ?_
  refine vv_istore (pc := 14) d_M_call_14 (Nat.le_of_ble_eq_true rfl) ?_
  refine vv_iload_n (pc := 16) d_M_call_16 rfl ?_
  refine vv_iload (pc := 17) d_M_call_17 rfl ?_
  refine vv_icmp_ge (pc := 19) (tgt := 41) d_M_call_19 rfl (fun hc => ?_) (fun hc => ?_)
  · replace w := w.1 hc
    refine vv_iload_n (pc := 41) d_M_call_41 rfl ?_
    refine vv_iload (pc := 42) d_M_call_42 rfl ?_
    refine vv_icmp_le (pc := 44) (tgt := 66) d_M_call_44 rfl (fun hc => ?_) (fun hc => ?_)
    · replace w := w.1 hc
      refine vv_aload_n (pc := 66) d_M_call_66 rfl ?_
      refine ww_gr (pc := 67) 6 30 d_M_call_67 fl_M_19 (by omega) rfl (by decide) ?_
      refine vv_iload (pc := 70) d_M_call_70 rfl ?_
      obtain ⟨b3, w⟩ := w
      refine ww_ld (pc := 72) 30 d_M_call_72 (by omega) (by decide) b3 ?_
      refine vv_iconst (pc := 73) (v := 1) d_M_call_73 rfl ?_
      refine vv_icmp_ne (pc := 74) (tgt := 168) d_M_call_74 rfl (fun hc => ?_) (fun hc => ?_)
      · replace w := w.1 hc
        refine vv_iconst (pc := 168) (v := (-1)) d_M_call_168 rfl ?_
        refine vv_istore (pc := 169) d_M_call_169 (Nat.le_of_ble_eq_true rfl) ?_
        refine vv_iconst (pc := 171) (v := 0) d_M_call_171 rfl ?_
        refine vv_istore (pc := 172) d_M_call_172 (Nat.le_of_ble_eq_true rfl) ?_
        exact vv_sub [4, 5, 6, 7, 3, 2, 1, 0] rfl (w G h n z d hn hd)
      · replace w := w.2 hc
        refine vv_aload_n (pc := 77) d_M_call_77 rfl ?_
        refine vv_iconst (pc := 78) (v := 3) d_M_call_78 rfl ?_
        refine vv_iload (pc := 79) d_M_call_79 rfl ?_
        obtain ⟨r6, T5, c4, w⟩ := w
        refine vv_callV (pc := 81) (As := [.int 3, .int ((S.2 40) (Int32.toNatClampNeg x2))]) d_M_call_81 (c4 G h n z (d - 1) hn (by omega)) k_M_value ml_M_271.1 ml_M_271.2.1 ml_M_271.2.2.1 ml_M_271.2.2.2.1 ml_M_271.2.2.2.2 (by omega) mm_26 (by omega) (Nat.le_of_ble_eq_true rfl) ?_
        refine vv_istore (pc := 84) d_M_call_84 (Nat.le_of_ble_eq_true rfl) ?_
        refine vv_aload_n (pc := 86) d_M_call_86 rfl ?_
        refine ww_gr (pc := 87) 39 55 d_M_call_87 fl_M_94 (by omega) rfl (by decide) ?_
        refine vv_iload (pc := 90) d_M_call_90 rfl ?_
        refine vv_iload (pc := 92) d_M_call_92 rfl ?_
        obtain ⟨b7, w⟩ := w
        refine ww_st (pc := 94) 55 d_M_call_94 (by omega) (by decide) b7 ?_
        refine vv_iconst (pc := 95) (v := 0) d_M_call_95 rfl ?_
        refine vv_istore (pc := 96) d_M_call_96 (Nat.le_of_ble_eq_true rfl) ?_
        exact vv_sub [4, 5, 6, 7, 3, 2, 1, 0] rfl (w G h n z d hn hd)
    · replace w := w.2 hc
      refine vv_aload_n (pc := 47) d_M_call_47 rfl ?_
      refine vv_aload_n (pc := 48) d_M_call_48 rfl ?_
      refine ww_gr (pc := 49) 69 75 d_M_call_49 fl_M_154 (by omega) rfl (by decide) ?_
      refine vv_bipush (pc := 52) (v := 8) d_M_call_52 rfl ?_
      refine vv_iload_n (pc := 54) d_M_call_54 rfl ?_
      refine vv_imul (pc := 55) d_M_call_55 ?_
      refine vv_iload (pc := 56) d_M_call_56 rfl ?_
      refine vv_iadd (pc := 58) d_M_call_58 ?_
      obtain ⟨b8, w⟩ := w
      refine ww_ld (pc := 59) 75 d_M_call_59 (by omega) (by decide) b8 ?_
      obtain ⟨T10, c9, w⟩ := w
      refine vv_callV (pc := 60) (As := [.int ((S.2 75) (Int32.toNatClampNeg ((8 * x1) + ((S.2 41) (Int32.toNatClampNeg x2)))))]) d_M_call_60 (c9 G h n z (d - 1) hn (by omega)) k_M_give ml_M_342.1 ml_M_342.2.1 ml_M_342.2.2.1 ml_M_342.2.2.2.1 ml_M_342.2.2.2.2 (by omega) mm_26 (by omega) (Nat.le_of_ble_eq_true rfl) ?_
      refine vv_goto (pc := 63) (tgt := 238) d_M_call_63 rfl ?_
      obtain ⟨rfl, rfl⟩ := w
      exact vv_vret (pc := 238) d_M_call_238 rfl
  · replace w := w.2 hc
    refine vv_aload_n (pc := 22) d_M_call_22 rfl ?_
    refine vv_aload_n (pc := 23) d_M_call_23 rfl ?_
    refine vv_iload_n (pc := 24) d_M_call_24 rfl ?_
    refine vv_iload_n (pc := 25) d_M_call_25 rfl ?_
    obtain ⟨r13, T12, c11, w⟩ := w
    refine vv_callV (pc := 26) (As := [.int x2, .int x3]) d_M_call_26 (c11 G h n z (d - 1) hn (by omega)) k_M_child ml_M_335.1 ml_M_335.2.1 ml_M_335.2.2.1 ml_M_335.2.2.2.1 ml_M_335.2.2.2.2 (by omega) mm_26 (by omega) (Nat.le_of_ble_eq_true rfl) ?_
    refine vv_aload_n (pc := 29) d_M_call_29 rfl ?_
    refine ww_gr (pc := 30) 68 74 d_M_call_30 fl_M_151 (by omega) rfl (by decide) ?_
    refine vv_iload_n (pc := 33) d_M_call_33 rfl ?_
    obtain ⟨b14, w⟩ := w
    refine ww_ld (pc := 34) 74 d_M_call_34 (by omega) (by decide) b14 ?_
    obtain ⟨T16, c15, w⟩ := w
    refine vv_callV (pc := 35) (As := [.int r13, .int ((T12.2 74) (Int32.toNatClampNeg x1))]) d_M_call_35 (c15 G h n z (d - 1) hn (by omega)) k_M_enter ml_M_338.1 ml_M_338.2.1 ml_M_338.2.2.1 ml_M_338.2.2.2.1 ml_M_338.2.2.2.2 (by omega) mm_26 (by omega) (Nat.le_of_ble_eq_true rfl) ?_
    refine vv_goto (pc := 38) (tgt := 238) d_M_call_38 rfl ?_
    obtain ⟨rfl, rfl⟩ := w
    exact vv_vret (pc := 238) d_M_call_238 rfl
theorem c_M_call {o : Option Value} {S' S : cp_S} {x1 : Int32} {x2 : Int32} {x3 : Int32} (w : JJ 3 m_M_call o S' 0 [(1, .int x1), (2, .int x2), (3, .int x3)] S) : MC 3 m_M_call [.int x1, .int x2, .int x3] S o S' := fun G h n z d hn hd => cp_C.of rfl (Nat.le_of_ble_eq_true rfl) (w G h n z d hn hd)
def wp_M_call_98 (o : Option Value) (S' : cp_S) (S : cp_S) (x1 : Int32) (x2 : Int32) (x3 : Int32) (x4 : Int32) (x5 : Int32) (x6 : Int32) (x7 : Int32) : Prop := ((x4 ≤ (x7 : Int32) → ∃ r3 T2, MC 2 m_M_isLarge [.int x6] S (some (.int r3)) T2 ∧ (((r3 : Int32) = 0 → ∃ T5, MC 0 m_M_give [.int x6] T2 none T5 ∧ (o = none ∧ S' = T5)) ∧ (¬ (r3 : Int32) = 0 → (o = none ∧ S' = ((va_up T2.1 63 1), T2.2))))) ∧ (¬ x4 ≤ (x7 : Int32) → vp_in ((8 * x1) + x7) (cp_ml 75) ∧ vp_in (S.1 40) (cp_ml 56) ∧ JJ 3 m_M_call o S' 98 [(1, .int x1), (2, .int x2), (3, .int x3), (4, .int x4), (5, .int x5), (6, .int x6), (7, .int (x7 + 1))] ((va_up S.1 40 ((S.1 40) + 1)), (va_up S.2 56 (upd (S.2 56) (Int32.toNatClampNeg (S.1 40)) ((S.2 75) (Int32.toNatClampNeg ((8 * x1) + x7))))))))
theorem b_M_call_98 {o : Option Value} {S' S : cp_S} {x1 : Int32} {x2 : Int32} {x3 : Int32} {x4 : Int32} {x5 : Int32} {x6 : Int32} {x7 : Int32} (w : wp_M_call_98 o S' S x1 x2 x3 x4 x5 x6 x7) : JJ 3 m_M_call o S' 98 [(1, .int x1), (2, .int x2), (3, .int x3), (4, .int x4), (5, .int x5), (6, .int x6), (7, .int x7)] S := by
  unfold wp_M_call_98 at w
  intro G h n z d hn hd
  refine vv_iload (pc := 98) d_M_call_98 rfl ?_
  refine vv_iload (pc := 100) d_M_call_100 rfl ?_
  refine vv_icmp_ge (pc := 102) (tgt := 142) d_M_call_102 rfl (fun hc => ?_) (fun hc => ?_)
  · replace w := w.1 hc
    refine vv_aload_n (pc := 142) d_M_call_142 rfl ?_
    refine vv_iload (pc := 143) d_M_call_143 rfl ?_
    obtain ⟨r3, T2, c1, w⟩ := w
    refine vv_callV (pc := 145) (As := [.int x6]) d_M_call_145 (c1 G h n z (d - 1) hn (by omega)) k_M_isLarge ml_M_290.1 ml_M_290.2.1 ml_M_290.2.2.1 ml_M_290.2.2.2.1 ml_M_290.2.2.2.2 (by omega) mm_26 (by omega) (Nat.le_of_ble_eq_true rfl) ?_
    refine vv_if_eq (pc := 148) (tgt := 159) d_M_call_148 rfl (fun hc => ?_) (fun hc => ?_)
    · replace w := w.1 hc
      refine vv_aload_n (pc := 159) d_M_call_159 rfl ?_
      refine vv_iload (pc := 160) d_M_call_160 rfl ?_
      obtain ⟨T5, c4, w⟩ := w
      refine vv_callV (pc := 162) (As := [.int x6]) d_M_call_162 (c4 G h n z (d - 1) hn (by omega)) k_M_give ml_M_342.1 ml_M_342.2.1 ml_M_342.2.2.1 ml_M_342.2.2.2.1 ml_M_342.2.2.2.2 (by omega) mm_26 (by omega) (Nat.le_of_ble_eq_true rfl) ?_
      refine vv_goto (pc := 165) (tgt := 238) d_M_call_165 rfl ?_
      obtain ⟨rfl, rfl⟩ := w
      exact vv_vret (pc := 238) d_M_call_238 rfl
    · replace w := w.2 hc
      refine vv_aload_n (pc := 151) d_M_call_151 rfl ?_
      refine vv_iconst (pc := 152) (v := 1) d_M_call_152 rfl ?_
      refine ww_pi (pc := 153) 63 d_M_call_153 fl_M_326 (by omega) rfl rfl rfl rfl ?_
      refine vv_goto (pc := 156) (tgt := 165) d_M_call_156 rfl ?_
      refine vv_goto (pc := 165) (tgt := 238) d_M_call_165 rfl ?_
      obtain ⟨rfl, rfl⟩ := w
      exact vv_vret (pc := 238) d_M_call_238 rfl
  · replace w := w.2 hc
    refine vv_aload_n (pc := 105) d_M_call_105 rfl ?_
    refine ww_gr (pc := 106) 41 56 d_M_call_106 fl_M_97 (by omega) rfl (by decide) ?_
    refine vv_aload_n (pc := 109) d_M_call_109 rfl ?_
    refine ww_gi (pc := 110) 40 d_M_call_110 fl_M_262 (by omega) rfl ?_
    refine vv_aload_n (pc := 113) d_M_call_113 rfl ?_
    refine ww_gr (pc := 114) 69 75 d_M_call_114 fl_M_154 (by omega) rfl (by decide) ?_
    refine vv_bipush (pc := 117) (v := 8) d_M_call_117 rfl ?_
    refine vv_iload_n (pc := 119) d_M_call_119 rfl ?_
    refine vv_imul (pc := 120) d_M_call_120 ?_
    refine vv_iload (pc := 121) d_M_call_121 rfl ?_
    refine vv_iadd (pc := 123) d_M_call_123 ?_
    obtain ⟨b6, w⟩ := w
    refine ww_ld (pc := 124) 75 d_M_call_124 (by omega) (by decide) b6 ?_
    obtain ⟨b7, w⟩ := w
    refine ww_st (pc := 125) 56 d_M_call_125 (by omega) (by decide) b7 ?_
    refine vv_aload_n (pc := 126) d_M_call_126 rfl ?_
    refine vv_dup (pc := 127) d_M_call_127 rfl ?_
    refine ww_gi (pc := 128) 40 d_M_call_128 fl_M_262 (by omega) rfl ?_
    refine vv_iconst (pc := 131) (v := 1) d_M_call_131 rfl ?_
    refine vv_iadd (pc := 132) d_M_call_132 ?_
    refine ww_pi (pc := 133) 40 d_M_call_133 fl_M_262 (by omega) rfl rfl rfl rfl ?_
    refine vv_iinc (pc := 136) (v := (x7 + 1)) d_M_call_136 rfl rfl (Nat.le_of_ble_eq_true rfl) ?_
    refine vv_goto (pc := 139) (tgt := 98) d_M_call_139 rfl ?_
    exact vv_sub [1, 2, 3, 4, 5, 6, 7, 0] rfl (w G h n z d hn hd)
def wp_M_call_174 (o : Option Value) (S' : cp_S) (S : cp_S) (x1 : Int32) (x2 : Int32) (x3 : Int32) (x4 : Int32) (x5 : Int32) (x6 : Int32) (x7 : Int32) : Prop := ((x4 ≤ (x7 : Int32) → vp_in x5 (cp_ml 36) ∧ ∃ T3, MC 0 m_M_enter [.int ((S.2 36) (Int32.toNatClampNeg x5)), .int x6] S none T3 ∧ (o = none ∧ S' = T3)) ∧ (¬ x4 ≤ (x7 : Int32) → vp_in ((4 * x5) + x7) (cp_ml 37) ∧ vp_in ((8 * x1) + x7) (cp_ml 75) ∧ ∃ T7, MC 0 m_M_bind [.int ((S.2 37) (Int32.toNatClampNeg ((4 * x5) + x7))), .int ((S.2 75) (Int32.toNatClampNeg ((8 * x1) + x7))), .int x6] S none T7 ∧ JJ 3 m_M_call o S' 174 [(1, .int x1), (2, .int x2), (3, .int x3), (4, .int x4), (5, .int x5), (6, .int ((T7.1 70) - 1)), (7, .int (x7 + 1))] T7))
theorem b_M_call_174 {o : Option Value} {S' S : cp_S} {x1 : Int32} {x2 : Int32} {x3 : Int32} {x4 : Int32} {x5 : Int32} {x6 : Int32} {x7 : Int32} (w : wp_M_call_174 o S' S x1 x2 x3 x4 x5 x6 x7) : JJ 3 m_M_call o S' 174 [(1, .int x1), (2, .int x2), (3, .int x3), (4, .int x4), (5, .int x5), (6, .int x6), (7, .int x7)] S := by
  unfold wp_M_call_174 at w
  intro G h n z d hn hd
  refine vv_iload (pc := 174) d_M_call_174 rfl ?_
  refine vv_iload (pc := 176) d_M_call_176 rfl ?_
  refine vv_icmp_ge (pc := 178) (tgt := 225) d_M_call_178 rfl (fun hc => ?_) (fun hc => ?_)
  · replace w := w.1 hc
    refine vv_aload_n (pc := 225) d_M_call_225 rfl ?_
    refine vv_aload_n (pc := 226) d_M_call_226 rfl ?_
    refine ww_gr (pc := 227) 12 36 d_M_call_227 fl_M_37 (by omega) rfl (by decide) ?_
    refine vv_iload (pc := 230) d_M_call_230 rfl ?_
    obtain ⟨b1, w⟩ := w
    refine ww_ld (pc := 232) 36 d_M_call_232 (by omega) (by decide) b1 ?_
    refine vv_iload (pc := 233) d_M_call_233 rfl ?_
    obtain ⟨T3, c2, w⟩ := w
    refine vv_callV (pc := 235) (As := [.int ((S.2 36) (Int32.toNatClampNeg x5)), .int x6]) d_M_call_235 (c2 G h n z (d - 1) hn (by omega)) k_M_enter ml_M_338.1 ml_M_338.2.1 ml_M_338.2.2.1 ml_M_338.2.2.2.1 ml_M_338.2.2.2.2 (by omega) mm_26 (by omega) (Nat.le_of_ble_eq_true rfl) ?_
    obtain ⟨rfl, rfl⟩ := w
    exact vv_vret (pc := 238) d_M_call_238 rfl
  · replace w := w.2 hc
    refine vv_aload_n (pc := 181) d_M_call_181 rfl ?_
    refine vv_aload_n (pc := 182) d_M_call_182 rfl ?_
    refine ww_gr (pc := 183) 13 37 d_M_call_183 fl_M_40 (by omega) rfl (by decide) ?_
    refine vv_iconst (pc := 186) (v := 4) d_M_call_186 rfl ?_
    refine vv_iload (pc := 187) d_M_call_187 rfl ?_
    refine vv_imul (pc := 189) d_M_call_189 ?_
    refine vv_iload (pc := 190) d_M_call_190 rfl ?_
    refine vv_iadd (pc := 192) d_M_call_192 ?_
    obtain ⟨b4, w⟩ := w
    refine ww_ld (pc := 193) 37 d_M_call_193 (by omega) (by decide) b4 ?_
    refine vv_aload_n (pc := 194) d_M_call_194 rfl ?_
    refine ww_gr (pc := 195) 69 75 d_M_call_195 fl_M_154 (by omega) rfl (by decide) ?_
    refine vv_bipush (pc := 198) (v := 8) d_M_call_198 rfl ?_
    refine vv_iload_n (pc := 200) d_M_call_200 rfl ?_
    refine vv_imul (pc := 201) d_M_call_201 ?_
    refine vv_iload (pc := 202) d_M_call_202 rfl ?_
    refine vv_iadd (pc := 204) d_M_call_204 ?_
    obtain ⟨b5, w⟩ := w
    refine ww_ld (pc := 205) 75 d_M_call_205 (by omega) (by decide) b5 ?_
    refine vv_iload (pc := 206) d_M_call_206 rfl ?_
    obtain ⟨T7, c6, w⟩ := w
    refine vv_callV (pc := 208) (As := [.int ((S.2 37) (Int32.toNatClampNeg ((4 * x5) + x7))), .int ((S.2 75) (Int32.toNatClampNeg ((8 * x1) + x7))), .int x6]) d_M_call_208 (c6 G h n z (d - 1) hn (by omega)) k_M_bind ml_M_346.1 ml_M_346.2.1 ml_M_346.2.2.1 ml_M_346.2.2.2.1 ml_M_346.2.2.2.2 (by omega) mm_26 (by omega) (Nat.le_of_ble_eq_true rfl) ?_
    refine vv_aload_n (pc := 211) d_M_call_211 rfl ?_
    refine ww_gi (pc := 212) 70 d_M_call_212 fl_M_317 (by omega) rfl ?_
    refine vv_iconst (pc := 215) (v := 1) d_M_call_215 rfl ?_
    refine vv_isub (pc := 216) d_M_call_216 ?_
    refine vv_istore (pc := 217) d_M_call_217 (Nat.le_of_ble_eq_true rfl) ?_
    refine vv_iinc (pc := 219) (v := (x7 + 1)) d_M_call_219 rfl rfl (Nat.le_of_ble_eq_true rfl) ?_
    refine vv_goto (pc := 222) (tgt := 174) d_M_call_222 rfl ?_
    exact vv_sub [2, 3, 4, 5, 6, 7, 1, 0] rfl (w G h n z d hn hd)
def wp_M_add_0 (o : Option Value) (S' : cp_S) (S : cp_S) (x1 : Int32) (x2 : Int32) (x3 : Int32) : Prop := ((2 ≤ (x3 : Int32) → vp_in (8 * x1) (cp_ml 75) ∧ ∃ r4 T3, MC 0 m_M_seen [.int ((S.2 75) (Int32.toNatClampNeg (8 * x1)))] S (some (.int r4)) T3 ∧ vp_in ((8 * x1) + 1) (cp_ml 75) ∧ ∃ r8 T7, MC 0 m_M_seen [.int ((T3.2 75) (Int32.toNatClampNeg ((8 * x1) + 1)))] T3 (some (.int r8)) T7 ∧ vp_in r4 (cp_ml 52) ∧ ((¬ (((T7.2 52) (Int32.toNatClampNeg r4)) : Int32) = 0 → (o = none ∧ S' = ((va_up T7.1 63 1), T7.2))) ∧ ((((T7.2 52) (Int32.toNatClampNeg r4)) : Int32) = 0 → vp_in r8 (cp_ml 52) ∧ (((((T7.2 52) (Int32.toNatClampNeg r8)) : Int32) = 0 → vp_in x2 (cp_ml 39) ∧ ((¬ (((T7.2 39) (Int32.toNatClampNeg x2)) : Int32) = 6 → vp_in r4 (cp_ml 53) ∧ vp_in r8 (cp_ml 53) ∧ ∃ r16 T15, MC 0 m_M_value [.int 0, .int (((T7.2 53) (Int32.toNatClampNeg r4)) - ((T7.2 53) (Int32.toNatClampNeg r8)))] T7 (some (.int r16)) T15 ∧ ∃ T18, MC 0 m_M_give [.int r16] T15 none T18 ∧ (o = none ∧ S' = T18)) ∧ ((((T7.2 39) (Int32.toNatClampNeg x2)) : Int32) = 6 → vp_in r4 (cp_ml 53) ∧ vp_in r8 (cp_ml 53) ∧ ∃ r23 T22, MC 0 m_M_value [.int 0, .int (((T7.2 53) (Int32.toNatClampNeg r4)) + ((T7.2 53) (Int32.toNatClampNeg r8)))] T7 (some (.int r23)) T22 ∧ ∃ T25, MC 0 m_M_give [.int r23] T22 none T25 ∧ (o = none ∧ S' = T25)))) ∧ (¬ (((T7.2 52) (Int32.toNatClampNeg r8)) : Int32) = 0 → (o = none ∧ S' = ((va_up T7.1 63 1), T7.2))))))) ∧ (¬ 2 ≤ (x3 : Int32) → ∃ r28 T27, MC 2 m_M_child [.int x2, .int x3] S (some (.int r28)) T27 ∧ vp_in x1 (cp_ml 74) ∧ ∃ T31, MC 0 m_M_enter [.int r28, .int ((T27.2 74) (Int32.toNatClampNeg x1))] T27 none T31 ∧ (o = none ∧ S' = T31)))
theorem b_M_add_0 {o : Option Value} {S' S : cp_S} {x1 : Int32} {x2 : Int32} {x3 : Int32} (w : wp_M_add_0 o S' S x1 x2 x3) : JJ 3 m_M_add o S' 0 [(1, .int x1), (2, .int x2), (3, .int x3)] S := by
  unfold wp_M_add_0 at w
  intro G h n z d hn hd
  refine vv_iload_n (pc := 0) d_M_add_0 rfl ?_
  refine vv_iconst (pc := 1) (v := 2) d_M_add_1 rfl ?_
  refine vv_icmp_ge (pc := 2) (tgt := 22) d_M_add_2 rfl (fun hc => ?_) (fun hc => ?_)
  · replace w := w.1 hc
    refine vv_aload_n (pc := 22) d_M_add_22 rfl ?_
    refine vv_aload_n (pc := 23) d_M_add_23 rfl ?_
    refine ww_gr (pc := 24) 69 75 d_M_add_24 fl_M_154 (by omega) rfl (by decide) ?_
    refine vv_bipush (pc := 27) (v := 8) d_M_add_27 rfl ?_
    refine vv_iload_n (pc := 29) d_M_add_29 rfl ?_
    refine vv_imul (pc := 30) d_M_add_30 ?_
    obtain ⟨b1, w⟩ := w
    refine ww_ld (pc := 31) 75 d_M_add_31 (by omega) (by decide) b1 ?_
    obtain ⟨r4, T3, c2, w⟩ := w
    refine vv_callV (pc := 32) (As := [.int ((S.2 75) (Int32.toNatClampNeg (8 * x1)))]) d_M_add_32 (c2 G h n z (d - 1) hn (by omega)) k_M_seen ml_M_275.1 ml_M_275.2.1 ml_M_275.2.2.1 ml_M_275.2.2.2.1 ml_M_275.2.2.2.2 (by omega) mm_26 (by omega) (Nat.le_of_ble_eq_true rfl) ?_
    refine vv_istore (pc := 35) d_M_add_35 (Nat.le_of_ble_eq_true rfl) ?_
    refine vv_aload_n (pc := 37) d_M_add_37 rfl ?_
    refine vv_aload_n (pc := 38) d_M_add_38 rfl ?_
    refine ww_gr (pc := 39) 69 75 d_M_add_39 fl_M_154 (by omega) rfl (by decide) ?_
    refine vv_bipush (pc := 42) (v := 8) d_M_add_42 rfl ?_
    refine vv_iload_n (pc := 44) d_M_add_44 rfl ?_
    refine vv_imul (pc := 45) d_M_add_45 ?_
    refine vv_iconst (pc := 46) (v := 1) d_M_add_46 rfl ?_
    refine vv_iadd (pc := 47) d_M_add_47 ?_
    obtain ⟨b5, w⟩ := w
    refine ww_ld (pc := 48) 75 d_M_add_48 (by omega) (by decide) b5 ?_
    obtain ⟨r8, T7, c6, w⟩ := w
    refine vv_callV (pc := 49) (As := [.int ((T3.2 75) (Int32.toNatClampNeg ((8 * x1) + 1)))]) d_M_add_49 (c6 G h n z (d - 1) hn (by omega)) k_M_seen ml_M_275.1 ml_M_275.2.1 ml_M_275.2.2.1 ml_M_275.2.2.2.1 ml_M_275.2.2.2.2 (by omega) mm_26 (by omega) (Nat.le_of_ble_eq_true rfl) ?_
    refine vv_istore (pc := 52) d_M_add_52 (Nat.le_of_ble_eq_true rfl) ?_
    refine vv_aload_n (pc := 54) d_M_add_54 rfl ?_
    refine ww_gr (pc := 55) 36 52 d_M_add_55 fl_M_85 (by omega) rfl (by decide) ?_
    refine vv_iload (pc := 58) d_M_add_58 rfl ?_
    obtain ⟨b9, w⟩ := w
    refine ww_ld (pc := 60) 52 d_M_add_60 (by omega) (by decide) b9 ?_
    refine vv_if_ne (pc := 61) (tgt := 74) d_M_add_61 rfl (fun hc => ?_) (fun hc => ?_)
    · replace w := w.1 hc
      refine vv_aload_n (pc := 74) d_M_add_74 rfl ?_
      refine vv_iconst (pc := 75) (v := 1) d_M_add_75 rfl ?_
      refine ww_pi (pc := 76) 63 d_M_add_76 fl_M_326 (by omega) rfl rfl rfl rfl ?_
      refine vv_goto (pc := 79) (tgt := 135) d_M_add_79 rfl ?_
      obtain ⟨rfl, rfl⟩ := w
      exact vv_vret (pc := 135) d_M_add_135 rfl
    · replace w := w.2 hc
      refine vv_aload_n (pc := 64) d_M_add_64 rfl ?_
      refine ww_gr (pc := 65) 36 52 d_M_add_65 fl_M_85 (by omega) rfl (by decide) ?_
      refine vv_iload (pc := 68) d_M_add_68 rfl ?_
      obtain ⟨b10, w⟩ := w
      refine ww_ld (pc := 70) 52 d_M_add_70 (by omega) (by decide) b10 ?_
      refine vv_if_eq (pc := 71) (tgt := 82) d_M_add_71 rfl (fun hc => ?_) (fun hc => ?_)
      · replace w := w.1 hc
        refine vv_aload_n (pc := 82) d_M_add_82 rfl ?_
        refine vv_aload_n (pc := 83) d_M_add_83 rfl ?_
        refine vv_iconst (pc := 84) (v := 0) d_M_add_84 rfl ?_
        refine vv_aload_n (pc := 85) d_M_add_85 rfl ?_
        refine ww_gr (pc := 86) 17 39 d_M_add_86 fl_M_46 (by omega) rfl (by decide) ?_
        refine vv_iload_n (pc := 89) d_M_add_89 rfl ?_
        obtain ⟨b11, w⟩ := w
        refine ww_ld (pc := 90) 39 d_M_add_90 (by omega) (by decide) b11 ?_
        refine vv_bipush (pc := 91) (v := 6) d_M_add_91 rfl ?_
        refine vv_icmp_ne (pc := 93) (tgt := 114) d_M_add_93 rfl (fun hc => ?_) (fun hc => ?_)
        · replace w := w.1 hc
          refine vv_aload_n (pc := 114) d_M_add_114 rfl ?_
          refine ww_gr (pc := 115) 37 53 d_M_add_115 fl_M_88 (by omega) rfl (by decide) ?_
          refine vv_iload (pc := 118) d_M_add_118 rfl ?_
          obtain ⟨b12, w⟩ := w
          refine ww_ld (pc := 120) 53 d_M_add_120 (by omega) (by decide) b12 ?_
          refine vv_aload_n (pc := 121) d_M_add_121 rfl ?_
          refine ww_gr (pc := 122) 37 53 d_M_add_122 fl_M_88 (by omega) rfl (by decide) ?_
          refine vv_iload (pc := 125) d_M_add_125 rfl ?_
          obtain ⟨b13, w⟩ := w
          refine ww_ld (pc := 127) 53 d_M_add_127 (by omega) (by decide) b13 ?_
          refine vv_isub (pc := 128) d_M_add_128 ?_
          obtain ⟨r16, T15, c14, w⟩ := w
          refine vv_callV (pc := 129) (As := [.int 0, .int (((T7.2 53) (Int32.toNatClampNeg r4)) - ((T7.2 53) (Int32.toNatClampNeg r8)))]) d_M_add_129 (c14 G h n z (d - 1) hn (by omega)) k_M_value ml_M_271.1 ml_M_271.2.1 ml_M_271.2.2.1 ml_M_271.2.2.2.1 ml_M_271.2.2.2.2 (by omega) mm_26 (by omega) (Nat.le_of_ble_eq_true rfl) ?_
          obtain ⟨T18, c17, w⟩ := w
          refine vv_callV (pc := 132) (As := [.int r16]) d_M_add_132 (c17 G h n z (d - 1) hn (by omega)) k_M_give ml_M_342.1 ml_M_342.2.1 ml_M_342.2.2.1 ml_M_342.2.2.2.1 ml_M_342.2.2.2.2 (by omega) mm_26 (by omega) (Nat.le_of_ble_eq_true rfl) ?_
          obtain ⟨rfl, rfl⟩ := w
          exact vv_vret (pc := 135) d_M_add_135 rfl
        · replace w := w.2 hc
          refine vv_aload_n (pc := 96) d_M_add_96 rfl ?_
          refine ww_gr (pc := 97) 37 53 d_M_add_97 fl_M_88 (by omega) rfl (by decide) ?_
          refine vv_iload (pc := 100) d_M_add_100 rfl ?_
          obtain ⟨b19, w⟩ := w
          refine ww_ld (pc := 102) 53 d_M_add_102 (by omega) (by decide) b19 ?_
          refine vv_aload_n (pc := 103) d_M_add_103 rfl ?_
          refine ww_gr (pc := 104) 37 53 d_M_add_104 fl_M_88 (by omega) rfl (by decide) ?_
          refine vv_iload (pc := 107) d_M_add_107 rfl ?_
          obtain ⟨b20, w⟩ := w
          refine ww_ld (pc := 109) 53 d_M_add_109 (by omega) (by decide) b20 ?_
          refine vv_iadd (pc := 110) d_M_add_110 ?_
          refine vv_goto (pc := 111) (tgt := 129) d_M_add_111 rfl ?_
          obtain ⟨r23, T22, c21, w⟩ := w
          refine vv_callV (pc := 129) (As := [.int 0, .int (((T7.2 53) (Int32.toNatClampNeg r4)) + ((T7.2 53) (Int32.toNatClampNeg r8)))]) d_M_add_129 (c21 G h n z (d - 1) hn (by omega)) k_M_value ml_M_271.1 ml_M_271.2.1 ml_M_271.2.2.1 ml_M_271.2.2.2.1 ml_M_271.2.2.2.2 (by omega) mm_26 (by omega) (Nat.le_of_ble_eq_true rfl) ?_
          obtain ⟨T25, c24, w⟩ := w
          refine vv_callV (pc := 132) (As := [.int r23]) d_M_add_132 (c24 G h n z (d - 1) hn (by omega)) k_M_give ml_M_342.1 ml_M_342.2.1 ml_M_342.2.2.1 ml_M_342.2.2.2.1 ml_M_342.2.2.2.2 (by omega) mm_26 (by omega) (Nat.le_of_ble_eq_true rfl) ?_
          obtain ⟨rfl, rfl⟩ := w
          exact vv_vret (pc := 135) d_M_add_135 rfl
      · replace w := w.2 hc
        refine vv_aload_n (pc := 74) d_M_add_74 rfl ?_
        refine vv_iconst (pc := 75) (v := 1) d_M_add_75 rfl ?_
        refine ww_pi (pc := 76) 63 d_M_add_76 fl_M_326 (by omega) rfl rfl rfl rfl ?_
        refine vv_goto (pc := 79) (tgt := 135) d_M_add_79 rfl ?_
        obtain ⟨rfl, rfl⟩ := w
        exact vv_vret (pc := 135) d_M_add_135 rfl
  · replace w := w.2 hc
    refine vv_aload_n (pc := 5) d_M_add_5 rfl ?_
    refine vv_aload_n (pc := 6) d_M_add_6 rfl ?_
    refine vv_iload_n (pc := 7) d_M_add_7 rfl ?_
    refine vv_iload_n (pc := 8) d_M_add_8 rfl ?_
    obtain ⟨r28, T27, c26, w⟩ := w
    refine vv_callV (pc := 9) (As := [.int x2, .int x3]) d_M_add_9 (c26 G h n z (d - 1) hn (by omega)) k_M_child ml_M_335.1 ml_M_335.2.1 ml_M_335.2.2.1 ml_M_335.2.2.2.1 ml_M_335.2.2.2.2 (by omega) mm_26 (by omega) (Nat.le_of_ble_eq_true rfl) ?_
    refine vv_aload_n (pc := 12) d_M_add_12 rfl ?_
    refine ww_gr (pc := 13) 68 74 d_M_add_13 fl_M_151 (by omega) rfl (by decide) ?_
    refine vv_iload_n (pc := 16) d_M_add_16 rfl ?_
    obtain ⟨b29, w⟩ := w
    refine ww_ld (pc := 17) 74 d_M_add_17 (by omega) (by decide) b29 ?_
    obtain ⟨T31, c30, w⟩ := w
    refine vv_callV (pc := 18) (As := [.int r28, .int ((T27.2 74) (Int32.toNatClampNeg x1))]) d_M_add_18 (c30 G h n z (d - 1) hn (by omega)) k_M_enter ml_M_338.1 ml_M_338.2.1 ml_M_338.2.2.1 ml_M_338.2.2.2.1 ml_M_338.2.2.2.2 (by omega) mm_26 (by omega) (Nat.le_of_ble_eq_true rfl) ?_
    obtain ⟨rfl, rfl⟩ := w
    exact vv_vret (pc := 21) d_M_add_21 rfl
theorem c_M_add {o : Option Value} {S' S : cp_S} {x1 : Int32} {x2 : Int32} {x3 : Int32} (w : JJ 3 m_M_add o S' 0 [(1, .int x1), (2, .int x2), (3, .int x3)] S) : MC 3 m_M_add [.int x1, .int x2, .int x3] S o S' := fun G h n z d hn hd => cp_C.of rfl (Nat.le_of_ble_eq_true rfl) (w G h n z d hn hd)
def wp_M_match_0 (o : Option Value) (S' : cp_S) (S : cp_S) (x1 : Int32) (x2 : Int32) (x3 : Int32) : Prop := ((¬ (x3 : Int32) = 0 → ((¬ (x3 : Int32) = 2 → vp_in (8 * x1) (cp_ml 75) ∧ ∃ r4 T3, MC 0 m_M_seen [.int ((S.2 75) (Int32.toNatClampNeg (8 * x1)))] S (some (.int r4)) T3 ∧ vp_in x1 (cp_ml 74) ∧ ∃ r8 T7, MC 1 m_M_behind [.int (x2 + 1)] T3 (some (.int r8)) T7 ∧ JJ 2 m_M_match o S' 74 [(1, .int x1), (2, .int x2), (3, .int x3), (4, .int r4), (5, .int ((T3.2 74) (Int32.toNatClampNeg x1))), (6, .int r8), (7, .int 0)] T7) ∧ ((x3 : Int32) = 2 → vp_in ((8 * x1) + 1) (cp_ml 75) ∧ ∃ T11, MC 0 m_M_give [.int ((S.2 75) (Int32.toNatClampNeg ((8 * x1) + 1)))] S none T11 ∧ (o = none ∧ S' = T11)))) ∧ ((x3 : Int32) = 0 → vp_in x1 (cp_ml 74) ∧ ∃ T14, MC 0 m_M_enter [.int (x2 + 1), .int ((S.2 74) (Int32.toNatClampNeg x1))] S none T14 ∧ (o = none ∧ S' = T14)))
theorem b_M_match_0 {o : Option Value} {S' S : cp_S} {x1 : Int32} {x2 : Int32} {x3 : Int32} (w : wp_M_match_0 o S' S x1 x2 x3) : JJ 2 m_M_match o S' 0 [(1, .int x1), (2, .int x2), (3, .int x3)] S := by
  unfold wp_M_match_0 at w
  intro G h n z d hn hd
  refine vv_iload_n (pc := 0) d_M_match_0 rfl ?_
  refine vv_if_ne (pc := 1) (tgt := 18) d_M_match_1 rfl (fun hc => ?_) (fun hc => ?_)
  · replace w := w.1 hc
    refine vv_iload_n (pc := 18) d_M_match_18 rfl ?_
    refine vv_iconst (pc := 19) (v := 2) d_M_match_19 rfl ?_
    refine vv_icmp_ne (pc := 20) (tgt := 39) d_M_match_20 rfl (fun hc => ?_) (fun hc => ?_)
    · replace w := w.1 hc
      refine vv_aload_n (pc := 39) d_M_match_39 rfl ?_
      refine vv_aload_n (pc := 40) d_M_match_40 rfl ?_
      refine ww_gr (pc := 41) 69 75 d_M_match_41 fl_M_154 (by omega) rfl (by decide) ?_
      refine vv_bipush (pc := 44) (v := 8) d_M_match_44 rfl ?_
      refine vv_iload_n (pc := 46) d_M_match_46 rfl ?_
      refine vv_imul (pc := 47) d_M_match_47 ?_
      obtain ⟨b1, w⟩ := w
      refine ww_ld (pc := 48) 75 d_M_match_48 (by omega) (by decide) b1 ?_
      obtain ⟨r4, T3, c2, w⟩ := w
      refine vv_callV (pc := 49) (As := [.int ((S.2 75) (Int32.toNatClampNeg (8 * x1)))]) d_M_match_49 (c2 G h n z (d - 1) hn (by omega)) k_M_seen ml_M_275.1 ml_M_275.2.1 ml_M_275.2.2.1 ml_M_275.2.2.2.1 ml_M_275.2.2.2.2 (by omega) mm_26 (by omega) (Nat.le_of_ble_eq_true rfl) ?_
      refine vv_istore (pc := 52) d_M_match_52 (Nat.le_of_ble_eq_true rfl) ?_
      refine vv_aload_n (pc := 54) d_M_match_54 rfl ?_
      refine ww_gr (pc := 55) 68 74 d_M_match_55 fl_M_151 (by omega) rfl (by decide) ?_
      refine vv_iload_n (pc := 58) d_M_match_58 rfl ?_
      obtain ⟨b5, w⟩ := w
      refine ww_ld (pc := 59) 74 d_M_match_59 (by omega) (by decide) b5 ?_
      refine vv_istore (pc := 60) d_M_match_60 (Nat.le_of_ble_eq_true rfl) ?_
      refine vv_aload_n (pc := 62) d_M_match_62 rfl ?_
      refine vv_iload_n (pc := 63) d_M_match_63 rfl ?_
      refine vv_iconst (pc := 64) (v := 1) d_M_match_64 rfl ?_
      refine vv_iadd (pc := 65) d_M_match_65 ?_
      obtain ⟨r8, T7, c6, w⟩ := w
      refine vv_callV (pc := 66) (As := [.int (x2 + 1)]) d_M_match_66 (c6 G h n z (d - 1) hn (by omega)) k_M_behind ml_M_268.1 ml_M_268.2.1 ml_M_268.2.2.1 ml_M_268.2.2.2.1 ml_M_268.2.2.2.2 (by omega) mm_26 (by omega) (Nat.le_of_ble_eq_true rfl) ?_
      refine vv_istore (pc := 69) d_M_match_69 (Nat.le_of_ble_eq_true rfl) ?_
      refine vv_iconst (pc := 71) (v := 0) d_M_match_71 rfl ?_
      refine vv_istore (pc := 72) d_M_match_72 (Nat.le_of_ble_eq_true rfl) ?_
      exact vv_sub [4, 5, 6, 7, 3, 2, 1, 0] rfl (w G h n z d hn hd)
    · replace w := w.2 hc
      refine vv_aload_n (pc := 23) d_M_match_23 rfl ?_
      refine vv_aload_n (pc := 24) d_M_match_24 rfl ?_
      refine ww_gr (pc := 25) 69 75 d_M_match_25 fl_M_154 (by omega) rfl (by decide) ?_
      refine vv_bipush (pc := 28) (v := 8) d_M_match_28 rfl ?_
      refine vv_iload_n (pc := 30) d_M_match_30 rfl ?_
      refine vv_imul (pc := 31) d_M_match_31 ?_
      refine vv_iconst (pc := 32) (v := 1) d_M_match_32 rfl ?_
      refine vv_iadd (pc := 33) d_M_match_33 ?_
      obtain ⟨b9, w⟩ := w
      refine ww_ld (pc := 34) 75 d_M_match_34 (by omega) (by decide) b9 ?_
      obtain ⟨T11, c10, w⟩ := w
      refine vv_callV (pc := 35) (As := [.int ((S.2 75) (Int32.toNatClampNeg ((8 * x1) + 1)))]) d_M_match_35 (c10 G h n z (d - 1) hn (by omega)) k_M_give ml_M_342.1 ml_M_342.2.1 ml_M_342.2.2.1 ml_M_342.2.2.2.1 ml_M_342.2.2.2.2 (by omega) mm_26 (by omega) (Nat.le_of_ble_eq_true rfl) ?_
      obtain ⟨rfl, rfl⟩ := w
      exact vv_vret (pc := 38) d_M_match_38 rfl
  · replace w := w.2 hc
    refine vv_aload_n (pc := 4) d_M_match_4 rfl ?_
    refine vv_iload_n (pc := 5) d_M_match_5 rfl ?_
    refine vv_iconst (pc := 6) (v := 1) d_M_match_6 rfl ?_
    refine vv_iadd (pc := 7) d_M_match_7 ?_
    refine vv_aload_n (pc := 8) d_M_match_8 rfl ?_
    refine ww_gr (pc := 9) 68 74 d_M_match_9 fl_M_151 (by omega) rfl (by decide) ?_
    refine vv_iload_n (pc := 12) d_M_match_12 rfl ?_
    obtain ⟨b12, w⟩ := w
    refine ww_ld (pc := 13) 74 d_M_match_13 (by omega) (by decide) b12 ?_
    obtain ⟨T14, c13, w⟩ := w
    refine vv_callV (pc := 14) (As := [.int (x2 + 1), .int ((S.2 74) (Int32.toNatClampNeg x1))]) d_M_match_14 (c13 G h n z (d - 1) hn (by omega)) k_M_enter ml_M_338.1 ml_M_338.2.1 ml_M_338.2.2.1 ml_M_338.2.2.2.1 ml_M_338.2.2.2.2 (by omega) mm_26 (by omega) (Nat.le_of_ble_eq_true rfl) ?_
    obtain ⟨rfl, rfl⟩ := w
    exact vv_vret (pc := 17) d_M_match_17 rfl
theorem c_M_match {o : Option Value} {S' S : cp_S} {x1 : Int32} {x2 : Int32} {x3 : Int32} (w : JJ 2 m_M_match o S' 0 [(1, .int x1), (2, .int x2), (3, .int x3)] S) : MC 2 m_M_match [.int x1, .int x2, .int x3] S o S' := fun G h n z d hn hd => cp_C.of rfl (Nat.le_of_ble_eq_true rfl) (w G h n z d hn hd)
def wp_M_match_74 (o : Option Value) (S' : cp_S) (S : cp_S) (x1 : Int32) (x2 : Int32) (x3 : Int32) (x4 : Int32) (x5 : Int32) (x6 : Int32) (x7 : Int32) : Prop := vp_in x2 (cp_ml 41) ∧ ((((S.2 41) (Int32.toNatClampNeg x2)) ≤ (x7 : Int32) → (o = none ∧ S' = ((va_up S.1 63 1), S.2))) ∧ (¬ ((S.2 41) (Int32.toNatClampNeg x2)) ≤ (x7 : Int32) → vp_in x4 (cp_ml 52) ∧ (((((S.2 52) (Int32.toNatClampNeg x4)) : Int32) = 2 → (o = none ∧ S' = ((va_up S.1 63 1), S.2))) ∧ (¬ (((S.2 52) (Int32.toNatClampNeg x4)) : Int32) = 2 → ∃ r5 T4, MC 1 m_M_behind [.int x6] S (some (.int r5)) T4 ∧ vp_in x6 (cp_ml 39) ∧ (((((T4.2 39) (Int32.toNatClampNeg x6)) : Int32) = 11 → JJ 2 m_M_match o S' 195 [(1, .int x1), (2, .int x2), (3, .int x3), (4, .int x4), (5, .int x5), (6, .int x6), (7, .int x7), (8, .int r5)] T4) ∧ (¬ (((T4.2 39) (Int32.toNatClampNeg x6)) : Int32) = 11 → vp_in x6 (cp_ml 39) ∧ ((¬ (((T4.2 39) (Int32.toNatClampNeg x6)) : Int32) = 12 → JJ 2 m_M_match o S' 155 [(1, .int x1), (2, .int x2), (3, .int x3), (4, .int x4), (5, .int x5), (6, .int x6), (7, .int x7), (8, .int r5)] T4) ∧ ((((T4.2 39) (Int32.toNatClampNeg x6)) : Int32) = 12 → vp_in x4 (cp_ml 52) ∧ ((¬ (((T4.2 52) (Int32.toNatClampNeg x4)) : Int32) = 0 → JJ 2 m_M_match o S' 155 [(1, .int x1), (2, .int x2), (3, .int x3), (4, .int x4), (5, .int x5), (6, .int x6), (7, .int x7), (8, .int r5)] T4) ∧ ((((T4.2 52) (Int32.toNatClampNeg x4)) : Int32) = 0 → vp_in x4 (cp_ml 53) ∧ vp_in x6 (cp_ml 40) ∧ (((((T4.2 53) (Int32.toNatClampNeg x4)) : Int32) = ((T4.2 40) (Int32.toNatClampNeg x6)) → JJ 2 m_M_match o S' 195 [(1, .int x1), (2, .int x2), (3, .int x3), (4, .int x4), (5, .int x5), (6, .int x6), (7, .int x7), (8, .int r5)] T4) ∧ (¬ (((T4.2 53) (Int32.toNatClampNeg x4)) : Int32) = ((T4.2 40) (Int32.toNatClampNeg x6)) → JJ 2 m_M_match o S' 155 [(1, .int x1), (2, .int x2), (3, .int x3), (4, .int x4), (5, .int x5), (6, .int x6), (7, .int x7), (8, .int r5)] T4))))))))))))
theorem b_M_match_74 {o : Option Value} {S' S : cp_S} {x1 : Int32} {x2 : Int32} {x3 : Int32} {x4 : Int32} {x5 : Int32} {x6 : Int32} {x7 : Int32} (w : wp_M_match_74 o S' S x1 x2 x3 x4 x5 x6 x7) : JJ 2 m_M_match o S' 74 [(1, .int x1), (2, .int x2), (3, .int x3), (4, .int x4), (5, .int x5), (6, .int x6), (7, .int x7)] S := by
  unfold wp_M_match_74 at w
  intro G h n z d hn hd
  refine vv_iload (pc := 74) d_M_match_74 rfl ?_
  refine vv_aload_n (pc := 76) d_M_match_76 rfl ?_
  refine ww_gr (pc := 77) 19 41 d_M_match_77 fl_M_52 (by omega) rfl (by decide) ?_
  refine vv_iload_n (pc := 80) d_M_match_80 rfl ?_
  obtain ⟨b1, w⟩ := w
  refine ww_ld (pc := 81) 41 d_M_match_81 (by omega) (by decide) b1 ?_
  refine vv_icmp_ge (pc := 82) (tgt := 292) d_M_match_82 rfl (fun hc => ?_) (fun hc => ?_)
  · replace w := w.1 hc
    refine vv_aload_n (pc := 292) d_M_match_292 rfl ?_
    refine vv_iconst (pc := 293) (v := 1) d_M_match_293 rfl ?_
    refine ww_pi (pc := 294) 63 d_M_match_294 fl_M_326 (by omega) rfl rfl rfl rfl ?_
    obtain ⟨rfl, rfl⟩ := w
    exact vv_vret (pc := 297) d_M_match_297 rfl
  · replace w := w.2 hc
    refine vv_aload_n (pc := 85) d_M_match_85 rfl ?_
    refine ww_gr (pc := 86) 36 52 d_M_match_86 fl_M_85 (by omega) rfl (by decide) ?_
    refine vv_iload (pc := 89) d_M_match_89 rfl ?_
    obtain ⟨b2, w⟩ := w
    refine ww_ld (pc := 91) 52 d_M_match_91 (by omega) (by decide) b2 ?_
    refine vv_iconst (pc := 92) (v := 2) d_M_match_92 rfl ?_
    refine vv_icmp_eq (pc := 93) (tgt := 292) d_M_match_93 rfl (fun hc => ?_) (fun hc => ?_)
    · replace w := w.1 hc
      refine vv_aload_n (pc := 292) d_M_match_292 rfl ?_
      refine vv_iconst (pc := 293) (v := 1) d_M_match_293 rfl ?_
      refine ww_pi (pc := 294) 63 d_M_match_294 fl_M_326 (by omega) rfl rfl rfl rfl ?_
      obtain ⟨rfl, rfl⟩ := w
      exact vv_vret (pc := 297) d_M_match_297 rfl
    · replace w := w.2 hc
      refine vv_aload_n (pc := 96) d_M_match_96 rfl ?_
      refine vv_iload (pc := 97) d_M_match_97 rfl ?_
      obtain ⟨r5, T4, c3, w⟩ := w
      refine vv_callV (pc := 99) (As := [.int x6]) d_M_match_99 (c3 G h n z (d - 1) hn (by omega)) k_M_behind ml_M_268.1 ml_M_268.2.1 ml_M_268.2.2.1 ml_M_268.2.2.2.1 ml_M_268.2.2.2.2 (by omega) mm_26 (by omega) (Nat.le_of_ble_eq_true rfl) ?_
      refine vv_istore (pc := 102) d_M_match_102 (Nat.le_of_ble_eq_true rfl) ?_
      refine vv_aload_n (pc := 104) d_M_match_104 rfl ?_
      refine ww_gr (pc := 105) 17 39 d_M_match_105 fl_M_46 (by omega) rfl (by decide) ?_
      refine vv_iload (pc := 108) d_M_match_108 rfl ?_
      obtain ⟨b6, w⟩ := w
      refine ww_ld (pc := 110) 39 d_M_match_110 (by omega) (by decide) b6 ?_
      refine vv_bipush (pc := 111) (v := 11) d_M_match_111 rfl ?_
      refine vv_icmp_eq (pc := 113) (tgt := 195) d_M_match_113 rfl (fun hc => ?_) (fun hc => ?_)
      · replace w := w.1 hc
        exact vv_sub [1, 2, 3, 4, 5, 6, 7, 8, 0] rfl (w G h n z d hn hd)
      · replace w := w.2 hc
        refine vv_aload_n (pc := 116) d_M_match_116 rfl ?_
        refine ww_gr (pc := 117) 17 39 d_M_match_117 fl_M_46 (by omega) rfl (by decide) ?_
        refine vv_iload (pc := 120) d_M_match_120 rfl ?_
        obtain ⟨b7, w⟩ := w
        refine ww_ld (pc := 122) 39 d_M_match_122 (by omega) (by decide) b7 ?_
        refine vv_bipush (pc := 123) (v := 12) d_M_match_123 rfl ?_
        refine vv_icmp_ne (pc := 125) (tgt := 155) d_M_match_125 rfl (fun hc => ?_) (fun hc => ?_)
        · replace w := w.1 hc
          exact vv_sub [1, 2, 3, 4, 5, 6, 7, 8, 0] rfl (w G h n z d hn hd)
        · replace w := w.2 hc
          refine vv_aload_n (pc := 128) d_M_match_128 rfl ?_
          refine ww_gr (pc := 129) 36 52 d_M_match_129 fl_M_85 (by omega) rfl (by decide) ?_
          refine vv_iload (pc := 132) d_M_match_132 rfl ?_
          obtain ⟨b8, w⟩ := w
          refine ww_ld (pc := 134) 52 d_M_match_134 (by omega) (by decide) b8 ?_
          refine vv_if_ne (pc := 135) (tgt := 155) d_M_match_135 rfl (fun hc => ?_) (fun hc => ?_)
          · replace w := w.1 hc
            exact vv_sub [1, 2, 3, 4, 5, 6, 7, 8, 0] rfl (w G h n z d hn hd)
          · replace w := w.2 hc
            refine vv_aload_n (pc := 138) d_M_match_138 rfl ?_
            refine ww_gr (pc := 139) 37 53 d_M_match_139 fl_M_88 (by omega) rfl (by decide) ?_
            refine vv_iload (pc := 142) d_M_match_142 rfl ?_
            obtain ⟨b9, w⟩ := w
            refine ww_ld (pc := 144) 53 d_M_match_144 (by omega) (by decide) b9 ?_
            refine vv_aload_n (pc := 145) d_M_match_145 rfl ?_
            refine ww_gr (pc := 146) 18 40 d_M_match_146 fl_M_49 (by omega) rfl (by decide) ?_
            refine vv_iload (pc := 149) d_M_match_149 rfl ?_
            obtain ⟨b10, w⟩ := w
            refine ww_ld (pc := 151) 40 d_M_match_151 (by omega) (by decide) b10 ?_
            refine vv_icmp_eq (pc := 152) (tgt := 195) d_M_match_152 rfl (fun hc => ?_) (fun hc => ?_)
            · replace w := w.1 hc
              exact vv_sub [1, 2, 3, 4, 5, 6, 7, 8, 0] rfl (w G h n z d hn hd)
            · replace w := w.2 hc
              exact vv_sub [1, 2, 3, 4, 5, 6, 7, 8, 0] rfl (w G h n z d hn hd)
def wp_M_match_155 (o : Option Value) (S' : cp_S) (S : cp_S) (x1 : Int32) (x2 : Int32) (x3 : Int32) (x4 : Int32) (x5 : Int32) (x6 : Int32) (x7 : Int32) (x8 : Int32) : Prop := vp_in x6 (cp_ml 39) ∧ ((¬ (((S.2 39) (Int32.toNatClampNeg x6)) : Int32) = 13 → JJ 2 m_M_match o S' 199 [(1, .int x1), (2, .int x2), (3, .int x3), (4, .int x4), (5, .int x5), (6, .int x6), (7, .int x7), (8, .int x8)] S) ∧ ((((S.2 39) (Int32.toNatClampNeg x6)) : Int32) = 13 → vp_in x4 (cp_ml 52) ∧ ((¬ (((S.2 52) (Int32.toNatClampNeg x4)) : Int32) = 3 → JJ 2 m_M_match o S' 199 [(1, .int x1), (2, .int x2), (3, .int x3), (4, .int x4), (5, .int x5), (6, .int x6), (7, .int x7), (8, .int x8)] S) ∧ ((((S.2 52) (Int32.toNatClampNeg x4)) : Int32) = 3 → vp_in x4 (cp_ml 53) ∧ vp_in x6 (cp_ml 40) ∧ ((¬ (((S.2 53) (Int32.toNatClampNeg x4)) : Int32) = ((S.2 40) (Int32.toNatClampNeg x6)) → JJ 2 m_M_match o S' 199 [(1, .int x1), (2, .int x2), (3, .int x3), (4, .int x4), (5, .int x5), (6, .int x6), (7, .int x7), (8, .int x8)] S) ∧ ((((S.2 53) (Int32.toNatClampNeg x4)) : Int32) = ((S.2 40) (Int32.toNatClampNeg x6)) → JJ 2 m_M_match o S' 195 [(1, .int x1), (2, .int x2), (3, .int x3), (4, .int x4), (5, .int x5), (6, .int x6), (7, .int x7), (8, .int x8)] S))))))
theorem b_M_match_155 {o : Option Value} {S' S : cp_S} {x1 : Int32} {x2 : Int32} {x3 : Int32} {x4 : Int32} {x5 : Int32} {x6 : Int32} {x7 : Int32} {x8 : Int32} (w : wp_M_match_155 o S' S x1 x2 x3 x4 x5 x6 x7 x8) : JJ 2 m_M_match o S' 155 [(1, .int x1), (2, .int x2), (3, .int x3), (4, .int x4), (5, .int x5), (6, .int x6), (7, .int x7), (8, .int x8)] S := by
  unfold wp_M_match_155 at w
  intro G h n z d hn hd
  refine vv_aload_n (pc := 155) d_M_match_155 rfl ?_
  refine ww_gr (pc := 156) 17 39 d_M_match_156 fl_M_46 (by omega) rfl (by decide) ?_
  refine vv_iload (pc := 159) d_M_match_159 rfl ?_
  obtain ⟨b1, w⟩ := w
  refine ww_ld (pc := 161) 39 d_M_match_161 (by omega) (by decide) b1 ?_
  refine vv_bipush (pc := 162) (v := 13) d_M_match_162 rfl ?_
  refine vv_icmp_ne (pc := 164) (tgt := 199) d_M_match_164 rfl (fun hc => ?_) (fun hc => ?_)
  · replace w := w.1 hc
    exact vv_sub [0, 1, 2, 3, 4, 5, 6, 7, 8] rfl (w G h n z d hn hd)
  · replace w := w.2 hc
    refine vv_aload_n (pc := 167) d_M_match_167 rfl ?_
    refine ww_gr (pc := 168) 36 52 d_M_match_168 fl_M_85 (by omega) rfl (by decide) ?_
    refine vv_iload (pc := 171) d_M_match_171 rfl ?_
    obtain ⟨b2, w⟩ := w
    refine ww_ld (pc := 173) 52 d_M_match_173 (by omega) (by decide) b2 ?_
    refine vv_iconst (pc := 174) (v := 3) d_M_match_174 rfl ?_
    refine vv_icmp_ne (pc := 175) (tgt := 199) d_M_match_175 rfl (fun hc => ?_) (fun hc => ?_)
    · replace w := w.1 hc
      exact vv_sub [0, 1, 2, 3, 4, 5, 6, 7, 8] rfl (w G h n z d hn hd)
    · replace w := w.2 hc
      refine vv_aload_n (pc := 178) d_M_match_178 rfl ?_
      refine ww_gr (pc := 179) 37 53 d_M_match_179 fl_M_88 (by omega) rfl (by decide) ?_
      refine vv_iload (pc := 182) d_M_match_182 rfl ?_
      obtain ⟨b3, w⟩ := w
      refine ww_ld (pc := 184) 53 d_M_match_184 (by omega) (by decide) b3 ?_
      refine vv_aload_n (pc := 185) d_M_match_185 rfl ?_
      refine ww_gr (pc := 186) 18 40 d_M_match_186 fl_M_49 (by omega) rfl (by decide) ?_
      refine vv_iload (pc := 189) d_M_match_189 rfl ?_
      obtain ⟨b4, w⟩ := w
      refine ww_ld (pc := 191) 40 d_M_match_191 (by omega) (by decide) b4 ?_
      refine vv_icmp_ne (pc := 192) (tgt := 199) d_M_match_192 rfl (fun hc => ?_) (fun hc => ?_)
      · replace w := w.1 hc
        exact vv_sub [0, 1, 2, 3, 4, 5, 6, 7, 8] rfl (w G h n z d hn hd)
      · replace w := w.2 hc
        exact vv_sub [0, 1, 2, 3, 4, 5, 6, 7, 8] rfl (w G h n z d hn hd)
def wp_M_match_195 (o : Option Value) (S' : cp_S) (S : cp_S) (x1 : Int32) (x2 : Int32) (x3 : Int32) (x4 : Int32) (x5 : Int32) (x6 : Int32) (x7 : Int32) (x8 : Int32) : Prop := (((1 : Int32) = 0 → ∃ r3 T2, MC 1 m_M_behind [.int x8] S (some (.int r3)) T2 ∧ JJ 2 m_M_match o S' 74 [(1, .int x1), (2, .int x2), (3, .int x3), (4, .int x4), (5, .int x5), (6, .int r3), (7, .int (x7 + 1))] T2) ∧ (¬ (1 : Int32) = 0 → JJ 2 m_M_match o S' 210 [(1, .int x1), (2, .int x2), (3, .int x3), (4, .int x4), (5, .int x5), (6, .int x6), (7, .int x7), (8, .int x8), (9, .int 1), (10, .int 0)] S))
theorem b_M_match_195 {o : Option Value} {S' S : cp_S} {x1 : Int32} {x2 : Int32} {x3 : Int32} {x4 : Int32} {x5 : Int32} {x6 : Int32} {x7 : Int32} {x8 : Int32} (w : wp_M_match_195 o S' S x1 x2 x3 x4 x5 x6 x7 x8) : JJ 2 m_M_match o S' 195 [(1, .int x1), (2, .int x2), (3, .int x3), (4, .int x4), (5, .int x5), (6, .int x6), (7, .int x7), (8, .int x8)] S := by
  unfold wp_M_match_195 at w
  intro G h n z d hn hd
  refine vv_iconst (pc := 195) (v := 1) d_M_match_195 rfl ?_
  refine vv_goto (pc := 196) (tgt := 200) d_M_match_196 rfl ?_
  refine vv_istore (pc := 200) d_M_match_200 (Nat.le_of_ble_eq_true rfl) ?_
  refine vv_iload (pc := 202) d_M_match_202 rfl ?_
  refine vv_if_eq (pc := 204) (tgt := 278) d_M_match_204 rfl (fun hc => ?_) (fun hc => ?_)
  · replace w := w.1 hc
    refine vv_aload_n (pc := 278) d_M_match_278 rfl ?_
    refine vv_iload (pc := 279) d_M_match_279 rfl ?_
    obtain ⟨r3, T2, c1, w⟩ := w
    refine vv_callV (pc := 281) (As := [.int x8]) d_M_match_281 (c1 G h n z (d - 1) hn (by omega)) k_M_behind ml_M_268.1 ml_M_268.2.1 ml_M_268.2.2.1 ml_M_268.2.2.2.1 ml_M_268.2.2.2.2 (by omega) mm_26 (by omega) (Nat.le_of_ble_eq_true rfl) ?_
    refine vv_istore (pc := 284) d_M_match_284 (Nat.le_of_ble_eq_true rfl) ?_
    refine vv_iinc (pc := 286) (v := (x7 + 1)) d_M_match_286 rfl rfl (Nat.le_of_ble_eq_true rfl) ?_
    refine vv_goto (pc := 289) (tgt := 74) d_M_match_289 rfl ?_
    exact vv_sub [3, 4, 5, 6, 7, 8, 1, 0] rfl (w G h n z d hn hd)
  · replace w := w.2 hc
    refine vv_iconst (pc := 207) (v := 0) d_M_match_207 rfl ?_
    refine vv_istore (pc := 208) d_M_match_208 (Nat.le_of_ble_eq_true rfl) ?_
    exact vv_sub [2, 3, 4, 5, 6, 7, 8, 9, 10, 1, 0] rfl (w G h n z d hn hd)
def wp_M_match_199 (o : Option Value) (S' : cp_S) (S : cp_S) (x1 : Int32) (x2 : Int32) (x3 : Int32) (x4 : Int32) (x5 : Int32) (x6 : Int32) (x7 : Int32) (x8 : Int32) : Prop := (((0 : Int32) = 0 → ∃ r3 T2, MC 1 m_M_behind [.int x8] S (some (.int r3)) T2 ∧ JJ 2 m_M_match o S' 74 [(1, .int x1), (2, .int x2), (3, .int x3), (4, .int x4), (5, .int x5), (6, .int r3), (7, .int (x7 + 1))] T2) ∧ (¬ (0 : Int32) = 0 → JJ 2 m_M_match o S' 210 [(1, .int x1), (2, .int x2), (3, .int x3), (4, .int x4), (5, .int x5), (6, .int x6), (7, .int x7), (8, .int x8), (9, .int 0), (10, .int 0)] S))
theorem b_M_match_199 {o : Option Value} {S' S : cp_S} {x1 : Int32} {x2 : Int32} {x3 : Int32} {x4 : Int32} {x5 : Int32} {x6 : Int32} {x7 : Int32} {x8 : Int32} (w : wp_M_match_199 o S' S x1 x2 x3 x4 x5 x6 x7 x8) : JJ 2 m_M_match o S' 199 [(1, .int x1), (2, .int x2), (3, .int x3), (4, .int x4), (5, .int x5), (6, .int x6), (7, .int x7), (8, .int x8)] S := by
  unfold wp_M_match_199 at w
  intro G h n z d hn hd
  refine vv_iconst (pc := 199) (v := 0) d_M_match_199 rfl ?_
  refine vv_istore (pc := 200) d_M_match_200 (Nat.le_of_ble_eq_true rfl) ?_
  refine vv_iload (pc := 202) d_M_match_202 rfl ?_
  refine vv_if_eq (pc := 204) (tgt := 278) d_M_match_204 rfl (fun hc => ?_) (fun hc => ?_)
  · replace w := w.1 hc
    refine vv_aload_n (pc := 278) d_M_match_278 rfl ?_
    refine vv_iload (pc := 279) d_M_match_279 rfl ?_
    obtain ⟨r3, T2, c1, w⟩ := w
    refine vv_callV (pc := 281) (As := [.int x8]) d_M_match_281 (c1 G h n z (d - 1) hn (by omega)) k_M_behind ml_M_268.1 ml_M_268.2.1 ml_M_268.2.2.1 ml_M_268.2.2.2.1 ml_M_268.2.2.2.2 (by omega) mm_26 (by omega) (Nat.le_of_ble_eq_true rfl) ?_
    refine vv_istore (pc := 284) d_M_match_284 (Nat.le_of_ble_eq_true rfl) ?_
    refine vv_iinc (pc := 286) (v := (x7 + 1)) d_M_match_286 rfl rfl (Nat.le_of_ble_eq_true rfl) ?_
    refine vv_goto (pc := 289) (tgt := 74) d_M_match_289 rfl ?_
    exact vv_sub [3, 4, 5, 6, 7, 8, 1, 0] rfl (w G h n z d hn hd)
  · replace w := w.2 hc
    refine vv_iconst (pc := 207) (v := 0) d_M_match_207 rfl ?_
    refine vv_istore (pc := 208) d_M_match_208 (Nat.le_of_ble_eq_true rfl) ?_
    exact vv_sub [2, 3, 4, 5, 6, 7, 8, 9, 10, 1, 0] rfl (w G h n z d hn hd)
def wp_M_match_210 (o : Option Value) (S' : cp_S) (S : cp_S) (x1 : Int32) (x2 : Int32) (x3 : Int32) (x4 : Int32) (x5 : Int32) (x6 : Int32) (x7 : Int32) (x8 : Int32) (x9 : Int32) (x10 : Int32) : Prop := vp_in x6 (cp_ml 41) ∧ ((((S.2 41) (Int32.toNatClampNeg x6)) ≤ (x10 : Int32) → ∃ T3, MC 0 m_M_enter [.int x8, .int x5] S none T3 ∧ (o = none ∧ S' = T3)) ∧ (¬ ((S.2 41) (Int32.toNatClampNeg x6)) ≤ (x10 : Int32) → vp_in ((x6 + 1) + x10) (cp_ml 40) ∧ vp_in x4 (cp_ml 54) ∧ vp_in (((S.2 54) (Int32.toNatClampNeg x4)) + x10) (cp_ml 56) ∧ ∃ T8, MC 0 m_M_bind [.int ((S.2 40) (Int32.toNatClampNeg ((x6 + 1) + x10))), .int ((S.2 56) (Int32.toNatClampNeg (((S.2 54) (Int32.toNatClampNeg x4)) + x10))), .int x5] S none T8 ∧ JJ 2 m_M_match o S' 210 [(1, .int x1), (2, .int x2), (3, .int x3), (4, .int x4), (5, .int ((T8.1 70) - 1)), (6, .int x6), (7, .int x7), (8, .int x8), (9, .int x9), (10, .int (x10 + 1))] T8))
theorem b_M_match_210 {o : Option Value} {S' S : cp_S} {x1 : Int32} {x2 : Int32} {x3 : Int32} {x4 : Int32} {x5 : Int32} {x6 : Int32} {x7 : Int32} {x8 : Int32} {x9 : Int32} {x10 : Int32} (w : wp_M_match_210 o S' S x1 x2 x3 x4 x5 x6 x7 x8 x9 x10) : JJ 2 m_M_match o S' 210 [(1, .int x1), (2, .int x2), (3, .int x3), (4, .int x4), (5, .int x5), (6, .int x6), (7, .int x7), (8, .int x8), (9, .int x9), (10, .int x10)] S := by
  unfold wp_M_match_210 at w
  intro G h n z d hn hd
  refine vv_iload (pc := 210) d_M_match_210 rfl ?_
  refine vv_aload_n (pc := 212) d_M_match_212 rfl ?_
  refine ww_gr (pc := 213) 19 41 d_M_match_213 fl_M_52 (by omega) rfl (by decide) ?_
  refine vv_iload (pc := 216) d_M_match_216 rfl ?_
  obtain ⟨b1, w⟩ := w
  refine ww_ld (pc := 218) 41 d_M_match_218 (by omega) (by decide) b1 ?_
  refine vv_icmp_ge (pc := 219) (tgt := 269) d_M_match_219 rfl (fun hc => ?_) (fun hc => ?_)
  · replace w := w.1 hc
    refine vv_aload_n (pc := 269) d_M_match_269 rfl ?_
    refine vv_iload (pc := 270) d_M_match_270 rfl ?_
    refine vv_iload (pc := 272) d_M_match_272 rfl ?_
    obtain ⟨T3, c2, w⟩ := w
    refine vv_callV (pc := 274) (As := [.int x8, .int x5]) d_M_match_274 (c2 G h n z (d - 1) hn (by omega)) k_M_enter ml_M_338.1 ml_M_338.2.1 ml_M_338.2.2.1 ml_M_338.2.2.2.1 ml_M_338.2.2.2.2 (by omega) mm_26 (by omega) (Nat.le_of_ble_eq_true rfl) ?_
    obtain ⟨rfl, rfl⟩ := w
    exact vv_vret (pc := 277) d_M_match_277 rfl
  · replace w := w.2 hc
    refine vv_aload_n (pc := 222) d_M_match_222 rfl ?_
    refine vv_aload_n (pc := 223) d_M_match_223 rfl ?_
    refine ww_gr (pc := 224) 18 40 d_M_match_224 fl_M_49 (by omega) rfl (by decide) ?_
    refine vv_iload (pc := 227) d_M_match_227 rfl ?_
    refine vv_iconst (pc := 229) (v := 1) d_M_match_229 rfl ?_
    refine vv_iadd (pc := 230) d_M_match_230 ?_
    refine vv_iload (pc := 231) d_M_match_231 rfl ?_
    refine vv_iadd (pc := 233) d_M_match_233 ?_
    obtain ⟨b4, w⟩ := w
    refine ww_ld (pc := 234) 40 d_M_match_234 (by omega) (by decide) b4 ?_
    refine vv_aload_n (pc := 235) d_M_match_235 rfl ?_
    refine ww_gr (pc := 236) 41 56 d_M_match_236 fl_M_97 (by omega) rfl (by decide) ?_
    refine vv_aload_n (pc := 239) d_M_match_239 rfl ?_
    refine ww_gr (pc := 240) 38 54 d_M_match_240 fl_M_91 (by omega) rfl (by decide) ?_
    refine vv_iload (pc := 243) d_M_match_243 rfl ?_
    obtain ⟨b5, w⟩ := w
    refine ww_ld (pc := 245) 54 d_M_match_245 (by omega) (by decide) b5 ?_
    refine vv_iload (pc := 246) d_M_match_246 rfl ?_
    refine vv_iadd (pc := 248) d_M_match_248 ?_
    obtain ⟨b6, w⟩ := w
    refine ww_ld (pc := 249) 56 d_M_match_249 (by omega) (by decide) b6 ?_
    refine vv_iload (pc := 250) d_M_match_250 rfl ?_
    obtain ⟨T8, c7, w⟩ := w
    refine vv_callV (pc := 252) (As := [.int ((S.2 40) (Int32.toNatClampNeg ((x6 + 1) + x10))), .int ((S.2 56) (Int32.toNatClampNeg (((S.2 54) (Int32.toNatClampNeg x4)) + x10))), .int x5]) d_M_match_252 (c7 G h n z (d - 1) hn (by omega)) k_M_bind ml_M_346.1 ml_M_346.2.1 ml_M_346.2.2.1 ml_M_346.2.2.2.1 ml_M_346.2.2.2.2 (by omega) mm_26 (by omega) (Nat.le_of_ble_eq_true rfl) ?_
    refine vv_aload_n (pc := 255) d_M_match_255 rfl ?_
    refine ww_gi (pc := 256) 70 d_M_match_256 fl_M_317 (by omega) rfl ?_
    refine vv_iconst (pc := 259) (v := 1) d_M_match_259 rfl ?_
    refine vv_isub (pc := 260) d_M_match_260 ?_
    refine vv_istore (pc := 261) d_M_match_261 (Nat.le_of_ble_eq_true rfl) ?_
    refine vv_iinc (pc := 263) (v := (x10 + 1)) d_M_match_263 rfl rfl (Nat.le_of_ble_eq_true rfl) ?_
    refine vv_goto (pc := 266) (tgt := 210) d_M_match_266 rfl ?_
    exact vv_sub [2, 3, 4, 5, 6, 1, 7, 8, 9, 10, 0] rfl (w G h n z d hn hd)
def wp_M_choose_0 (o : Option Value) (S' : cp_S) (S : cp_S) (x1 : Int32) (x2 : Int32) (x3 : Int32) : Prop := ((2 ≤ (x3 : Int32) → ((¬ (x3 : Int32) = 3 → vp_in (8 * x1) (cp_ml 75) ∧ ∃ r4 T3, MC 0 m_M_seen [.int ((S.2 75) (Int32.toNatClampNeg (8 * x1)))] S (some (.int r4)) T3 ∧ vp_in ((8 * x1) + 1) (cp_ml 75) ∧ ∃ r8 T7, MC 0 m_M_seen [.int ((T3.2 75) (Int32.toNatClampNeg ((8 * x1) + 1)))] T3 (some (.int r8)) T7 ∧ vp_in x2 (cp_ml 40) ∧ ((¬ (((T7.2 40) (Int32.toNatClampNeg x2)) : Int32) = 61 → vp_in r4 (cp_ml 52) ∧ ((¬ (((T7.2 52) (Int32.toNatClampNeg r4)) : Int32) = 0 → JJ 3 m_M_choose o S' 117 [(1, .int x1), (2, .int x2), (3, .int x3), (4, .int r4), (5, .int r8)] T7) ∧ ((((T7.2 52) (Int32.toNatClampNeg r4)) : Int32) = 0 → vp_in r8 (cp_ml 52) ∧ (((((T7.2 52) (Int32.toNatClampNeg r8)) : Int32) = 0 → vp_in r4 (cp_ml 53) ∧ vp_in r8 (cp_ml 53) ∧ ((((T7.2 53) (Int32.toNatClampNeg r8)) ≤ (((T7.2 53) (Int32.toNatClampNeg r4)) : Int32) → ((0 ≤ (0 : Int32) → ((¬ (0 : Int32) = 1 → ∃ r16 T15, MC 2 m_M_child [.int x2, .int 3] T7 (some (.int r16)) T15 ∧ vp_in x1 (cp_ml 74) ∧ ∃ T19, MC 0 m_M_enter [.int r16, .int ((T15.2 74) (Int32.toNatClampNeg x1))] T15 none T19 ∧ (o = none ∧ S' = T19)) ∧ ((0 : Int32) = 1 → ∃ r22 T21, MC 2 m_M_child [.int x2, .int 2] T7 (some (.int r22)) T21 ∧ vp_in x1 (cp_ml 74) ∧ ∃ T25, MC 0 m_M_enter [.int r22, .int ((T21.2 74) (Int32.toNatClampNeg x1))] T21 none T25 ∧ (o = none ∧ S' = T25)))) ∧ (¬ 0 ≤ (0 : Int32) → (o = none ∧ S' = ((va_up T7.1 63 1), T7.2))))) ∧ (¬ ((T7.2 53) (Int32.toNatClampNeg r8)) ≤ (((T7.2 53) (Int32.toNatClampNeg r4)) : Int32) → ((0 ≤ (1 : Int32) → ((¬ (1 : Int32) = 1 → ∃ r28 T27, MC 2 m_M_child [.int x2, .int 3] T7 (some (.int r28)) T27 ∧ vp_in x1 (cp_ml 74) ∧ ∃ T31, MC 0 m_M_enter [.int r28, .int ((T27.2 74) (Int32.toNatClampNeg x1))] T27 none T31 ∧ (o = none ∧ S' = T31)) ∧ ((1 : Int32) = 1 → ∃ r34 T33, MC 2 m_M_child [.int x2, .int 2] T7 (some (.int r34)) T33 ∧ vp_in x1 (cp_ml 74) ∧ ∃ T37, MC 0 m_M_enter [.int r34, .int ((T33.2 74) (Int32.toNatClampNeg x1))] T33 none T37 ∧ (o = none ∧ S' = T37)))) ∧ (¬ 0 ≤ (1 : Int32) → (o = none ∧ S' = ((va_up T7.1 63 1), T7.2))))))) ∧ (¬ (((T7.2 52) (Int32.toNatClampNeg r8)) : Int32) = 0 → JJ 3 m_M_choose o S' 117 [(1, .int x1), (2, .int x2), (3, .int x3), (4, .int r4), (5, .int r8)] T7))))) ∧ ((((T7.2 40) (Int32.toNatClampNeg x2)) : Int32) = 61 → ∃ r40 T39, MC 2 m_M_compare [.int r4, .int r8] T7 (some (.int r40)) T39 ∧ ((0 ≤ (r40 : Int32) → ((¬ (r40 : Int32) = 1 → ∃ r43 T42, MC 2 m_M_child [.int x2, .int 3] T39 (some (.int r43)) T42 ∧ vp_in x1 (cp_ml 74) ∧ ∃ T46, MC 0 m_M_enter [.int r43, .int ((T42.2 74) (Int32.toNatClampNeg x1))] T42 none T46 ∧ (o = none ∧ S' = T46)) ∧ ((r40 : Int32) = 1 → ∃ r49 T48, MC 2 m_M_child [.int x2, .int 2] T39 (some (.int r49)) T48 ∧ vp_in x1 (cp_ml 74) ∧ ∃ T52, MC 0 m_M_enter [.int r49, .int ((T48.2 74) (Int32.toNatClampNeg x1))] T48 none T52 ∧ (o = none ∧ S' = T52)))) ∧ (¬ 0 ≤ (r40 : Int32) → (o = none ∧ S' = ((va_up T39.1 63 1), T39.2))))))) ∧ ((x3 : Int32) = 3 → vp_in ((8 * x1) + 2) (cp_ml 75) ∧ ∃ T55, MC 0 m_M_give [.int ((S.2 75) (Int32.toNatClampNeg ((8 * x1) + 2)))] S none T55 ∧ (o = none ∧ S' = T55)))) ∧ (¬ 2 ≤ (x3 : Int32) → ∃ r58 T57, MC 2 m_M_child [.int x2, .int x3] S (some (.int r58)) T57 ∧ vp_in x1 (cp_ml 74) ∧ ∃ T61, MC 0 m_M_enter [.int r58, .int ((T57.2 74) (Int32.toNatClampNeg x1))] T57 none T61 ∧ (o = none ∧ S' = T61)))
theorem b_M_choose_0 {o : Option Value} {S' S : cp_S} {x1 : Int32} {x2 : Int32} {x3 : Int32} (w : wp_M_choose_0 o S' S x1 x2 x3) : JJ 3 m_M_choose o S' 0 [(1, .int x1), (2, .int x2), (3, .int x3)] S := by
  unfold wp_M_choose_0 at w
  intro G h n z d hn hd
  refine vv_iload_n (pc := 0) d_M_choose_0 rfl ?_
  refine vv_iconst (pc := 1) (v := 2) d_M_choose_1 rfl ?_
  refine vv_icmp_ge (pc := 2) (tgt := 22) d_M_choose_2 rfl (fun hc => ?_) (fun hc => ?_)
  · replace w := w.1 hc
    refine vv_iload_n (pc := 22) d_M_choose_22 rfl ?_
    refine vv_iconst (pc := 23) (v := 3) d_M_choose_23 rfl ?_
    refine vv_icmp_ne (pc := 24) (tgt := 43) d_M_choose_24 rfl (fun hc => ?_) (fun hc => ?_)
    · replace w := w.1 hc
      refine vv_aload_n (pc := 43) d_M_choose_43 rfl ?_
      refine vv_aload_n (pc := 44) d_M_choose_44 rfl ?_
      refine ww_gr (pc := 45) 69 75 d_M_choose_45 fl_M_154 (by omega) rfl (by decide) ?_
      refine vv_bipush (pc := 48) (v := 8) d_M_choose_48 rfl ?_
      refine vv_iload_n (pc := 50) d_M_choose_50 rfl ?_
      refine vv_imul (pc := 51) d_M_choose_51 ?_
      obtain ⟨b1, w⟩ := w
      refine ww_ld (pc := 52) 75 d_M_choose_52 (by omega) (by decide) b1 ?_
      obtain ⟨r4, T3, c2, w⟩ := w
      refine vv_callV (pc := 53) (As := [.int ((S.2 75) (Int32.toNatClampNeg (8 * x1)))]) d_M_choose_53 (c2 G h n z (d - 1) hn (by omega)) k_M_seen ml_M_275.1 ml_M_275.2.1 ml_M_275.2.2.1 ml_M_275.2.2.2.1 ml_M_275.2.2.2.2 (by omega) mm_26 (by omega) (Nat.le_of_ble_eq_true rfl) ?_
      refine vv_istore (pc := 56) d_M_choose_56 (Nat.le_of_ble_eq_true rfl) ?_
      refine vv_aload_n (pc := 58) d_M_choose_58 rfl ?_
      refine vv_aload_n (pc := 59) d_M_choose_59 rfl ?_
      refine ww_gr (pc := 60) 69 75 d_M_choose_60 fl_M_154 (by omega) rfl (by decide) ?_
      refine vv_bipush (pc := 63) (v := 8) d_M_choose_63 rfl ?_
      refine vv_iload_n (pc := 65) d_M_choose_65 rfl ?_
      refine vv_imul (pc := 66) d_M_choose_66 ?_
      refine vv_iconst (pc := 67) (v := 1) d_M_choose_67 rfl ?_
      refine vv_iadd (pc := 68) d_M_choose_68 ?_
      obtain ⟨b5, w⟩ := w
      refine ww_ld (pc := 69) 75 d_M_choose_69 (by omega) (by decide) b5 ?_
      obtain ⟨r8, T7, c6, w⟩ := w
      refine vv_callV (pc := 70) (As := [.int ((T3.2 75) (Int32.toNatClampNeg ((8 * x1) + 1)))]) d_M_choose_70 (c6 G h n z (d - 1) hn (by omega)) k_M_seen ml_M_275.1 ml_M_275.2.1 ml_M_275.2.2.1 ml_M_275.2.2.2.1 ml_M_275.2.2.2.2 (by omega) mm_26 (by omega) (Nat.le_of_ble_eq_true rfl) ?_
      refine vv_istore (pc := 73) d_M_choose_73 (Nat.le_of_ble_eq_true rfl) ?_
      refine vv_aload_n (pc := 75) d_M_choose_75 rfl ?_
      refine ww_gr (pc := 76) 18 40 d_M_choose_76 fl_M_49 (by omega) rfl (by decide) ?_
      refine vv_iload_n (pc := 79) d_M_choose_79 rfl ?_
      obtain ⟨b9, w⟩ := w
      refine ww_ld (pc := 80) 40 d_M_choose_80 (by omega) (by decide) b9 ?_
      refine vv_bipush (pc := 81) (v := 61) d_M_choose_81 rfl ?_
      refine vv_icmp_ne (pc := 83) (tgt := 97) d_M_choose_83 rfl (fun hc => ?_) (fun hc => ?_)
      · replace w := w.1 hc
        refine vv_aload_n (pc := 97) d_M_choose_97 rfl ?_
        refine ww_gr (pc := 98) 36 52 d_M_choose_98 fl_M_85 (by omega) rfl (by decide) ?_
        refine vv_iload (pc := 101) d_M_choose_101 rfl ?_
        obtain ⟨b10, w⟩ := w
        refine ww_ld (pc := 103) 52 d_M_choose_103 (by omega) (by decide) b10 ?_
        refine vv_if_ne (pc := 104) (tgt := 117) d_M_choose_104 rfl (fun hc => ?_) (fun hc => ?_)
        · replace w := w.1 hc
          exact vv_sub [2, 3, 4, 5, 1, 0] rfl (w G h n z d hn hd)
        · replace w := w.2 hc
          refine vv_aload_n (pc := 107) d_M_choose_107 rfl ?_
          refine ww_gr (pc := 108) 36 52 d_M_choose_108 fl_M_85 (by omega) rfl (by decide) ?_
          refine vv_iload (pc := 111) d_M_choose_111 rfl ?_
          obtain ⟨b11, w⟩ := w
          refine ww_ld (pc := 113) 52 d_M_choose_113 (by omega) (by decide) b11 ?_
          refine vv_if_eq (pc := 114) (tgt := 121) d_M_choose_114 rfl (fun hc => ?_) (fun hc => ?_)
          · replace w := w.1 hc
            refine vv_aload_n (pc := 121) d_M_choose_121 rfl ?_
            refine ww_gr (pc := 122) 37 53 d_M_choose_122 fl_M_88 (by omega) rfl (by decide) ?_
            refine vv_iload (pc := 125) d_M_choose_125 rfl ?_
            obtain ⟨b12, w⟩ := w
            refine ww_ld (pc := 127) 53 d_M_choose_127 (by omega) (by decide) b12 ?_
            refine vv_aload_n (pc := 128) d_M_choose_128 rfl ?_
            refine ww_gr (pc := 129) 37 53 d_M_choose_129 fl_M_88 (by omega) rfl (by decide) ?_
            refine vv_iload (pc := 132) d_M_choose_132 rfl ?_
            obtain ⟨b13, w⟩ := w
            refine ww_ld (pc := 134) 53 d_M_choose_134 (by omega) (by decide) b13 ?_
            refine vv_icmp_ge (pc := 135) (tgt := 142) d_M_choose_135 rfl (fun hc => ?_) (fun hc => ?_)
            · replace w := w.1 hc
              refine vv_iconst (pc := 142) (v := 0) d_M_choose_142 rfl ?_
              refine vv_istore (pc := 143) d_M_choose_143 (Nat.le_of_ble_eq_true rfl) ?_
              refine vv_iload (pc := 145) d_M_choose_145 rfl ?_
              refine vv_if_ge (pc := 147) (tgt := 158) d_M_choose_147 rfl (fun hc => ?_) (fun hc => ?_)
              · replace w := w.1 hc
                refine vv_aload_n (pc := 158) d_M_choose_158 rfl ?_
                refine vv_aload_n (pc := 159) d_M_choose_159 rfl ?_
                refine vv_iload_n (pc := 160) d_M_choose_160 rfl ?_
                refine vv_iload (pc := 161) d_M_choose_161 rfl ?_
                refine vv_iconst (pc := 163) (v := 1) d_M_choose_163 rfl ?_
                refine vv_icmp_ne (pc := 164) (tgt := 171) d_M_choose_164 rfl (fun hc => ?_) (fun hc => ?_)
                · replace w := w.1 hc
                  refine vv_iconst (pc := 171) (v := 3) d_M_choose_171 rfl ?_
                  obtain ⟨r16, T15, c14, w⟩ := w
                  refine vv_callV (pc := 172) (As := [.int x2, .int 3]) d_M_choose_172 (c14 G h n z (d - 1) hn (by omega)) k_M_child ml_M_335.1 ml_M_335.2.1 ml_M_335.2.2.1 ml_M_335.2.2.2.1 ml_M_335.2.2.2.2 (by omega) mm_26 (by omega) (Nat.le_of_ble_eq_true rfl) ?_
                  refine vv_aload_n (pc := 175) d_M_choose_175 rfl ?_
                  refine ww_gr (pc := 176) 68 74 d_M_choose_176 fl_M_151 (by omega) rfl (by decide) ?_
                  refine vv_iload_n (pc := 179) d_M_choose_179 rfl ?_
                  obtain ⟨b17, w⟩ := w
                  refine ww_ld (pc := 180) 74 d_M_choose_180 (by omega) (by decide) b17 ?_
                  obtain ⟨T19, c18, w⟩ := w
                  refine vv_callV (pc := 181) (As := [.int r16, .int ((T15.2 74) (Int32.toNatClampNeg x1))]) d_M_choose_181 (c18 G h n z (d - 1) hn (by omega)) k_M_enter ml_M_338.1 ml_M_338.2.1 ml_M_338.2.2.1 ml_M_338.2.2.2.1 ml_M_338.2.2.2.2 (by omega) mm_26 (by omega) (Nat.le_of_ble_eq_true rfl) ?_
                  obtain ⟨rfl, rfl⟩ := w
                  exact vv_vret (pc := 184) d_M_choose_184 rfl
                · replace w := w.2 hc
                  refine vv_iconst (pc := 167) (v := 2) d_M_choose_167 rfl ?_
                  refine vv_goto (pc := 168) (tgt := 172) d_M_choose_168 rfl ?_
                  obtain ⟨r22, T21, c20, w⟩ := w
                  refine vv_callV (pc := 172) (As := [.int x2, .int 2]) d_M_choose_172 (c20 G h n z (d - 1) hn (by omega)) k_M_child ml_M_335.1 ml_M_335.2.1 ml_M_335.2.2.1 ml_M_335.2.2.2.1 ml_M_335.2.2.2.2 (by omega) mm_26 (by omega) (Nat.le_of_ble_eq_true rfl) ?_
                  refine vv_aload_n (pc := 175) d_M_choose_175 rfl ?_
                  refine ww_gr (pc := 176) 68 74 d_M_choose_176 fl_M_151 (by omega) rfl (by decide) ?_
                  refine vv_iload_n (pc := 179) d_M_choose_179 rfl ?_
                  obtain ⟨b23, w⟩ := w
                  refine ww_ld (pc := 180) 74 d_M_choose_180 (by omega) (by decide) b23 ?_
                  obtain ⟨T25, c24, w⟩ := w
                  refine vv_callV (pc := 181) (As := [.int r22, .int ((T21.2 74) (Int32.toNatClampNeg x1))]) d_M_choose_181 (c24 G h n z (d - 1) hn (by omega)) k_M_enter ml_M_338.1 ml_M_338.2.1 ml_M_338.2.2.1 ml_M_338.2.2.2.1 ml_M_338.2.2.2.2 (by omega) mm_26 (by omega) (Nat.le_of_ble_eq_true rfl) ?_
                  obtain ⟨rfl, rfl⟩ := w
                  exact vv_vret (pc := 184) d_M_choose_184 rfl
              · replace w := w.2 hc
                refine vv_aload_n (pc := 150) d_M_choose_150 rfl ?_
                refine vv_iconst (pc := 151) (v := 1) d_M_choose_151 rfl ?_
                refine ww_pi (pc := 152) 63 d_M_choose_152 fl_M_326 (by omega) rfl rfl rfl rfl ?_
                refine vv_goto (pc := 155) (tgt := 184) d_M_choose_155 rfl ?_
                obtain ⟨rfl, rfl⟩ := w
                exact vv_vret (pc := 184) d_M_choose_184 rfl
            · replace w := w.2 hc
              refine vv_iconst (pc := 138) (v := 1) d_M_choose_138 rfl ?_
              refine vv_goto (pc := 139) (tgt := 143) d_M_choose_139 rfl ?_
              refine vv_istore (pc := 143) d_M_choose_143 (Nat.le_of_ble_eq_true rfl) ?_
              refine vv_iload (pc := 145) d_M_choose_145 rfl ?_
              refine vv_if_ge (pc := 147) (tgt := 158) d_M_choose_147 rfl (fun hc => ?_) (fun hc => ?_)
              · replace w := w.1 hc
                refine vv_aload_n (pc := 158) d_M_choose_158 rfl ?_
                refine vv_aload_n (pc := 159) d_M_choose_159 rfl ?_
                refine vv_iload_n (pc := 160) d_M_choose_160 rfl ?_
                refine vv_iload (pc := 161) d_M_choose_161 rfl ?_
                refine vv_iconst (pc := 163) (v := 1) d_M_choose_163 rfl ?_
                refine vv_icmp_ne (pc := 164) (tgt := 171) d_M_choose_164 rfl (fun hc => ?_) (fun hc => ?_)
                · replace w := w.1 hc
                  refine vv_iconst (pc := 171) (v := 3) d_M_choose_171 rfl ?_
                  obtain ⟨r28, T27, c26, w⟩ := w
                  refine vv_callV (pc := 172) (As := [.int x2, .int 3]) d_M_choose_172 (c26 G h n z (d - 1) hn (by omega)) k_M_child ml_M_335.1 ml_M_335.2.1 ml_M_335.2.2.1 ml_M_335.2.2.2.1 ml_M_335.2.2.2.2 (by omega) mm_26 (by omega) (Nat.le_of_ble_eq_true rfl) ?_
                  refine vv_aload_n (pc := 175) d_M_choose_175 rfl ?_
                  refine ww_gr (pc := 176) 68 74 d_M_choose_176 fl_M_151 (by omega) rfl (by decide) ?_
                  refine vv_iload_n (pc := 179) d_M_choose_179 rfl ?_
                  obtain ⟨b29, w⟩ := w
                  refine ww_ld (pc := 180) 74 d_M_choose_180 (by omega) (by decide) b29 ?_
                  obtain ⟨T31, c30, w⟩ := w
                  refine vv_callV (pc := 181) (As := [.int r28, .int ((T27.2 74) (Int32.toNatClampNeg x1))]) d_M_choose_181 (c30 G h n z (d - 1) hn (by omega)) k_M_enter ml_M_338.1 ml_M_338.2.1 ml_M_338.2.2.1 ml_M_338.2.2.2.1 ml_M_338.2.2.2.2 (by omega) mm_26 (by omega) (Nat.le_of_ble_eq_true rfl) ?_
                  obtain ⟨rfl, rfl⟩ := w
                  exact vv_vret (pc := 184) d_M_choose_184 rfl
                · replace w := w.2 hc
                  refine vv_iconst (pc := 167) (v := 2) d_M_choose_167 rfl ?_
                  refine vv_goto (pc := 168) (tgt := 172) d_M_choose_168 rfl ?_
                  obtain ⟨r34, T33, c32, w⟩ := w
                  refine vv_callV (pc := 172) (As := [.int x2, .int 2]) d_M_choose_172 (c32 G h n z (d - 1) hn (by omega)) k_M_child ml_M_335.1 ml_M_335.2.1 ml_M_335.2.2.1 ml_M_335.2.2.2.1 ml_M_335.2.2.2.2 (by omega) mm_26 (by omega) (Nat.le_of_ble_eq_true rfl) ?_
                  refine vv_aload_n (pc := 175) d_M_choose_175 rfl ?_
                  refine ww_gr (pc := 176) 68 74 d_M_choose_176 fl_M_151 (by omega) rfl (by decide) ?_
                  refine vv_iload_n (pc := 179) d_M_choose_179 rfl ?_
                  obtain ⟨b35, w⟩ := w
                  refine ww_ld (pc := 180) 74 d_M_choose_180 (by omega) (by decide) b35 ?_
                  obtain ⟨T37, c36, w⟩ := w
                  refine vv_callV (pc := 181) (As := [.int r34, .int ((T33.2 74) (Int32.toNatClampNeg x1))]) d_M_choose_181 (c36 G h n z (d - 1) hn (by omega)) k_M_enter ml_M_338.1 ml_M_338.2.1 ml_M_338.2.2.1 ml_M_338.2.2.2.1 ml_M_338.2.2.2.2 (by omega) mm_26 (by omega) (Nat.le_of_ble_eq_true rfl) ?_
                  obtain ⟨rfl, rfl⟩ := w
                  exact vv_vret (pc := 184) d_M_choose_184 rfl
              · replace w := w.2 hc
                refine vv_aload_n (pc := 150) d_M_choose_150 rfl ?_
                refine vv_iconst (pc := 151) (v := 1) d_M_choose_151 rfl ?_
                refine ww_pi (pc := 152) 63 d_M_choose_152 fl_M_326 (by omega) rfl rfl rfl rfl ?_
                refine vv_goto (pc := 155) (tgt := 184) d_M_choose_155 rfl ?_
                obtain ⟨rfl, rfl⟩ := w
                exact vv_vret (pc := 184) d_M_choose_184 rfl
          · replace w := w.2 hc
            exact vv_sub [2, 3, 4, 5, 1, 0] rfl (w G h n z d hn hd)
      · replace w := w.2 hc
        refine vv_aload_n (pc := 86) d_M_choose_86 rfl ?_
        refine vv_iload (pc := 87) d_M_choose_87 rfl ?_
        refine vv_iload (pc := 89) d_M_choose_89 rfl ?_
        obtain ⟨r40, T39, c38, w⟩ := w
        refine vv_callV (pc := 91) (As := [.int r4, .int r8]) d_M_choose_91 (c38 G h n z (d - 1) hn (by omega)) k_M_compare ml_M_349.1 ml_M_349.2.1 ml_M_349.2.2.1 ml_M_349.2.2.2.1 ml_M_349.2.2.2.2 (by omega) mm_26 (by omega) (Nat.le_of_ble_eq_true rfl) ?_
        refine vv_goto (pc := 94) (tgt := 143) d_M_choose_94 rfl ?_
        refine vv_istore (pc := 143) d_M_choose_143 (Nat.le_of_ble_eq_true rfl) ?_
        refine vv_iload (pc := 145) d_M_choose_145 rfl ?_
        refine vv_if_ge (pc := 147) (tgt := 158) d_M_choose_147 rfl (fun hc => ?_) (fun hc => ?_)
        · replace w := w.1 hc
          refine vv_aload_n (pc := 158) d_M_choose_158 rfl ?_
          refine vv_aload_n (pc := 159) d_M_choose_159 rfl ?_
          refine vv_iload_n (pc := 160) d_M_choose_160 rfl ?_
          refine vv_iload (pc := 161) d_M_choose_161 rfl ?_
          refine vv_iconst (pc := 163) (v := 1) d_M_choose_163 rfl ?_
          refine vv_icmp_ne (pc := 164) (tgt := 171) d_M_choose_164 rfl (fun hc => ?_) (fun hc => ?_)
          · replace w := w.1 hc
            refine vv_iconst (pc := 171) (v := 3) d_M_choose_171 rfl ?_
            obtain ⟨r43, T42, c41, w⟩ := w
            refine vv_callV (pc := 172) (As := [.int x2, .int 3]) d_M_choose_172 (c41 G h n z (d - 1) hn (by omega)) k_M_child ml_M_335.1 ml_M_335.2.1 ml_M_335.2.2.1 ml_M_335.2.2.2.1 ml_M_335.2.2.2.2 (by omega) mm_26 (by omega) (Nat.le_of_ble_eq_true rfl) ?_
            refine vv_aload_n (pc := 175) d_M_choose_175 rfl ?_
            refine ww_gr (pc := 176) 68 74 d_M_choose_176 fl_M_151 (by omega) rfl (by decide) ?_
            refine vv_iload_n (pc := 179) d_M_choose_179 rfl ?_
            obtain ⟨b44, w⟩ := w
            refine ww_ld (pc := 180) 74 d_M_choose_180 (by omega) (by decide) b44 ?_
            obtain ⟨T46, c45, w⟩ := w
            refine vv_callV (pc := 181) (As := [.int r43, .int ((T42.2 74) (Int32.toNatClampNeg x1))]) d_M_choose_181 (c45 G h n z (d - 1) hn (by omega)) k_M_enter ml_M_338.1 ml_M_338.2.1 ml_M_338.2.2.1 ml_M_338.2.2.2.1 ml_M_338.2.2.2.2 (by omega) mm_26 (by omega) (Nat.le_of_ble_eq_true rfl) ?_
            obtain ⟨rfl, rfl⟩ := w
            exact vv_vret (pc := 184) d_M_choose_184 rfl
          · replace w := w.2 hc
            refine vv_iconst (pc := 167) (v := 2) d_M_choose_167 rfl ?_
            refine vv_goto (pc := 168) (tgt := 172) d_M_choose_168 rfl ?_
            obtain ⟨r49, T48, c47, w⟩ := w
            refine vv_callV (pc := 172) (As := [.int x2, .int 2]) d_M_choose_172 (c47 G h n z (d - 1) hn (by omega)) k_M_child ml_M_335.1 ml_M_335.2.1 ml_M_335.2.2.1 ml_M_335.2.2.2.1 ml_M_335.2.2.2.2 (by omega) mm_26 (by omega) (Nat.le_of_ble_eq_true rfl) ?_
            refine vv_aload_n (pc := 175) d_M_choose_175 rfl ?_
            refine ww_gr (pc := 176) 68 74 d_M_choose_176 fl_M_151 (by omega) rfl (by decide) ?_
            refine vv_iload_n (pc := 179) d_M_choose_179 rfl ?_
            obtain ⟨b50, w⟩ := w
            refine ww_ld (pc := 180) 74 d_M_choose_180 (by omega) (by decide) b50 ?_
            obtain ⟨T52, c51, w⟩ := w
            refine vv_callV (pc := 181) (As := [.int r49, .int ((T48.2 74) (Int32.toNatClampNeg x1))]) d_M_choose_181 (c51 G h n z (d - 1) hn (by omega)) k_M_enter ml_M_338.1 ml_M_338.2.1 ml_M_338.2.2.1 ml_M_338.2.2.2.1 ml_M_338.2.2.2.2 (by omega) mm_26 (by omega) (Nat.le_of_ble_eq_true rfl) ?_
            obtain ⟨rfl, rfl⟩ := w
            exact vv_vret (pc := 184) d_M_choose_184 rfl
        · replace w := w.2 hc
          refine vv_aload_n (pc := 150) d_M_choose_150 rfl ?_
          refine vv_iconst (pc := 151) (v := 1) d_M_choose_151 rfl ?_
          refine ww_pi (pc := 152) 63 d_M_choose_152 fl_M_326 (by omega) rfl rfl rfl rfl ?_
          refine vv_goto (pc := 155) (tgt := 184) d_M_choose_155 rfl ?_
          obtain ⟨rfl, rfl⟩ := w
          exact vv_vret (pc := 184) d_M_choose_184 rfl
    · replace w := w.2 hc
      refine vv_aload_n (pc := 27) d_M_choose_27 rfl ?_
      refine vv_aload_n (pc := 28) d_M_choose_28 rfl ?_
      refine ww_gr (pc := 29) 69 75 d_M_choose_29 fl_M_154 (by omega) rfl (by decide) ?_
      refine vv_bipush (pc := 32) (v := 8) d_M_choose_32 rfl ?_
      refine vv_iload_n (pc := 34) d_M_choose_34 rfl ?_
      refine vv_imul (pc := 35) d_M_choose_35 ?_
      refine vv_iconst (pc := 36) (v := 2) d_M_choose_36 rfl ?_
      refine vv_iadd (pc := 37) d_M_choose_37 ?_
      obtain ⟨b53, w⟩ := w
      refine ww_ld (pc := 38) 75 d_M_choose_38 (by omega) (by decide) b53 ?_
      obtain ⟨T55, c54, w⟩ := w
      refine vv_callV (pc := 39) (As := [.int ((S.2 75) (Int32.toNatClampNeg ((8 * x1) + 2)))]) d_M_choose_39 (c54 G h n z (d - 1) hn (by omega)) k_M_give ml_M_342.1 ml_M_342.2.1 ml_M_342.2.2.1 ml_M_342.2.2.2.1 ml_M_342.2.2.2.2 (by omega) mm_26 (by omega) (Nat.le_of_ble_eq_true rfl) ?_
      obtain ⟨rfl, rfl⟩ := w
      exact vv_vret (pc := 42) d_M_choose_42 rfl
  · replace w := w.2 hc
    refine vv_aload_n (pc := 5) d_M_choose_5 rfl ?_
    refine vv_aload_n (pc := 6) d_M_choose_6 rfl ?_
    refine vv_iload_n (pc := 7) d_M_choose_7 rfl ?_
    refine vv_iload_n (pc := 8) d_M_choose_8 rfl ?_
    obtain ⟨r58, T57, c56, w⟩ := w
    refine vv_callV (pc := 9) (As := [.int x2, .int x3]) d_M_choose_9 (c56 G h n z (d - 1) hn (by omega)) k_M_child ml_M_335.1 ml_M_335.2.1 ml_M_335.2.2.1 ml_M_335.2.2.2.1 ml_M_335.2.2.2.2 (by omega) mm_26 (by omega) (Nat.le_of_ble_eq_true rfl) ?_
    refine vv_aload_n (pc := 12) d_M_choose_12 rfl ?_
    refine ww_gr (pc := 13) 68 74 d_M_choose_13 fl_M_151 (by omega) rfl (by decide) ?_
    refine vv_iload_n (pc := 16) d_M_choose_16 rfl ?_
    obtain ⟨b59, w⟩ := w
    refine ww_ld (pc := 17) 74 d_M_choose_17 (by omega) (by decide) b59 ?_
    obtain ⟨T61, c60, w⟩ := w
    refine vv_callV (pc := 18) (As := [.int r58, .int ((T57.2 74) (Int32.toNatClampNeg x1))]) d_M_choose_18 (c60 G h n z (d - 1) hn (by omega)) k_M_enter ml_M_338.1 ml_M_338.2.1 ml_M_338.2.2.1 ml_M_338.2.2.2.1 ml_M_338.2.2.2.2 (by omega) mm_26 (by omega) (Nat.le_of_ble_eq_true rfl) ?_
    obtain ⟨rfl, rfl⟩ := w
    exact vv_vret (pc := 21) d_M_choose_21 rfl
theorem c_M_choose {o : Option Value} {S' S : cp_S} {x1 : Int32} {x2 : Int32} {x3 : Int32} (w : JJ 3 m_M_choose o S' 0 [(1, .int x1), (2, .int x2), (3, .int x3)] S) : MC 3 m_M_choose [.int x1, .int x2, .int x3] S o S' := fun G h n z d hn hd => cp_C.of rfl (Nat.le_of_ble_eq_true rfl) (w G h n z d hn hd)
def wp_M_choose_117 (o : Option Value) (S' : cp_S) (S : cp_S) (x1 : Int32) (x2 : Int32) (x3 : Int32) (x4 : Int32) (x5 : Int32) : Prop := ((0 ≤ ((-1) : Int32) → ((¬ ((-1) : Int32) = 1 → ∃ r3 T2, MC 2 m_M_child [.int x2, .int 3] S (some (.int r3)) T2 ∧ vp_in x1 (cp_ml 74) ∧ ∃ T6, MC 0 m_M_enter [.int r3, .int ((T2.2 74) (Int32.toNatClampNeg x1))] T2 none T6 ∧ (o = none ∧ S' = T6)) ∧ (((-1) : Int32) = 1 → ∃ r9 T8, MC 2 m_M_child [.int x2, .int 2] S (some (.int r9)) T8 ∧ vp_in x1 (cp_ml 74) ∧ ∃ T12, MC 0 m_M_enter [.int r9, .int ((T8.2 74) (Int32.toNatClampNeg x1))] T8 none T12 ∧ (o = none ∧ S' = T12)))) ∧ (¬ 0 ≤ ((-1) : Int32) → (o = none ∧ S' = ((va_up S.1 63 1), S.2))))
theorem b_M_choose_117 {o : Option Value} {S' S : cp_S} {x1 : Int32} {x2 : Int32} {x3 : Int32} {x4 : Int32} {x5 : Int32} (w : wp_M_choose_117 o S' S x1 x2 x3 x4 x5) : JJ 3 m_M_choose o S' 117 [(1, .int x1), (2, .int x2), (3, .int x3), (4, .int x4), (5, .int x5)] S := by
  unfold wp_M_choose_117 at w
  intro G h n z d hn hd
  refine vv_iconst (pc := 117) (v := (-1)) d_M_choose_117 rfl ?_
  refine vv_goto (pc := 118) (tgt := 143) d_M_choose_118 rfl ?_
  refine vv_istore (pc := 143) d_M_choose_143 (Nat.le_of_ble_eq_true rfl) ?_
  refine vv_iload (pc := 145) d_M_choose_145 rfl ?_
  refine vv_if_ge (pc := 147) (tgt := 158) d_M_choose_147 rfl (fun hc => ?_) (fun hc => ?_)
  · replace w := w.1 hc
    refine vv_aload_n (pc := 158) d_M_choose_158 rfl ?_
    refine vv_aload_n (pc := 159) d_M_choose_159 rfl ?_
    refine vv_iload_n (pc := 160) d_M_choose_160 rfl ?_
    refine vv_iload (pc := 161) d_M_choose_161 rfl ?_
    refine vv_iconst (pc := 163) (v := 1) d_M_choose_163 rfl ?_
    refine vv_icmp_ne (pc := 164) (tgt := 171) d_M_choose_164 rfl (fun hc => ?_) (fun hc => ?_)
    · replace w := w.1 hc
      refine vv_iconst (pc := 171) (v := 3) d_M_choose_171 rfl ?_
      obtain ⟨r3, T2, c1, w⟩ := w
      refine vv_callV (pc := 172) (As := [.int x2, .int 3]) d_M_choose_172 (c1 G h n z (d - 1) hn (by omega)) k_M_child ml_M_335.1 ml_M_335.2.1 ml_M_335.2.2.1 ml_M_335.2.2.2.1 ml_M_335.2.2.2.2 (by omega) mm_26 (by omega) (Nat.le_of_ble_eq_true rfl) ?_
      refine vv_aload_n (pc := 175) d_M_choose_175 rfl ?_
      refine ww_gr (pc := 176) 68 74 d_M_choose_176 fl_M_151 (by omega) rfl (by decide) ?_
      refine vv_iload_n (pc := 179) d_M_choose_179 rfl ?_
      obtain ⟨b4, w⟩ := w
      refine ww_ld (pc := 180) 74 d_M_choose_180 (by omega) (by decide) b4 ?_
      obtain ⟨T6, c5, w⟩ := w
      refine vv_callV (pc := 181) (As := [.int r3, .int ((T2.2 74) (Int32.toNatClampNeg x1))]) d_M_choose_181 (c5 G h n z (d - 1) hn (by omega)) k_M_enter ml_M_338.1 ml_M_338.2.1 ml_M_338.2.2.1 ml_M_338.2.2.2.1 ml_M_338.2.2.2.2 (by omega) mm_26 (by omega) (Nat.le_of_ble_eq_true rfl) ?_
      obtain ⟨rfl, rfl⟩ := w
      exact vv_vret (pc := 184) d_M_choose_184 rfl
    · replace w := w.2 hc
      refine vv_iconst (pc := 167) (v := 2) d_M_choose_167 rfl ?_
      refine vv_goto (pc := 168) (tgt := 172) d_M_choose_168 rfl ?_
      obtain ⟨r9, T8, c7, w⟩ := w
      refine vv_callV (pc := 172) (As := [.int x2, .int 2]) d_M_choose_172 (c7 G h n z (d - 1) hn (by omega)) k_M_child ml_M_335.1 ml_M_335.2.1 ml_M_335.2.2.1 ml_M_335.2.2.2.1 ml_M_335.2.2.2.2 (by omega) mm_26 (by omega) (Nat.le_of_ble_eq_true rfl) ?_
      refine vv_aload_n (pc := 175) d_M_choose_175 rfl ?_
      refine ww_gr (pc := 176) 68 74 d_M_choose_176 fl_M_151 (by omega) rfl (by decide) ?_
      refine vv_iload_n (pc := 179) d_M_choose_179 rfl ?_
      obtain ⟨b10, w⟩ := w
      refine ww_ld (pc := 180) 74 d_M_choose_180 (by omega) (by decide) b10 ?_
      obtain ⟨T12, c11, w⟩ := w
      refine vv_callV (pc := 181) (As := [.int r9, .int ((T8.2 74) (Int32.toNatClampNeg x1))]) d_M_choose_181 (c11 G h n z (d - 1) hn (by omega)) k_M_enter ml_M_338.1 ml_M_338.2.1 ml_M_338.2.2.1 ml_M_338.2.2.2.1 ml_M_338.2.2.2.2 (by omega) mm_26 (by omega) (Nat.le_of_ble_eq_true rfl) ?_
      obtain ⟨rfl, rfl⟩ := w
      exact vv_vret (pc := 184) d_M_choose_184 rfl
  · replace w := w.2 hc
    refine vv_aload_n (pc := 150) d_M_choose_150 rfl ?_
    refine vv_iconst (pc := 151) (v := 1) d_M_choose_151 rfl ?_
    refine ww_pi (pc := 152) 63 d_M_choose_152 fl_M_326 (by omega) rfl rfl rfl rfl ?_
    refine vv_goto (pc := 155) (tgt := 184) d_M_choose_155 rfl ?_
    obtain ⟨rfl, rfl⟩ := w
    exact vv_vret (pc := 184) d_M_choose_184 rfl
def wp_M_runs_0 (o : Option Value) (S' : cp_S) (S : cp_S) (x1 : Int32) : Prop := JJ 4 m_M_runs o S' 24 [(1, .int x1), (2, .int (-1)), (3, .int 0)] ((va_up (va_up (va_up (va_up S.1 61 0) 62 0) 70 0) 63 0), S.2)
theorem b_M_runs_0 {o : Option Value} {S' S : cp_S} {x1 : Int32} (w : wp_M_runs_0 o S' S x1) : JJ 4 m_M_runs o S' 0 [(1, .int x1)] S := by
  unfold wp_M_runs_0 at w
  intro G h n z d hn hd
  refine vv_aload_n (pc := 0) d_M_runs_0 rfl ?_
  refine vv_iconst (pc := 1) (v := 0) d_M_runs_1 rfl ?_
  refine ww_pi (pc := 2) 61 d_M_runs_2 fl_M_320 (by omega) rfl rfl rfl rfl ?_
  refine vv_aload_n (pc := 5) d_M_runs_5 rfl ?_
  refine vv_iconst (pc := 6) (v := 0) d_M_runs_6 rfl ?_
  refine ww_pi (pc := 7) 62 d_M_runs_7 fl_M_323 (by omega) rfl rfl rfl rfl ?_
  refine vv_aload_n (pc := 10) d_M_runs_10 rfl ?_
  refine vv_iconst (pc := 11) (v := 0) d_M_runs_11 rfl ?_
  refine ww_pi (pc := 12) 70 d_M_runs_12 fl_M_317 (by omega) rfl rfl rfl rfl ?_
  refine vv_aload_n (pc := 15) d_M_runs_15 rfl ?_
  refine vv_iconst (pc := 16) (v := 0) d_M_runs_16 rfl ?_
  refine ww_pi (pc := 17) 63 d_M_runs_17 fl_M_326 (by omega) rfl rfl rfl rfl ?_
  refine vv_iconst (pc := 20) (v := (-1)) d_M_runs_20 rfl ?_
  refine vv_istore_n (pc := 21) d_M_runs_21 (Nat.le_of_ble_eq_true rfl) ?_
  refine vv_iconst (pc := 22) (v := 0) d_M_runs_22 rfl ?_
  refine vv_istore_n (pc := 23) d_M_runs_23 (Nat.le_of_ble_eq_true rfl) ?_
  exact vv_sub [2, 3, 1, 0] rfl (w G h n z d hn hd)
theorem c_M_runs {o : Option Value} {S' S : cp_S} {x1 : Int32} (w : JJ 4 m_M_runs o S' 0 [(1, .int x1)] S) : MC 4 m_M_runs [.int x1] S o S' := fun G h n z d hn hd => cp_C.of rfl (Nat.le_of_ble_eq_true rfl) (w G h n z d hn hd)
def wp_M_runs_24 (o : Option Value) (S' : cp_S) (S : cp_S) (x1 : Int32) (x2 : Int32) (x3 : Int32) : Prop := vp_in x1 (cp_ml 31) ∧ ((((S.2 31) (Int32.toNatClampNeg x1)) ≤ (x3 : Int32) → vp_in x1 (cp_ml 36) ∧ ∃ T4, MC 0 m_M_enter [.int ((S.2 36) (Int32.toNatClampNeg x1)), .int x2] S none T4 ∧ JJ 4 m_M_runs o S' 79 [(1, .int x1), (2, .int x2), (3, .int x3)] T4) ∧ (¬ ((S.2 31) (Int32.toNatClampNeg x1)) ≤ (x3 : Int32) → vp_in ((4 * x1) + x3) (cp_ml 37) ∧ vp_in x3 (cp_ml 71) ∧ ∃ T8, MC 0 m_M_bind [.int ((S.2 37) (Int32.toNatClampNeg ((4 * x1) + x3))), .int ((S.2 71) (Int32.toNatClampNeg x3)), .int x2] S none T8 ∧ JJ 4 m_M_runs o S' 24 [(1, .int x1), (2, .int ((T8.1 70) - 1)), (3, .int (x3 + 1))] T8))
theorem b_M_runs_24 {o : Option Value} {S' S : cp_S} {x1 : Int32} {x2 : Int32} {x3 : Int32} (w : wp_M_runs_24 o S' S x1 x2 x3) : JJ 4 m_M_runs o S' 24 [(1, .int x1), (2, .int x2), (3, .int x3)] S := by
  unfold wp_M_runs_24 at w
  intro G h n z d hn hd
  refine vv_iload_n (pc := 24) d_M_runs_24 rfl ?_
  refine vv_aload_n (pc := 25) d_M_runs_25 rfl ?_
  refine ww_gr (pc := 26) 7 31 d_M_runs_26 fl_M_22 (by omega) rfl (by decide) ?_
  refine vv_iload_n (pc := 29) d_M_runs_29 rfl ?_
  obtain ⟨b1, w⟩ := w
  refine ww_ld (pc := 30) 31 d_M_runs_30 (by omega) (by decide) b1 ?_
  refine vv_icmp_ge (pc := 31) (tgt := 68) d_M_runs_31 rfl (fun hc => ?_) (fun hc => ?_)
  · replace w := w.1 hc
    refine vv_aload_n (pc := 68) d_M_runs_68 rfl ?_
    refine vv_aload_n (pc := 69) d_M_runs_69 rfl ?_
    refine ww_gr (pc := 70) 12 36 d_M_runs_70 fl_M_37 (by omega) rfl (by decide) ?_
    refine vv_iload_n (pc := 73) d_M_runs_73 rfl ?_
    obtain ⟨b2, w⟩ := w
    refine ww_ld (pc := 74) 36 d_M_runs_74 (by omega) (by decide) b2 ?_
    refine vv_iload_n (pc := 75) d_M_runs_75 rfl ?_
    obtain ⟨T4, c3, w⟩ := w
    refine vv_callV (pc := 76) (As := [.int ((S.2 36) (Int32.toNatClampNeg x1)), .int x2]) d_M_runs_76 (c3 G h n z (d - 1) hn (by omega)) k_M_enter ml_M_338.1 ml_M_338.2.1 ml_M_338.2.2.1 ml_M_338.2.2.2.1 ml_M_338.2.2.2.2 (by omega) mm_26 (by omega) (Nat.le_of_ble_eq_true rfl) ?_
    exact vv_sub [0, 1, 2, 3] rfl (w G h n z d hn hd)
  · replace w := w.2 hc
    refine vv_aload_n (pc := 34) d_M_runs_34 rfl ?_
    refine vv_aload_n (pc := 35) d_M_runs_35 rfl ?_
    refine ww_gr (pc := 36) 13 37 d_M_runs_36 fl_M_40 (by omega) rfl (by decide) ?_
    refine vv_iconst (pc := 39) (v := 4) d_M_runs_39 rfl ?_
    refine vv_iload_n (pc := 40) d_M_runs_40 rfl ?_
    refine vv_imul (pc := 41) d_M_runs_41 ?_
    refine vv_iload_n (pc := 42) d_M_runs_42 rfl ?_
    refine vv_iadd (pc := 43) d_M_runs_43 ?_
    obtain ⟨b5, w⟩ := w
    refine ww_ld (pc := 44) 37 d_M_runs_44 (by omega) (by decide) b5 ?_
    refine vv_aload_n (pc := 45) d_M_runs_45 rfl ?_
    refine ww_gr (pc := 46) 65 71 d_M_runs_46 fl_M_142 (by omega) rfl (by decide) ?_
    refine vv_iload_n (pc := 49) d_M_runs_49 rfl ?_
    obtain ⟨b6, w⟩ := w
    refine ww_ld (pc := 50) 71 d_M_runs_50 (by omega) (by decide) b6 ?_
    refine vv_iload_n (pc := 51) d_M_runs_51 rfl ?_
    obtain ⟨T8, c7, w⟩ := w
    refine vv_callV (pc := 52) (As := [.int ((S.2 37) (Int32.toNatClampNeg ((4 * x1) + x3))), .int ((S.2 71) (Int32.toNatClampNeg x3)), .int x2]) d_M_runs_52 (c7 G h n z (d - 1) hn (by omega)) k_M_bind ml_M_346.1 ml_M_346.2.1 ml_M_346.2.2.1 ml_M_346.2.2.2.1 ml_M_346.2.2.2.2 (by omega) mm_26 (by omega) (Nat.le_of_ble_eq_true rfl) ?_
    refine vv_aload_n (pc := 55) d_M_runs_55 rfl ?_
    refine ww_gi (pc := 56) 70 d_M_runs_56 fl_M_317 (by omega) rfl ?_
    refine vv_iconst (pc := 59) (v := 1) d_M_runs_59 rfl ?_
    refine vv_isub (pc := 60) d_M_runs_60 ?_
    refine vv_istore_n (pc := 61) d_M_runs_61 (Nat.le_of_ble_eq_true rfl) ?_
    refine vv_iinc (pc := 62) (v := (x3 + 1)) d_M_runs_62 rfl rfl (Nat.le_of_ble_eq_true rfl) ?_
    refine vv_goto (pc := 65) (tgt := 24) d_M_runs_65 rfl ?_
    exact vv_sub [2, 3, 1, 0] rfl (w G h n z d hn hd)
def wp_M_runs_79 (o : Option Value) (S' : cp_S) (S : cp_S) (x1 : Int32) (x2 : Int32) (x3 : Int32) : Prop := ((((S.1 62) : Int32) ≤ 0 → ((((S.1 63) : Int32) = 0 → (o = some (.int (S.1 64)) ∧ S' = S)) ∧ (¬ ((S.1 63) : Int32) = 0 → (o = some (.int (-1)) ∧ S' = S)))) ∧ (¬ ((S.1 62) : Int32) ≤ 0 → ((¬ ((S.1 63) : Int32) = 0 → ((((S.1 63) : Int32) = 0 → (o = some (.int (S.1 64)) ∧ S' = S)) ∧ (¬ ((S.1 63) : Int32) = 0 → (o = some (.int (-1)) ∧ S' = S)))) ∧ (((S.1 63) : Int32) = 0 → vp_in ((S.1 62) - 1) (cp_ml 72) ∧ vp_in ((S.1 62) - 1) (cp_ml 73) ∧ vp_in ((S.2 72) (Int32.toNatClampNeg ((S.1 62) - 1))) (cp_ml 39) ∧ ((((S.2 39) (Int32.toNatClampNeg ((S.2 72) (Int32.toNatClampNeg ((S.1 62) - 1))))) = (1 : Int32) → vp_in ((S.2 72) (Int32.toNatClampNeg ((S.1 62) - 1))) (cp_ml 40) ∧ vp_in ((S.1 62) - 1) (cp_ml 74) ∧ ∃ r8 T7, MC 0 m_M_meaning [.int ((S.2 40) (Int32.toNatClampNeg ((S.2 72) (Int32.toNatClampNeg ((S.1 62) - 1))))), .int ((S.2 74) (Int32.toNatClampNeg ((S.1 62) - 1)))] S (some (.int r8)) T7 ∧ ∃ T10, MC 0 m_M_give [.int r8] T7 none T10 ∧ JJ 4 m_M_runs o S' 268 [(1, .int x1), (2, .int x2), (3, .int ((S.1 62) - 1)), (4, .int ((S.2 72) (Int32.toNatClampNeg ((S.1 62) - 1)))), (5, .int ((S.2 73) (Int32.toNatClampNeg ((S.1 62) - 1))))] T10) ∧ (((S.2 39) (Int32.toNatClampNeg ((S.2 72) (Int32.toNatClampNeg ((S.1 62) - 1))))) = (2 : Int32) → vp_in ((S.2 72) (Int32.toNatClampNeg ((S.1 62) - 1))) (cp_ml 40) ∧ ∃ r14 T13, MC 0 m_M_value [.int 0, .int ((S.2 40) (Int32.toNatClampNeg ((S.2 72) (Int32.toNatClampNeg ((S.1 62) - 1)))))] S (some (.int r14)) T13 ∧ ∃ T16, MC 0 m_M_give [.int r14] T13 none T16 ∧ JJ 4 m_M_runs o S' 268 [(1, .int x1), (2, .int x2), (3, .int ((S.1 62) - 1)), (4, .int ((S.2 72) (Int32.toNatClampNeg ((S.1 62) - 1)))), (5, .int ((S.2 73) (Int32.toNatClampNeg ((S.1 62) - 1))))] T16) ∧ (((S.2 39) (Int32.toNatClampNeg ((S.2 72) (Int32.toNatClampNeg ((S.1 62) - 1))))) = (3 : Int32) → JJ 4 m_M_runs o S' 268 [(1, .int x1), (2, .int x2), (3, .int ((S.1 62) - 1)), (4, .int ((S.2 72) (Int32.toNatClampNeg ((S.1 62) - 1)))), (5, .int ((S.2 73) (Int32.toNatClampNeg ((S.1 62) - 1))))] ((va_up S.1 63 1), S.2)) ∧ (((S.2 39) (Int32.toNatClampNeg ((S.2 72) (Int32.toNatClampNeg ((S.1 62) - 1))))) = (4 : Int32) → JJ 4 m_M_runs o S' 268 [(1, .int x1), (2, .int x2), (3, .int ((S.1 62) - 1)), (4, .int ((S.2 72) (Int32.toNatClampNeg ((S.1 62) - 1)))), (5, .int ((S.2 73) (Int32.toNatClampNeg ((S.1 62) - 1))))] ((va_up S.1 63 1), S.2)) ∧ (((S.2 39) (Int32.toNatClampNeg ((S.2 72) (Int32.toNatClampNeg ((S.1 62) - 1))))) = (5 : Int32) → ∃ T18, MC 3 m_M_call [.int ((S.1 62) - 1), .int ((S.2 72) (Int32.toNatClampNeg ((S.1 62) - 1))), .int ((S.2 73) (Int32.toNatClampNeg ((S.1 62) - 1)))] S none T18 ∧ JJ 4 m_M_runs o S' 268 [(1, .int x1), (2, .int x2), (3, .int ((S.1 62) - 1)), (4, .int ((S.2 72) (Int32.toNatClampNeg ((S.1 62) - 1)))), (5, .int ((S.2 73) (Int32.toNatClampNeg ((S.1 62) - 1))))] T18) ∧ (((S.2 39) (Int32.toNatClampNeg ((S.2 72) (Int32.toNatClampNeg ((S.1 62) - 1))))) = (6 : Int32) → ∃ T20, MC 3 m_M_add [.int ((S.1 62) - 1), .int ((S.2 72) (Int32.toNatClampNeg ((S.1 62) - 1))), .int ((S.2 73) (Int32.toNatClampNeg ((S.1 62) - 1)))] S none T20 ∧ JJ 4 m_M_runs o S' 268 [(1, .int x1), (2, .int x2), (3, .int ((S.1 62) - 1)), (4, .int ((S.2 72) (Int32.toNatClampNeg ((S.1 62) - 1)))), (5, .int ((S.2 73) (Int32.toNatClampNeg ((S.1 62) - 1))))] T20) ∧ (((S.2 39) (Int32.toNatClampNeg ((S.2 72) (Int32.toNatClampNeg ((S.1 62) - 1))))) = (7 : Int32) → ∃ T22, MC 3 m_M_add [.int ((S.1 62) - 1), .int ((S.2 72) (Int32.toNatClampNeg ((S.1 62) - 1))), .int ((S.2 73) (Int32.toNatClampNeg ((S.1 62) - 1)))] S none T22 ∧ JJ 4 m_M_runs o S' 268 [(1, .int x1), (2, .int x2), (3, .int ((S.1 62) - 1)), (4, .int ((S.2 72) (Int32.toNatClampNeg ((S.1 62) - 1)))), (5, .int ((S.2 73) (Int32.toNatClampNeg ((S.1 62) - 1))))] T22) ∧ (((S.2 39) (Int32.toNatClampNeg ((S.2 72) (Int32.toNatClampNeg ((S.1 62) - 1))))) = (8 : Int32) → ∃ T24, MC 2 m_M_match [.int ((S.1 62) - 1), .int ((S.2 72) (Int32.toNatClampNeg ((S.1 62) - 1))), .int ((S.2 73) (Int32.toNatClampNeg ((S.1 62) - 1)))] S none T24 ∧ JJ 4 m_M_runs o S' 268 [(1, .int x1), (2, .int x2), (3, .int ((S.1 62) - 1)), (4, .int ((S.2 72) (Int32.toNatClampNeg ((S.1 62) - 1)))), (5, .int ((S.2 73) (Int32.toNatClampNeg ((S.1 62) - 1))))] T24) ∧ (((S.2 39) (Int32.toNatClampNeg ((S.2 72) (Int32.toNatClampNeg ((S.1 62) - 1))))) = (9 : Int32) → ∃ T26, MC 3 m_M_choose [.int ((S.1 62) - 1), .int ((S.2 72) (Int32.toNatClampNeg ((S.1 62) - 1))), .int ((S.2 73) (Int32.toNatClampNeg ((S.1 62) - 1)))] S none T26 ∧ JJ 4 m_M_runs o S' 268 [(1, .int x1), (2, .int x2), (3, .int ((S.1 62) - 1)), (4, .int ((S.2 72) (Int32.toNatClampNeg ((S.1 62) - 1)))), (5, .int ((S.2 73) (Int32.toNatClampNeg ((S.1 62) - 1))))] T26) ∧ ((∀ c ∈ ([1, 2, 3, 4, 5, 6, 7, 8, 9] : List Int32), ¬ ((S.2 39) (Int32.toNatClampNeg ((S.2 72) (Int32.toNatClampNeg ((S.1 62) - 1))))) = c) → JJ 4 m_M_runs o S' 268 [(1, .int x1), (2, .int x2), (3, .int ((S.1 62) - 1)), (4, .int ((S.2 72) (Int32.toNatClampNeg ((S.1 62) - 1)))), (5, .int ((S.2 73) (Int32.toNatClampNeg ((S.1 62) - 1))))] ((va_up S.1 63 1), S.2)))))))
theorem b_M_runs_79 {o : Option Value} {S' S : cp_S} {x1 : Int32} {x2 : Int32} {x3 : Int32} (w : wp_M_runs_79 o S' S x1 x2 x3) : JJ 4 m_M_runs o S' 79 [(1, .int x1), (2, .int x2), (3, .int x3)] S := by
  unfold wp_M_runs_79 at w
  intro G h n z d hn hd
  refine vv_aload_n (pc := 79) d_M_runs_79 rfl ?_
  refine ww_gi (pc := 80) 62 d_M_runs_80 fl_M_323 (by omega) rfl ?_
  refine vv_if_le (pc := 83) (tgt := 271) d_M_runs_83 rfl (fun hc => ?_) (fun hc => ?_)
  · replace w := w.1 hc
    refine vv_aload_n (pc := 271) d_M_runs_271 rfl ?_
    refine ww_gi (pc := 272) 63 d_M_runs_272 fl_M_326 (by omega) rfl ?_
    refine vv_if_eq (pc := 275) (tgt := 282) d_M_runs_275 rfl (fun hc => ?_) (fun hc => ?_)
    · replace w := w.1 hc
      refine vv_aload_n (pc := 282) d_M_runs_282 rfl ?_
      refine ww_gi (pc := 283) 64 d_M_runs_283 fl_M_332 (by omega) rfl ?_
      obtain ⟨rfl, rfl⟩ := w
      exact vv_iret (pc := 286) d_M_runs_286 rfl
    · replace w := w.2 hc
      refine vv_iconst (pc := 278) (v := (-1)) d_M_runs_278 rfl ?_
      refine vv_goto (pc := 279) (tgt := 286) d_M_runs_279 rfl ?_
      obtain ⟨rfl, rfl⟩ := w
      exact vv_iret (pc := 286) d_M_runs_286 rfl
  · replace w := w.2 hc
    refine vv_aload_n (pc := 86) d_M_runs_86 rfl ?_
    refine ww_gi (pc := 87) 63 d_M_runs_87 fl_M_326 (by omega) rfl ?_
    refine vv_if_ne (pc := 90) (tgt := 271) d_M_runs_90 rfl (fun hc => ?_) (fun hc => ?_)
    · replace w := w.1 hc
      refine vv_aload_n (pc := 271) d_M_runs_271 rfl ?_
      refine ww_gi (pc := 272) 63 d_M_runs_272 fl_M_326 (by omega) rfl ?_
      refine vv_if_eq (pc := 275) (tgt := 282) d_M_runs_275 rfl (fun hc => ?_) (fun hc => ?_)
      · replace w := w.1 hc
        refine vv_aload_n (pc := 282) d_M_runs_282 rfl ?_
        refine ww_gi (pc := 283) 64 d_M_runs_283 fl_M_332 (by omega) rfl ?_
        obtain ⟨rfl, rfl⟩ := w
        exact vv_iret (pc := 286) d_M_runs_286 rfl
      · replace w := w.2 hc
        refine vv_iconst (pc := 278) (v := (-1)) d_M_runs_278 rfl ?_
        refine vv_goto (pc := 279) (tgt := 286) d_M_runs_279 rfl ?_
        obtain ⟨rfl, rfl⟩ := w
        exact vv_iret (pc := 286) d_M_runs_286 rfl
    · replace w := w.2 hc
      refine vv_aload_n (pc := 93) d_M_runs_93 rfl ?_
      refine ww_gi (pc := 94) 62 d_M_runs_94 fl_M_323 (by omega) rfl ?_
      refine vv_iconst (pc := 97) (v := 1) d_M_runs_97 rfl ?_
      refine vv_isub (pc := 98) d_M_runs_98 ?_
      refine vv_istore_n (pc := 99) d_M_runs_99 (Nat.le_of_ble_eq_true rfl) ?_
      refine vv_aload_n (pc := 100) d_M_runs_100 rfl ?_
      refine ww_gr (pc := 101) 66 72 d_M_runs_101 fl_M_145 (by omega) rfl (by decide) ?_
      refine vv_iload_n (pc := 104) d_M_runs_104 rfl ?_
      obtain ⟨b1, w⟩ := w
      refine ww_ld (pc := 105) 72 d_M_runs_105 (by omega) (by decide) b1 ?_
      refine vv_istore (pc := 106) d_M_runs_106 (Nat.le_of_ble_eq_true rfl) ?_
      refine vv_aload_n (pc := 108) d_M_runs_108 rfl ?_
      refine ww_gr (pc := 109) 67 73 d_M_runs_109 fl_M_148 (by omega) rfl (by decide) ?_
      refine vv_iload_n (pc := 112) d_M_runs_112 rfl ?_
      obtain ⟨b2, w⟩ := w
      refine ww_ld (pc := 113) 73 d_M_runs_113 (by omega) (by decide) b2 ?_
      refine vv_istore (pc := 114) d_M_runs_114 (Nat.le_of_ble_eq_true rfl) ?_
      refine vv_aload_n (pc := 116) d_M_runs_116 rfl ?_
      refine ww_gr (pc := 117) 17 39 d_M_runs_117 fl_M_46 (by omega) rfl (by decide) ?_
      refine vv_iload (pc := 120) d_M_runs_120 rfl ?_
      obtain ⟨b3, w⟩ := w
      refine ww_ld (pc := 122) 39 d_M_runs_122 (by omega) (by decide) b3 ?_
      by_cases e123_0 : ((S.2 39) (Int32.toNatClampNeg ((S.2 72) (Int32.toNatClampNeg ((S.1 62) - 1))))) = (1 : Int32)
      · replace w := w.1 e123_0
        refine vv_topi (y := 1) e123_0 ?_
        refine vv_tableIn (pc := 123) (off := 49) (tgt := 172) d_M_runs_123 (by decide +kernel) (by decide +kernel) (by decide +kernel) rfl ?_
        refine vv_aload_n (pc := 172) d_M_runs_172 rfl ?_
        refine vv_aload_n (pc := 173) d_M_runs_173 rfl ?_
        refine vv_aload_n (pc := 174) d_M_runs_174 rfl ?_
        refine ww_gr (pc := 175) 18 40 d_M_runs_175 fl_M_49 (by omega) rfl (by decide) ?_
        refine vv_iload (pc := 178) d_M_runs_178 rfl ?_
        obtain ⟨b4, w⟩ := w
        refine ww_ld (pc := 180) 40 d_M_runs_180 (by omega) (by decide) b4 ?_
        refine vv_aload_n (pc := 181) d_M_runs_181 rfl ?_
        refine ww_gr (pc := 182) 68 74 d_M_runs_182 fl_M_151 (by omega) rfl (by decide) ?_
        refine vv_iload_n (pc := 185) d_M_runs_185 rfl ?_
        obtain ⟨b5, w⟩ := w
        refine ww_ld (pc := 186) 74 d_M_runs_186 (by omega) (by decide) b5 ?_
        obtain ⟨r8, T7, c6, w⟩ := w
        refine vv_callV (pc := 187) (As := [.int ((S.2 40) (Int32.toNatClampNeg ((S.2 72) (Int32.toNatClampNeg ((S.1 62) - 1))))), .int ((S.2 74) (Int32.toNatClampNeg ((S.1 62) - 1)))]) d_M_runs_187 (c6 G h n z (d - 1) hn (by omega)) k_M_meaning ml_M_352.1 ml_M_352.2.1 ml_M_352.2.2.1 ml_M_352.2.2.2.1 ml_M_352.2.2.2.2 (by omega) mm_26 (by omega) (Nat.le_of_ble_eq_true rfl) ?_
        obtain ⟨T10, c9, w⟩ := w
        refine vv_callV (pc := 190) (As := [.int r8]) d_M_runs_190 (c9 G h n z (d - 1) hn (by omega)) k_M_give ml_M_342.1 ml_M_342.2.1 ml_M_342.2.2.1 ml_M_342.2.2.2.1 ml_M_342.2.2.2.2 (by omega) mm_26 (by omega) (Nat.le_of_ble_eq_true rfl) ?_
        refine vv_goto (pc := 193) (tgt := 268) d_M_runs_193 rfl ?_
        exact vv_sub [3, 4, 5, 2, 1, 0] rfl (w G h n z d hn hd)
      by_cases e123_1 : ((S.2 39) (Int32.toNatClampNeg ((S.2 72) (Int32.toNatClampNeg ((S.1 62) - 1))))) = (2 : Int32)
      · replace w := w.2.1 e123_1
        refine vv_topi (y := 2) e123_1 ?_
        refine vv_tableIn (pc := 123) (off := 73) (tgt := 196) d_M_runs_123 (by decide +kernel) (by decide +kernel) (by decide +kernel) rfl ?_
        refine vv_aload_n (pc := 196) d_M_runs_196 rfl ?_
        refine vv_aload_n (pc := 197) d_M_runs_197 rfl ?_
        refine vv_iconst (pc := 198) (v := 0) d_M_runs_198 rfl ?_
        refine vv_aload_n (pc := 199) d_M_runs_199 rfl ?_
        refine ww_gr (pc := 200) 18 40 d_M_runs_200 fl_M_49 (by omega) rfl (by decide) ?_
        refine vv_iload (pc := 203) d_M_runs_203 rfl ?_
        obtain ⟨b11, w⟩ := w
        refine ww_ld (pc := 205) 40 d_M_runs_205 (by omega) (by decide) b11 ?_
        obtain ⟨r14, T13, c12, w⟩ := w
        refine vv_callV (pc := 206) (As := [.int 0, .int ((S.2 40) (Int32.toNatClampNeg ((S.2 72) (Int32.toNatClampNeg ((S.1 62) - 1)))))]) d_M_runs_206 (c12 G h n z (d - 1) hn (by omega)) k_M_value ml_M_271.1 ml_M_271.2.1 ml_M_271.2.2.1 ml_M_271.2.2.2.1 ml_M_271.2.2.2.2 (by omega) mm_26 (by omega) (Nat.le_of_ble_eq_true rfl) ?_
        obtain ⟨T16, c15, w⟩ := w
        refine vv_callV (pc := 209) (As := [.int r14]) d_M_runs_209 (c15 G h n z (d - 1) hn (by omega)) k_M_give ml_M_342.1 ml_M_342.2.1 ml_M_342.2.2.1 ml_M_342.2.2.2.1 ml_M_342.2.2.2.2 (by omega) mm_26 (by omega) (Nat.le_of_ble_eq_true rfl) ?_
        refine vv_goto (pc := 212) (tgt := 268) d_M_runs_212 rfl ?_
        exact vv_sub [3, 4, 5, 2, 1, 0] rfl (w G h n z d hn hd)
      by_cases e123_2 : ((S.2 39) (Int32.toNatClampNeg ((S.2 72) (Int32.toNatClampNeg ((S.1 62) - 1))))) = (3 : Int32)
      · replace w := w.2.2.1 e123_2
        refine vv_topi (y := 3) e123_2 ?_
        refine vv_tableIn (pc := 123) (off := 140) (tgt := 263) d_M_runs_123 (by decide +kernel) (by decide +kernel) (by decide +kernel) rfl ?_
        refine vv_aload_n (pc := 263) d_M_runs_263 rfl ?_
        refine vv_iconst (pc := 264) (v := 1) d_M_runs_264 rfl ?_
        refine ww_pi (pc := 265) 63 d_M_runs_265 fl_M_326 (by omega) rfl rfl rfl rfl ?_
        exact vv_sub [3, 4, 5, 2, 1, 0] rfl (w G h n z d hn hd)
      by_cases e123_3 : ((S.2 39) (Int32.toNatClampNeg ((S.2 72) (Int32.toNatClampNeg ((S.1 62) - 1))))) = (4 : Int32)
      · replace w := w.2.2.2.1 e123_3
        refine vv_topi (y := 4) e123_3 ?_
        refine vv_tableIn (pc := 123) (off := 140) (tgt := 263) d_M_runs_123 (by decide +kernel) (by decide +kernel) (by decide +kernel) rfl ?_
        refine vv_aload_n (pc := 263) d_M_runs_263 rfl ?_
        refine vv_iconst (pc := 264) (v := 1) d_M_runs_264 rfl ?_
        refine ww_pi (pc := 265) 63 d_M_runs_265 fl_M_326 (by omega) rfl rfl rfl rfl ?_
        exact vv_sub [3, 4, 5, 2, 1, 0] rfl (w G h n z d hn hd)
      by_cases e123_4 : ((S.2 39) (Int32.toNatClampNeg ((S.2 72) (Int32.toNatClampNeg ((S.1 62) - 1))))) = (5 : Int32)
      · replace w := w.2.2.2.2.1 e123_4
        refine vv_topi (y := 5) e123_4 ?_
        refine vv_tableIn (pc := 123) (off := 92) (tgt := 215) d_M_runs_123 (by decide +kernel) (by decide +kernel) (by decide +kernel) rfl ?_
        refine vv_aload_n (pc := 215) d_M_runs_215 rfl ?_
        refine vv_iload_n (pc := 216) d_M_runs_216 rfl ?_
        refine vv_iload (pc := 217) d_M_runs_217 rfl ?_
        refine vv_iload (pc := 219) d_M_runs_219 rfl ?_
        obtain ⟨T18, c17, w⟩ := w
        refine vv_callV (pc := 221) (As := [.int ((S.1 62) - 1), .int ((S.2 72) (Int32.toNatClampNeg ((S.1 62) - 1))), .int ((S.2 73) (Int32.toNatClampNeg ((S.1 62) - 1)))]) d_M_runs_221 (c17 G h n z (d - 1) hn (by omega)) k_M_call ml_M_355.1 ml_M_355.2.1 ml_M_355.2.2.1 ml_M_355.2.2.2.1 ml_M_355.2.2.2.2 (by omega) mm_26 (by omega) (Nat.le_of_ble_eq_true rfl) ?_
        refine vv_goto (pc := 224) (tgt := 268) d_M_runs_224 rfl ?_
        exact vv_sub [3, 4, 5, 2, 1, 0] rfl (w G h n z d hn hd)
      by_cases e123_5 : ((S.2 39) (Int32.toNatClampNeg ((S.2 72) (Int32.toNatClampNeg ((S.1 62) - 1))))) = (6 : Int32)
      · replace w := w.2.2.2.2.2.1 e123_5
        refine vv_topi (y := 6) e123_5 ?_
        refine vv_tableIn (pc := 123) (off := 104) (tgt := 227) d_M_runs_123 (by decide +kernel) (by decide +kernel) (by decide +kernel) rfl ?_
        refine vv_aload_n (pc := 227) d_M_runs_227 rfl ?_
        refine vv_iload_n (pc := 228) d_M_runs_228 rfl ?_
        refine vv_iload (pc := 229) d_M_runs_229 rfl ?_
        refine vv_iload (pc := 231) d_M_runs_231 rfl ?_
        obtain ⟨T20, c19, w⟩ := w
        refine vv_callV (pc := 233) (As := [.int ((S.1 62) - 1), .int ((S.2 72) (Int32.toNatClampNeg ((S.1 62) - 1))), .int ((S.2 73) (Int32.toNatClampNeg ((S.1 62) - 1)))]) d_M_runs_233 (c19 G h n z (d - 1) hn (by omega)) k_M_add ml_M_358.1 ml_M_358.2.1 ml_M_358.2.2.1 ml_M_358.2.2.2.1 ml_M_358.2.2.2.2 (by omega) mm_26 (by omega) (Nat.le_of_ble_eq_true rfl) ?_
        refine vv_goto (pc := 236) (tgt := 268) d_M_runs_236 rfl ?_
        exact vv_sub [3, 4, 5, 2, 1, 0] rfl (w G h n z d hn hd)
      by_cases e123_6 : ((S.2 39) (Int32.toNatClampNeg ((S.2 72) (Int32.toNatClampNeg ((S.1 62) - 1))))) = (7 : Int32)
      · replace w := w.2.2.2.2.2.2.1 e123_6
        refine vv_topi (y := 7) e123_6 ?_
        refine vv_tableIn (pc := 123) (off := 104) (tgt := 227) d_M_runs_123 (by decide +kernel) (by decide +kernel) (by decide +kernel) rfl ?_
        refine vv_aload_n (pc := 227) d_M_runs_227 rfl ?_
        refine vv_iload_n (pc := 228) d_M_runs_228 rfl ?_
        refine vv_iload (pc := 229) d_M_runs_229 rfl ?_
        refine vv_iload (pc := 231) d_M_runs_231 rfl ?_
        obtain ⟨T22, c21, w⟩ := w
        refine vv_callV (pc := 233) (As := [.int ((S.1 62) - 1), .int ((S.2 72) (Int32.toNatClampNeg ((S.1 62) - 1))), .int ((S.2 73) (Int32.toNatClampNeg ((S.1 62) - 1)))]) d_M_runs_233 (c21 G h n z (d - 1) hn (by omega)) k_M_add ml_M_358.1 ml_M_358.2.1 ml_M_358.2.2.1 ml_M_358.2.2.2.1 ml_M_358.2.2.2.2 (by omega) mm_26 (by omega) (Nat.le_of_ble_eq_true rfl) ?_
        refine vv_goto (pc := 236) (tgt := 268) d_M_runs_236 rfl ?_
        exact vv_sub [3, 4, 5, 2, 1, 0] rfl (w G h n z d hn hd)
      by_cases e123_7 : ((S.2 39) (Int32.toNatClampNeg ((S.2 72) (Int32.toNatClampNeg ((S.1 62) - 1))))) = (8 : Int32)
      · replace w := w.2.2.2.2.2.2.2.1 e123_7
        refine vv_topi (y := 8) e123_7 ?_
        refine vv_tableIn (pc := 123) (off := 116) (tgt := 239) d_M_runs_123 (by decide +kernel) (by decide +kernel) (by decide +kernel) rfl ?_
        refine vv_aload_n (pc := 239) d_M_runs_239 rfl ?_
        refine vv_iload_n (pc := 240) d_M_runs_240 rfl ?_
        refine vv_iload (pc := 241) d_M_runs_241 rfl ?_
        refine vv_iload (pc := 243) d_M_runs_243 rfl ?_
        obtain ⟨T24, c23, w⟩ := w
        refine vv_callV (pc := 245) (As := [.int ((S.1 62) - 1), .int ((S.2 72) (Int32.toNatClampNeg ((S.1 62) - 1))), .int ((S.2 73) (Int32.toNatClampNeg ((S.1 62) - 1)))]) d_M_runs_245 (c23 G h n z (d - 1) hn (by omega)) k_M_match ml_M_361.1 ml_M_361.2.1 ml_M_361.2.2.1 ml_M_361.2.2.2.1 ml_M_361.2.2.2.2 (by omega) mm_26 (by omega) (Nat.le_of_ble_eq_true rfl) ?_
        refine vv_goto (pc := 248) (tgt := 268) d_M_runs_248 rfl ?_
        exact vv_sub [3, 4, 5, 2, 1, 0] rfl (w G h n z d hn hd)
      by_cases e123_8 : ((S.2 39) (Int32.toNatClampNeg ((S.2 72) (Int32.toNatClampNeg ((S.1 62) - 1))))) = (9 : Int32)
      · replace w := w.2.2.2.2.2.2.2.2.1 e123_8
        refine vv_topi (y := 9) e123_8 ?_
        refine vv_tableIn (pc := 123) (off := 128) (tgt := 251) d_M_runs_123 (by decide +kernel) (by decide +kernel) (by decide +kernel) rfl ?_
        refine vv_aload_n (pc := 251) d_M_runs_251 rfl ?_
        refine vv_iload_n (pc := 252) d_M_runs_252 rfl ?_
        refine vv_iload (pc := 253) d_M_runs_253 rfl ?_
        refine vv_iload (pc := 255) d_M_runs_255 rfl ?_
        obtain ⟨T26, c25, w⟩ := w
        refine vv_callV (pc := 257) (As := [.int ((S.1 62) - 1), .int ((S.2 72) (Int32.toNatClampNeg ((S.1 62) - 1))), .int ((S.2 73) (Int32.toNatClampNeg ((S.1 62) - 1)))]) d_M_runs_257 (c25 G h n z (d - 1) hn (by omega)) k_M_choose ml_M_364.1 ml_M_364.2.1 ml_M_364.2.2.1 ml_M_364.2.2.2.1 ml_M_364.2.2.2.2 (by omega) mm_26 (by omega) (Nat.le_of_ble_eq_true rfl) ?_
        refine vv_goto (pc := 260) (tgt := 268) d_M_runs_260 rfl ?_
        exact vv_sub [3, 4, 5, 2, 1, 0] rfl (w G h n z d hn hd)
      have hx : ∀ c ∈ ([1, 2, 3, 4, 5, 6, 7, 8, 9] : List Int32), ¬ ((S.2 39) (Int32.toNatClampNeg ((S.2 72) (Int32.toNatClampNeg ((S.1 62) - 1))))) = c := by
        intro c hc
        simp only [List.mem_cons, List.not_mem_nil, or_false] at hc
        rcases hc with rfl | rfl | rfl | rfl | rfl | rfl | rfl | rfl | rfl
        · exact e123_0
        · exact e123_1
        · exact e123_2
        · exact e123_3
        · exact e123_4
        · exact e123_5
        · exact e123_6
        · exact e123_7
        · exact e123_8
      replace w := w.2.2.2.2.2.2.2.2.2 hx
      refine vv_tableOut (pc := 123) (tgt := 263) d_M_runs_123 (cp_swout 1 9 ([1, 2, 3, 4, 5, 6, 7, 8, 9] : List Int32) hx (by decide +kernel)) rfl ?_
      refine vv_aload_n (pc := 263) d_M_runs_263 rfl ?_
      refine vv_iconst (pc := 264) (v := 1) d_M_runs_264 rfl ?_
      refine ww_pi (pc := 265) 63 d_M_runs_265 fl_M_326 (by omega) rfl rfl rfl rfl ?_
      exact vv_sub [3, 4, 5, 2, 1, 0] rfl (w G h n z d hn hd)
def wp_M_runs_268 (o : Option Value) (S' : cp_S) (S : cp_S) (x1 : Int32) (x2 : Int32) (x3 : Int32) (x4 : Int32) (x5 : Int32) : Prop := JJ 4 m_M_runs o S' 79 [(1, .int x1), (2, .int x2), (3, .int x3)] S
theorem b_M_runs_268 {o : Option Value} {S' S : cp_S} {x1 : Int32} {x2 : Int32} {x3 : Int32} {x4 : Int32} {x5 : Int32} (w : wp_M_runs_268 o S' S x1 x2 x3 x4 x5) : JJ 4 m_M_runs o S' 268 [(1, .int x1), (2, .int x2), (3, .int x3), (4, .int x4), (5, .int x5)] S := by
  unfold wp_M_runs_268 at w
  intro G h n z d hn hd
  refine vv_goto (pc := 268) (tgt := 79) d_M_runs_268 rfl ?_
  exact vv_sub [0, 1, 2, 3] rfl (w G h n z d hn hd)
def wp_M_isConditioned_0 (o : Option Value) (S' : cp_S) (S : cp_S) (x1 : Int32) : Prop := JJ 0 m_M_isConditioned o S' 4 [(1, .int x1), (2, .int 0), (3, .int 0)] S
theorem b_M_isConditioned_0 {o : Option Value} {S' S : cp_S} {x1 : Int32} (w : wp_M_isConditioned_0 o S' S x1) : JJ 0 m_M_isConditioned o S' 0 [(1, .int x1)] S := by
  unfold wp_M_isConditioned_0 at w
  intro G h n z d hn hd
  refine vv_iconst (pc := 0) (v := 0) d_M_isConditioned_0 rfl ?_
  refine vv_istore_n (pc := 1) d_M_isConditioned_1 (Nat.le_of_ble_eq_true rfl) ?_
  refine vv_iconst (pc := 2) (v := 0) d_M_isConditioned_2 rfl ?_
  refine vv_istore_n (pc := 3) d_M_isConditioned_3 (Nat.le_of_ble_eq_true rfl) ?_
  exact vv_sub [2, 3, 1, 0] rfl (w G h n z d hn hd)
theorem c_M_isConditioned {o : Option Value} {S' S : cp_S} {x1 : Int32} (w : JJ 0 m_M_isConditioned o S' 0 [(1, .int x1)] S) : MC 0 m_M_isConditioned [.int x1] S o S' := fun G h n z d hn hd => cp_C.of rfl (Nat.le_of_ble_eq_true rfl) (w G h n z d hn hd)
def wp_M_isConditioned_4 (o : Option Value) (S' : cp_S) (S : cp_S) (x1 : Int32) (x2 : Int32) (x3 : Int32) : Prop := vp_in x1 (cp_ml 34) ∧ ((((S.2 34) (Int32.toNatClampNeg x1)) ≤ (x3 : Int32) → (o = some (.int x2) ∧ S' = S ∧ narrow .boolean (.int x2) = .int x2)) ∧ (¬ ((S.2 34) (Int32.toNatClampNeg x1)) ≤ (x3 : Int32) → ((¬ (x2 : Int32) = 0 → JJ 0 m_M_isConditioned o S' 35 [(1, .int x1), (2, .int x2), (3, .int x3)] S) ∧ ((x2 : Int32) = 0 → vp_in x1 (cp_ml 33) ∧ vp_in (((S.2 33) (Int32.toNatClampNeg x1)) + x3) (cp_ml 44) ∧ ((¬ (((S.2 44) (Int32.toNatClampNeg (((S.2 33) (Int32.toNatClampNeg x1)) + x3))) : Int32) = 2 → JJ 0 m_M_isConditioned o S' 4 [(1, .int x1), (2, .int 0), (3, .int (x3 + 1))] S) ∧ ((((S.2 44) (Int32.toNatClampNeg (((S.2 33) (Int32.toNatClampNeg x1)) + x3))) : Int32) = 2 → JJ 0 m_M_isConditioned o S' 35 [(1, .int x1), (2, .int x2), (3, .int x3)] S))))))
theorem b_M_isConditioned_4 {o : Option Value} {S' S : cp_S} {x1 : Int32} {x2 : Int32} {x3 : Int32} (w : wp_M_isConditioned_4 o S' S x1 x2 x3) : JJ 0 m_M_isConditioned o S' 4 [(1, .int x1), (2, .int x2), (3, .int x3)] S := by
  unfold wp_M_isConditioned_4 at w
  intro G h n z d hn hd
  refine vv_iload_n (pc := 4) d_M_isConditioned_4 rfl ?_
  refine vv_aload_n (pc := 5) d_M_isConditioned_5 rfl ?_
  refine ww_gr (pc := 6) 10 34 d_M_isConditioned_6 fl_M_31 (by omega) rfl (by decide) ?_
  refine vv_iload_n (pc := 9) d_M_isConditioned_9 rfl ?_
  obtain ⟨b1, w⟩ := w
  refine ww_ld (pc := 10) 34 d_M_isConditioned_10 (by omega) (by decide) b1 ?_
  refine vv_icmp_ge (pc := 11) (tgt := 47) d_M_isConditioned_11 rfl (fun hc => ?_) (fun hc => ?_)
  · replace w := w.1 hc
    refine vv_iload_n (pc := 47) d_M_isConditioned_47 rfl ?_
    obtain ⟨rfl, rfl, hx⟩ := w
    exact vv_zret (pc := 48) d_M_isConditioned_48 rfl hx
  · replace w := w.2 hc
    refine vv_iload_n (pc := 14) d_M_isConditioned_14 rfl ?_
    refine vv_if_ne (pc := 15) (tgt := 35) d_M_isConditioned_15 rfl (fun hc => ?_) (fun hc => ?_)
    · replace w := w.1 hc
      exact vv_sub [0, 1, 2, 3] rfl (w G h n z d hn hd)
    · replace w := w.2 hc
      refine vv_aload_n (pc := 18) d_M_isConditioned_18 rfl ?_
      refine ww_gr (pc := 19) 24 44 d_M_isConditioned_19 fl_M_61 (by omega) rfl (by decide) ?_
      refine vv_aload_n (pc := 22) d_M_isConditioned_22 rfl ?_
      refine ww_gr (pc := 23) 9 33 d_M_isConditioned_23 fl_M_28 (by omega) rfl (by decide) ?_
      refine vv_iload_n (pc := 26) d_M_isConditioned_26 rfl ?_
      obtain ⟨b2, w⟩ := w
      refine ww_ld (pc := 27) 33 d_M_isConditioned_27 (by omega) (by decide) b2 ?_
      refine vv_iload_n (pc := 28) d_M_isConditioned_28 rfl ?_
      refine vv_iadd (pc := 29) d_M_isConditioned_29 ?_
      obtain ⟨b3, w⟩ := w
      refine ww_ld (pc := 30) 44 d_M_isConditioned_30 (by omega) (by decide) b3 ?_
      refine vv_iconst (pc := 31) (v := 2) d_M_isConditioned_31 rfl ?_
      refine vv_icmp_ne (pc := 32) (tgt := 39) d_M_isConditioned_32 rfl (fun hc => ?_) (fun hc => ?_)
      · replace w := w.1 hc
        refine vv_iconst (pc := 39) (v := 0) d_M_isConditioned_39 rfl ?_
        refine vv_istore_n (pc := 40) d_M_isConditioned_40 (Nat.le_of_ble_eq_true rfl) ?_
        refine vv_iinc (pc := 41) (v := (x3 + 1)) d_M_isConditioned_41 rfl rfl (Nat.le_of_ble_eq_true rfl) ?_
        refine vv_goto (pc := 44) (tgt := 4) d_M_isConditioned_44 rfl ?_
        exact vv_sub [2, 3, 1, 0] rfl (w G h n z d hn hd)
      · replace w := w.2 hc
        exact vv_sub [0, 1, 2, 3] rfl (w G h n z d hn hd)
def wp_M_isConditioned_35 (o : Option Value) (S' : cp_S) (S : cp_S) (x1 : Int32) (x2 : Int32) (x3 : Int32) : Prop := JJ 0 m_M_isConditioned o S' 4 [(1, .int x1), (2, .int 1), (3, .int (x3 + 1))] S
theorem b_M_isConditioned_35 {o : Option Value} {S' S : cp_S} {x1 : Int32} {x2 : Int32} {x3 : Int32} (w : wp_M_isConditioned_35 o S' S x1 x2 x3) : JJ 0 m_M_isConditioned o S' 35 [(1, .int x1), (2, .int x2), (3, .int x3)] S := by
  unfold wp_M_isConditioned_35 at w
  intro G h n z d hn hd
  refine vv_iconst (pc := 35) (v := 1) d_M_isConditioned_35 rfl ?_
  refine vv_goto (pc := 36) (tgt := 40) d_M_isConditioned_36 rfl ?_
  refine vv_istore_n (pc := 40) d_M_isConditioned_40 (Nat.le_of_ble_eq_true rfl) ?_
  refine vv_iinc (pc := 41) (v := (x3 + 1)) d_M_isConditioned_41 rfl rfl (Nat.le_of_ble_eq_true rfl) ?_
  refine vv_goto (pc := 44) (tgt := 4) d_M_isConditioned_44 rfl ?_
  exact vv_sub [2, 3, 1, 0] rfl (w G h n z d hn hd)
def wp_M_wrong_0 (o : Option Value) (S' : cp_S) (S : cp_S) (x1 : Int32) : Prop := (o = some (.int (-1)) ∧ S' = ((va_up S.1 59 x1), S.2))
theorem b_M_wrong_0 {o : Option Value} {S' S : cp_S} {x1 : Int32} (w : wp_M_wrong_0 o S' S x1) : JJ 0 m_M_wrong o S' 0 [(1, .int x1)] S := by
  unfold wp_M_wrong_0 at w
  intro G h n z d hn hd
  refine vv_aload_n (pc := 0) d_M_wrong_0 rfl ?_
  refine vv_iload_n (pc := 1) d_M_wrong_1 rfl ?_
  refine ww_pi (pc := 2) 59 d_M_wrong_2 fl_M_367 (by omega) rfl rfl rfl rfl ?_
  refine vv_iconst (pc := 5) (v := (-1)) d_M_wrong_5 rfl ?_
  obtain ⟨rfl, rfl⟩ := w
  exact vv_iret (pc := 6) d_M_wrong_6 rfl
theorem c_M_wrong {o : Option Value} {S' S : cp_S} {x1 : Int32} (w : JJ 0 m_M_wrong o S' 0 [(1, .int x1)] S) : MC 0 m_M_wrong [.int x1] S o S' := fun G h n z d hn hd => cp_C.of rfl (Nat.le_of_ble_eq_true rfl) (w G h n z d hn hd)
def wp_M_simple_0 (o : Option Value) (S' : cp_S) (S : cp_S) (x1 : Int32) : Prop := vp_in x1 (cp_ml 39) ∧ ((¬ (((S.2 39) (Int32.toNatClampNeg x1)) : Int32) = 2 → vp_in x1 (cp_ml 39) ∧ ((¬ (((S.2 39) (Int32.toNatClampNeg x1)) : Int32) = 3 → vp_in x1 (cp_ml 39) ∧ ((¬ (((S.2 39) (Int32.toNatClampNeg x1)) : Int32) = 1 → ((¬ ((-1) : Int32) = (-1) → (o = some (.int (-1)) ∧ S' = S)) ∧ (((-1) : Int32) = (-1) → vp_in (x1 - (S.1 20)) (cp_ml 42) ∧ ∃ r7 T6, MC 0 m_M_wrong [.int ((S.2 42) (Int32.toNatClampNeg (x1 - (S.1 20))))] S (some (.int r7)) T6 ∧ (o = some (.int r7) ∧ S' = T6)))) ∧ ((((S.2 39) (Int32.toNatClampNeg x1)) : Int32) = 1 → vp_in x1 (cp_ml 40) ∧ vp_in ((S.2 40) (Int32.toNatClampNeg x1)) (cp_ml 64) ∧ ((¬ (((S.2 64) (Int32.toNatClampNeg ((S.2 40) (Int32.toNatClampNeg x1)))) : Int32) = (-1) → (o = some (.int ((S.2 64) (Int32.toNatClampNeg ((S.2 40) (Int32.toNatClampNeg x1))))) ∧ S' = S)) ∧ ((((S.2 64) (Int32.toNatClampNeg ((S.2 40) (Int32.toNatClampNeg x1)))) : Int32) = (-1) → vp_in (x1 - (S.1 20)) (cp_ml 42) ∧ ∃ r13 T12, MC 0 m_M_wrong [.int ((S.2 42) (Int32.toNatClampNeg (x1 - (S.1 20))))] S (some (.int r13)) T12 ∧ (o = some (.int r13) ∧ S' = T12)))))) ∧ ((((S.2 39) (Int32.toNatClampNeg x1)) : Int32) = 3 → (o = some (.int (-2)) ∧ S' = S)))) ∧ ((((S.2 39) (Int32.toNatClampNeg x1)) : Int32) = 2 → ∃ r16 T15, MC 0 m_M_value [.int 1, .int 0] S (some (.int r16)) T15 ∧ (o = some (.int r16) ∧ S' = T15)))
theorem b_M_simple_0 {o : Option Value} {S' S : cp_S} {x1 : Int32} (w : wp_M_simple_0 o S' S x1) : JJ 1 m_M_simple o S' 0 [(1, .int x1)] S := by
  unfold wp_M_simple_0 at w
  intro G h n z d hn hd
  refine vv_aload_n (pc := 0) d_M_simple_0 rfl ?_
  refine ww_gr (pc := 1) 17 39 d_M_simple_1 fl_M_46 (by omega) rfl (by decide) ?_
  refine vv_iload_n (pc := 4) d_M_simple_4 rfl ?_
  obtain ⟨b1, w⟩ := w
  refine ww_ld (pc := 5) 39 d_M_simple_5 (by omega) (by decide) b1 ?_
  refine vv_iconst (pc := 6) (v := 2) d_M_simple_6 rfl ?_
  refine vv_icmp_ne (pc := 7) (tgt := 17) d_M_simple_7 rfl (fun hc => ?_) (fun hc => ?_)
  · replace w := w.1 hc
    refine vv_aload_n (pc := 17) d_M_simple_17 rfl ?_
    refine ww_gr (pc := 18) 17 39 d_M_simple_18 fl_M_46 (by omega) rfl (by decide) ?_
    refine vv_iload_n (pc := 21) d_M_simple_21 rfl ?_
    obtain ⟨b2, w⟩ := w
    refine ww_ld (pc := 22) 39 d_M_simple_22 (by omega) (by decide) b2 ?_
    refine vv_iconst (pc := 23) (v := 3) d_M_simple_23 rfl ?_
    refine vv_icmp_ne (pc := 24) (tgt := 30) d_M_simple_24 rfl (fun hc => ?_) (fun hc => ?_)
    · replace w := w.1 hc
      refine vv_aload_n (pc := 30) d_M_simple_30 rfl ?_
      refine ww_gr (pc := 31) 17 39 d_M_simple_31 fl_M_46 (by omega) rfl (by decide) ?_
      refine vv_iload_n (pc := 34) d_M_simple_34 rfl ?_
      obtain ⟨b3, w⟩ := w
      refine ww_ld (pc := 35) 39 d_M_simple_35 (by omega) (by decide) b3 ?_
      refine vv_iconst (pc := 36) (v := 1) d_M_simple_36 rfl ?_
      refine vv_icmp_ne (pc := 37) (tgt := 54) d_M_simple_37 rfl (fun hc => ?_) (fun hc => ?_)
      · replace w := w.1 hc
        refine vv_iconst (pc := 54) (v := (-1)) d_M_simple_54 rfl ?_
        refine vv_istore_n (pc := 55) d_M_simple_55 (Nat.le_of_ble_eq_true rfl) ?_
        refine vv_iload_n (pc := 56) d_M_simple_56 rfl ?_
        refine vv_iconst (pc := 57) (v := (-1)) d_M_simple_57 rfl ?_
        refine vv_icmp_ne (pc := 58) (tgt := 79) d_M_simple_58 rfl (fun hc => ?_) (fun hc => ?_)
        · replace w := w.1 hc
          refine vv_iload_n (pc := 79) d_M_simple_79 rfl ?_
          obtain ⟨rfl, rfl⟩ := w
          exact vv_iret (pc := 80) d_M_simple_80 rfl
        · replace w := w.2 hc
          refine vv_aload_n (pc := 61) d_M_simple_61 rfl ?_
          refine vv_aload_n (pc := 62) d_M_simple_62 rfl ?_
          refine ww_gr (pc := 63) 21 42 d_M_simple_63 fl_M_55 (by omega) rfl (by decide) ?_
          refine vv_iload_n (pc := 66) d_M_simple_66 rfl ?_
          refine vv_aload_n (pc := 67) d_M_simple_67 rfl ?_
          refine ww_gi (pc := 68) 20 d_M_simple_68 fl_M_197 (by omega) rfl ?_
          refine vv_isub (pc := 71) d_M_simple_71 ?_
          obtain ⟨b4, w⟩ := w
          refine ww_ld (pc := 72) 42 d_M_simple_72 (by omega) (by decide) b4 ?_
          obtain ⟨r7, T6, c5, w⟩ := w
          refine vv_callV (pc := 73) (As := [.int ((S.2 42) (Int32.toNatClampNeg (x1 - (S.1 20))))]) d_M_simple_73 (c5 G h n z (d - 1) hn (by omega)) k_M_wrong ml_M_370.1 ml_M_370.2.1 ml_M_370.2.2.1 ml_M_370.2.2.2.1 ml_M_370.2.2.2.2 (by omega) mm_26 (by omega) (Nat.le_of_ble_eq_true rfl) ?_
          refine vv_goto (pc := 76) (tgt := 80) d_M_simple_76 rfl ?_
          obtain ⟨rfl, rfl⟩ := w
          exact vv_iret (pc := 80) d_M_simple_80 rfl
      · replace w := w.2 hc
        refine vv_aload_n (pc := 40) d_M_simple_40 rfl ?_
        refine ww_gr (pc := 41) 51 64 d_M_simple_41 fl_M_121 (by omega) rfl (by decide) ?_
        refine vv_aload_n (pc := 44) d_M_simple_44 rfl ?_
        refine ww_gr (pc := 45) 18 40 d_M_simple_45 fl_M_49 (by omega) rfl (by decide) ?_
        refine vv_iload_n (pc := 48) d_M_simple_48 rfl ?_
        obtain ⟨b8, w⟩ := w
        refine ww_ld (pc := 49) 40 d_M_simple_49 (by omega) (by decide) b8 ?_
        obtain ⟨b9, w⟩ := w
        refine ww_ld (pc := 50) 64 d_M_simple_50 (by omega) (by decide) b9 ?_
        refine vv_goto (pc := 51) (tgt := 55) d_M_simple_51 rfl ?_
        refine vv_istore_n (pc := 55) d_M_simple_55 (Nat.le_of_ble_eq_true rfl) ?_
        refine vv_iload_n (pc := 56) d_M_simple_56 rfl ?_
        refine vv_iconst (pc := 57) (v := (-1)) d_M_simple_57 rfl ?_
        refine vv_icmp_ne (pc := 58) (tgt := 79) d_M_simple_58 rfl (fun hc => ?_) (fun hc => ?_)
        · replace w := w.1 hc
          refine vv_iload_n (pc := 79) d_M_simple_79 rfl ?_
          obtain ⟨rfl, rfl⟩ := w
          exact vv_iret (pc := 80) d_M_simple_80 rfl
        · replace w := w.2 hc
          refine vv_aload_n (pc := 61) d_M_simple_61 rfl ?_
          refine vv_aload_n (pc := 62) d_M_simple_62 rfl ?_
          refine ww_gr (pc := 63) 21 42 d_M_simple_63 fl_M_55 (by omega) rfl (by decide) ?_
          refine vv_iload_n (pc := 66) d_M_simple_66 rfl ?_
          refine vv_aload_n (pc := 67) d_M_simple_67 rfl ?_
          refine ww_gi (pc := 68) 20 d_M_simple_68 fl_M_197 (by omega) rfl ?_
          refine vv_isub (pc := 71) d_M_simple_71 ?_
          obtain ⟨b10, w⟩ := w
          refine ww_ld (pc := 72) 42 d_M_simple_72 (by omega) (by decide) b10 ?_
          obtain ⟨r13, T12, c11, w⟩ := w
          refine vv_callV (pc := 73) (As := [.int ((S.2 42) (Int32.toNatClampNeg (x1 - (S.1 20))))]) d_M_simple_73 (c11 G h n z (d - 1) hn (by omega)) k_M_wrong ml_M_370.1 ml_M_370.2.1 ml_M_370.2.2.1 ml_M_370.2.2.2.1 ml_M_370.2.2.2.2 (by omega) mm_26 (by omega) (Nat.le_of_ble_eq_true rfl) ?_
          refine vv_goto (pc := 76) (tgt := 80) d_M_simple_76 rfl ?_
          obtain ⟨rfl, rfl⟩ := w
          exact vv_iret (pc := 80) d_M_simple_80 rfl
    · replace w := w.2 hc
      refine vv_bipush (pc := 27) (v := (-2)) d_M_simple_27 rfl ?_
      obtain ⟨rfl, rfl⟩ := w
      exact vv_iret (pc := 29) d_M_simple_29 rfl
  · replace w := w.2 hc
    refine vv_aload_n (pc := 10) d_M_simple_10 rfl ?_
    refine vv_iconst (pc := 11) (v := 1) d_M_simple_11 rfl ?_
    refine vv_iconst (pc := 12) (v := 0) d_M_simple_12 rfl ?_
    obtain ⟨r16, T15, c14, w⟩ := w
    refine vv_callV (pc := 13) (As := [.int 1, .int 0]) d_M_simple_13 (c14 G h n z (d - 1) hn (by omega)) k_M_value ml_M_271.1 ml_M_271.2.1 ml_M_271.2.2.1 ml_M_271.2.2.2.1 ml_M_271.2.2.2.2 (by omega) mm_26 (by omega) (Nat.le_of_ble_eq_true rfl) ?_
    obtain ⟨rfl, rfl⟩ := w
    exact vv_iret (pc := 16) d_M_simple_16 rfl
theorem c_M_simple {o : Option Value} {S' S : cp_S} {x1 : Int32} (w : JJ 1 m_M_simple o S' 0 [(1, .int x1)] S) : MC 1 m_M_simple [.int x1] S o S' := fun G h n z d hn hd => cp_C.of rfl (Nat.le_of_ble_eq_true rfl) (w G h n z d hn hd)
def wp_M_begin_0 (o : Option Value) (S' : cp_S) (S : cp_S) (x1 : Int32) (x2 : Int32) : Prop := vp_in x1 (cp_ml 40) ∧ vp_in ((S.2 40) (Int32.toNatClampNeg x1)) (cp_ml 30) ∧ ((¬ (((S.2 30) (Int32.toNatClampNeg ((S.2 40) (Int32.toNatClampNeg x1)))) : Int32) = 1 → JJ 1 m_M_begin o S' 47 [(1, .int x1), (2, .int x2), (3, .int ((S.2 40) (Int32.toNatClampNeg x1)))] S) ∧ ((((S.2 30) (Int32.toNatClampNeg ((S.2 40) (Int32.toNatClampNeg x1)))) : Int32) = 1 → vp_in ((S.2 40) (Int32.toNatClampNeg x1)) (cp_ml 31) ∧ vp_in x1 (cp_ml 41) ∧ ((¬ (((S.2 31) (Int32.toNatClampNeg ((S.2 40) (Int32.toNatClampNeg x1)))) : Int32) = ((S.2 41) (Int32.toNatClampNeg x1)) → JJ 1 m_M_begin o S' 47 [(1, .int x1), (2, .int x2), (3, .int ((S.2 40) (Int32.toNatClampNeg x1)))] S) ∧ ((((S.2 31) (Int32.toNatClampNeg ((S.2 40) (Int32.toNatClampNeg x1)))) : Int32) = ((S.2 41) (Int32.toNatClampNeg x1)) → ((((S.1 58) : Int32) = 0 → JJ 1 m_M_begin o S' 64 [(1, .int x1), (2, .int x2), (3, .int ((S.2 40) (Int32.toNatClampNeg x1)))] S) ∧ (¬ ((S.1 58) : Int32) = 0 → ∃ r7 T6, MC 0 m_M_isConditioned [.int ((S.2 40) (Int32.toNatClampNeg x1))] S (some (.int r7)) T6 ∧ (((r7 : Int32) = 0 → JJ 1 m_M_begin o S' 64 [(1, .int x1), (2, .int x2), (3, .int ((S.2 40) (Int32.toNatClampNeg x1)))] T6) ∧ (¬ (r7 : Int32) = 0 → JJ 1 m_M_begin o S' 47 [(1, .int x1), (2, .int x2), (3, .int ((S.2 40) (Int32.toNatClampNeg x1)))] T6))))))))
theorem b_M_begin_0 {o : Option Value} {S' S : cp_S} {x1 : Int32} {x2 : Int32} (w : wp_M_begin_0 o S' S x1 x2) : JJ 1 m_M_begin o S' 0 [(1, .int x1), (2, .int x2)] S := by
  unfold wp_M_begin_0 at w
  intro G h n z d hn hd
  refine vv_aload_n (pc := 0) d_M_begin_0 rfl ?_
  refine ww_gr (pc := 1) 18 40 d_M_begin_1 fl_M_49 (by omega) rfl (by decide) ?_
  refine vv_iload_n (pc := 4) d_M_begin_4 rfl ?_
  obtain ⟨b1, w⟩ := w
  refine ww_ld (pc := 5) 40 d_M_begin_5 (by omega) (by decide) b1 ?_
  refine vv_istore_n (pc := 6) d_M_begin_6 (Nat.le_of_ble_eq_true rfl) ?_
  refine vv_aload_n (pc := 7) d_M_begin_7 rfl ?_
  refine ww_gr (pc := 8) 6 30 d_M_begin_8 fl_M_19 (by omega) rfl (by decide) ?_
  refine vv_iload_n (pc := 11) d_M_begin_11 rfl ?_
  obtain ⟨b2, w⟩ := w
  refine ww_ld (pc := 12) 30 d_M_begin_12 (by omega) (by decide) b2 ?_
  refine vv_iconst (pc := 13) (v := 1) d_M_begin_13 rfl ?_
  refine vv_icmp_ne (pc := 14) (tgt := 47) d_M_begin_14 rfl (fun hc => ?_) (fun hc => ?_)
  · replace w := w.1 hc
    exact vv_sub [1, 2, 3, 0] rfl (w G h n z d hn hd)
  · replace w := w.2 hc
    refine vv_aload_n (pc := 17) d_M_begin_17 rfl ?_
    refine ww_gr (pc := 18) 7 31 d_M_begin_18 fl_M_22 (by omega) rfl (by decide) ?_
    refine vv_iload_n (pc := 21) d_M_begin_21 rfl ?_
    obtain ⟨b3, w⟩ := w
    refine ww_ld (pc := 22) 31 d_M_begin_22 (by omega) (by decide) b3 ?_
    refine vv_aload_n (pc := 23) d_M_begin_23 rfl ?_
    refine ww_gr (pc := 24) 19 41 d_M_begin_24 fl_M_52 (by omega) rfl (by decide) ?_
    refine vv_iload_n (pc := 27) d_M_begin_27 rfl ?_
    obtain ⟨b4, w⟩ := w
    refine ww_ld (pc := 28) 41 d_M_begin_28 (by omega) (by decide) b4 ?_
    refine vv_icmp_ne (pc := 29) (tgt := 47) d_M_begin_29 rfl (fun hc => ?_) (fun hc => ?_)
    · replace w := w.1 hc
      exact vv_sub [1, 2, 3, 0] rfl (w G h n z d hn hd)
    · replace w := w.2 hc
      refine vv_aload_n (pc := 32) d_M_begin_32 rfl ?_
      refine ww_gi (pc := 33) 58 d_M_begin_33 fl_M_373 (by omega) rfl ?_
      refine vv_if_eq (pc := 36) (tgt := 64) d_M_begin_36 rfl (fun hc => ?_) (fun hc => ?_)
      · replace w := w.1 hc
        exact vv_sub [1, 2, 3, 0] rfl (w G h n z d hn hd)
      · replace w := w.2 hc
        refine vv_aload_n (pc := 39) d_M_begin_39 rfl ?_
        refine vv_iload_n (pc := 40) d_M_begin_40 rfl ?_
        obtain ⟨r7, T6, c5, w⟩ := w
        refine vv_callV (pc := 41) (As := [.int ((S.2 40) (Int32.toNatClampNeg x1))]) d_M_begin_41 (c5 G h n z (d - 1) hn (by omega)) k_M_isConditioned ml_M_376.1 ml_M_376.2.1 ml_M_376.2.2.1 ml_M_376.2.2.2.1 ml_M_376.2.2.2.2 (by omega) mm_26 (by omega) (Nat.le_of_ble_eq_true rfl) ?_
        refine vv_if_eq (pc := 44) (tgt := 64) d_M_begin_44 rfl (fun hc => ?_) (fun hc => ?_)
        · replace w := w.1 hc
          exact vv_sub [1, 2, 3, 0] rfl (w G h n z d hn hd)
        · replace w := w.2 hc
          exact vv_sub [1, 2, 3, 0] rfl (w G h n z d hn hd)
theorem c_M_begin {o : Option Value} {S' S : cp_S} {x1 : Int32} {x2 : Int32} (w : JJ 1 m_M_begin o S' 0 [(1, .int x1), (2, .int x2)] S) : MC 1 m_M_begin [.int x1, .int x2] S o S' := fun G h n z d hn hd => cp_C.of rfl (Nat.le_of_ble_eq_true rfl) (w G h n z d hn hd)
def wp_M_begin_47 (o : Option Value) (S' : cp_S) (S : cp_S) (x1 : Int32) (x2 : Int32) (x3 : Int32) : Prop := vp_in (x1 - (S.1 20)) (cp_ml 42) ∧ (o = some (.int 0) ∧ S' = ((va_up S.1 59 ((S.2 42) (Int32.toNatClampNeg (x1 - (S.1 20))))), S.2) ∧ narrow .boolean (.int 0) = .int 0)
theorem b_M_begin_47 {o : Option Value} {S' S : cp_S} {x1 : Int32} {x2 : Int32} {x3 : Int32} (w : wp_M_begin_47 o S' S x1 x2 x3) : JJ 1 m_M_begin o S' 47 [(1, .int x1), (2, .int x2), (3, .int x3)] S := by
  unfold wp_M_begin_47 at w
  intro G h n z d hn hd
  refine vv_aload_n (pc := 47) d_M_begin_47 rfl ?_
  refine vv_aload_n (pc := 48) d_M_begin_48 rfl ?_
  refine ww_gr (pc := 49) 21 42 d_M_begin_49 fl_M_55 (by omega) rfl (by decide) ?_
  refine vv_iload_n (pc := 52) d_M_begin_52 rfl ?_
  refine vv_aload_n (pc := 53) d_M_begin_53 rfl ?_
  refine ww_gi (pc := 54) 20 d_M_begin_54 fl_M_197 (by omega) rfl ?_
  refine vv_isub (pc := 57) d_M_begin_57 ?_
  obtain ⟨b1, w⟩ := w
  refine ww_ld (pc := 58) 42 d_M_begin_58 (by omega) (by decide) b1 ?_
  refine ww_pi (pc := 59) 59 d_M_begin_59 fl_M_367 (by omega) rfl rfl rfl rfl ?_
  refine vv_iconst (pc := 62) (v := 0) d_M_begin_62 rfl ?_
  obtain ⟨rfl, rfl, hx⟩ := w
  exact vv_zret (pc := 63) d_M_begin_63 rfl hx
def wp_M_begin_64 (o : Option Value) (S' : cp_S) (S : cp_S) (x1 : Int32) (x2 : Int32) (x3 : Int32) : Prop := vp_in x2 (cp_ml 65) ∧ vp_in x2 (cp_ml 66) ∧ vp_in x2 (cp_ml 67) ∧ vp_in x2 (cp_ml 68) ∧ vp_in x2 (cp_ml 69) ∧ vp_in x2 (cp_ml 70) ∧ JJ 1 m_M_begin o S' 120 [(1, .int x1), (2, .int x2), (3, .int x3), (4, .int 0)] (S.1, (va_up (va_up (va_up (va_up (va_up (va_up S.2 65 (upd (S.2 65) (Int32.toNatClampNeg x2) x1)) 66 (upd (S.2 66) (Int32.toNatClampNeg x2) 0)) 67 (upd (S.2 67) (Int32.toNatClampNeg x2) (x1 + 1))) 68 (upd (S.2 68) (Int32.toNatClampNeg x2) (S.1 35))) 69 (upd (S.2 69) (Int32.toNatClampNeg x2) (S.1 40))) 70 (upd (S.2 70) (Int32.toNatClampNeg x2) (S.1 42))))
theorem b_M_begin_64 {o : Option Value} {S' S : cp_S} {x1 : Int32} {x2 : Int32} {x3 : Int32} (w : wp_M_begin_64 o S' S x1 x2 x3) : JJ 1 m_M_begin o S' 64 [(1, .int x1), (2, .int x2), (3, .int x3)] S := by
  unfold wp_M_begin_64 at w
  intro G h n z d hn hd
  refine vv_aload_n (pc := 64) d_M_begin_64 rfl ?_
  refine ww_gr (pc := 65) 52 65 d_M_begin_65 fl_M_124 (by omega) rfl (by decide) ?_
  refine vv_iload_n (pc := 68) d_M_begin_68 rfl ?_
  refine vv_iload_n (pc := 69) d_M_begin_69 rfl ?_
  obtain ⟨b1, w⟩ := w
  refine ww_st (pc := 70) 65 d_M_begin_70 (by omega) (by decide) b1 ?_
  refine vv_aload_n (pc := 71) d_M_begin_71 rfl ?_
  refine ww_gr (pc := 72) 53 66 d_M_begin_72 fl_M_127 (by omega) rfl (by decide) ?_
  refine vv_iload_n (pc := 75) d_M_begin_75 rfl ?_
  refine vv_iconst (pc := 76) (v := 0) d_M_begin_76 rfl ?_
  obtain ⟨b2, w⟩ := w
  refine ww_st (pc := 77) 66 d_M_begin_77 (by omega) (by decide) b2 ?_
  refine vv_aload_n (pc := 78) d_M_begin_78 rfl ?_
  refine ww_gr (pc := 79) 54 67 d_M_begin_79 fl_M_130 (by omega) rfl (by decide) ?_
  refine vv_iload_n (pc := 82) d_M_begin_82 rfl ?_
  refine vv_iload_n (pc := 83) d_M_begin_83 rfl ?_
  refine vv_iconst (pc := 84) (v := 1) d_M_begin_84 rfl ?_
  refine vv_iadd (pc := 85) d_M_begin_85 ?_
  obtain ⟨b3, w⟩ := w
  refine ww_st (pc := 86) 67 d_M_begin_86 (by omega) (by decide) b3 ?_
  refine vv_aload_n (pc := 87) d_M_begin_87 rfl ?_
  refine ww_gr (pc := 88) 55 68 d_M_begin_88 fl_M_133 (by omega) rfl (by decide) ?_
  refine vv_iload_n (pc := 91) d_M_begin_91 rfl ?_
  refine vv_aload_n (pc := 92) d_M_begin_92 rfl ?_
  refine ww_gi (pc := 93) 35 d_M_begin_93 fl_M_259 (by omega) rfl ?_
  obtain ⟨b4, w⟩ := w
  refine ww_st (pc := 96) 68 d_M_begin_96 (by omega) (by decide) b4 ?_
  refine vv_aload_n (pc := 97) d_M_begin_97 rfl ?_
  refine ww_gr (pc := 98) 56 69 d_M_begin_98 fl_M_136 (by omega) rfl (by decide) ?_
  refine vv_iload_n (pc := 101) d_M_begin_101 rfl ?_
  refine vv_aload_n (pc := 102) d_M_begin_102 rfl ?_
  refine ww_gi (pc := 103) 40 d_M_begin_103 fl_M_262 (by omega) rfl ?_
  obtain ⟨b5, w⟩ := w
  refine ww_st (pc := 106) 69 d_M_begin_106 (by omega) (by decide) b5 ?_
  refine vv_aload_n (pc := 107) d_M_begin_107 rfl ?_
  refine ww_gr (pc := 108) 57 70 d_M_begin_108 fl_M_139 (by omega) rfl (by decide) ?_
  refine vv_iload_n (pc := 111) d_M_begin_111 rfl ?_
  refine vv_aload_n (pc := 112) d_M_begin_112 rfl ?_
  refine ww_gi (pc := 113) 42 d_M_begin_113 fl_M_265 (by omega) rfl ?_
  obtain ⟨b6, w⟩ := w
  refine ww_st (pc := 116) 70 d_M_begin_116 (by omega) (by decide) b6 ?_
  refine vv_iconst (pc := 117) (v := 0) d_M_begin_117 rfl ?_
  refine vv_istore (pc := 118) d_M_begin_118 (Nat.le_of_ble_eq_true rfl) ?_
  exact vv_sub [1, 2, 3, 4, 0] rfl (w G h n z d hn hd)
def wp_M_begin_120 (o : Option Value) (S' : cp_S) (S : cp_S) (x1 : Int32) (x2 : Int32) (x3 : Int32) (x4 : Int32) : Prop := ((26 ≤ (x4 : Int32) → (o = some (.int 1) ∧ S' = S ∧ narrow .boolean (.int 1) = .int 1)) ∧ (¬ 26 ≤ (x4 : Int32) → vp_in ((26 * x2) + x4) (cp_ml 63) ∧ JJ 1 m_M_begin o S' 120 [(1, .int x1), (2, .int x2), (3, .int x3), (4, .int (x4 + 1))] (S.1, (va_up S.2 63 (upd (S.2 63) (Int32.toNatClampNeg ((26 * x2) + x4)) (-1))))))
theorem b_M_begin_120 {o : Option Value} {S' S : cp_S} {x1 : Int32} {x2 : Int32} {x3 : Int32} {x4 : Int32} (w : wp_M_begin_120 o S' S x1 x2 x3 x4) : JJ 1 m_M_begin o S' 120 [(1, .int x1), (2, .int x2), (3, .int x3), (4, .int x4)] S := by
  unfold wp_M_begin_120 at w
  intro G h n z d hn hd
  refine vv_iload (pc := 120) d_M_begin_120 rfl ?_
  refine vv_bipush (pc := 122) (v := 26) d_M_begin_122 rfl ?_
  refine vv_icmp_ge (pc := 124) (tgt := 146) d_M_begin_124 rfl (fun hc => ?_) (fun hc => ?_)
  · replace w := w.1 hc
    refine vv_iconst (pc := 146) (v := 1) d_M_begin_146 rfl ?_
    obtain ⟨rfl, rfl, hx⟩ := w
    exact vv_zret (pc := 147) d_M_begin_147 rfl hx
  · replace w := w.2 hc
    refine vv_aload_n (pc := 127) d_M_begin_127 rfl ?_
    refine ww_gr (pc := 128) 50 63 d_M_begin_128 fl_M_118 (by omega) rfl (by decide) ?_
    refine vv_bipush (pc := 131) (v := 26) d_M_begin_131 rfl ?_
    refine vv_iload_n (pc := 133) d_M_begin_133 rfl ?_
    refine vv_imul (pc := 134) d_M_begin_134 ?_
    refine vv_iload (pc := 135) d_M_begin_135 rfl ?_
    refine vv_iadd (pc := 137) d_M_begin_137 ?_
    refine vv_iconst (pc := 138) (v := (-1)) d_M_begin_138 rfl ?_
    obtain ⟨b1, w⟩ := w
    refine ww_st (pc := 139) 63 d_M_begin_139 (by omega) (by decide) b1 ?_
    refine vv_iinc (pc := 140) (v := (x4 + 1)) d_M_begin_140 rfl rfl (Nat.le_of_ble_eq_true rfl) ?_
    refine vv_goto (pc := 143) (tgt := 120) d_M_begin_143 rfl ?_
    exact vv_sub [1, 2, 3, 4, 0] rfl (w G h n z d hn hd)
def wp_M_settle_0 (o : Option Value) (S' : cp_S) (S : cp_S) (x1 : Int32) : Prop := vp_in x1 (cp_ml 65) ∧ vp_in ((S.2 65) (Int32.toNatClampNeg x1)) (cp_ml 40) ∧ vp_in ((S.2 40) (Int32.toNatClampNeg ((S.2 65) (Int32.toNatClampNeg x1)))) (cp_ml 33) ∧ vp_in x1 (cp_ml 66) ∧ vp_in (((S.2 33) (Int32.toNatClampNeg ((S.2 40) (Int32.toNatClampNeg ((S.2 65) (Int32.toNatClampNeg x1)))))) + ((S.2 66) (Int32.toNatClampNeg x1))) (cp_ml 44) ∧ ((¬ (((S.2 44) (Int32.toNatClampNeg (((S.2 33) (Int32.toNatClampNeg ((S.2 40) (Int32.toNatClampNeg ((S.2 65) (Int32.toNatClampNeg x1)))))) + ((S.2 66) (Int32.toNatClampNeg x1))))) : Int32) = 0 → JJ 3 m_M_settle o S' 60 [(1, .int x1), (2, .int (((S.2 33) (Int32.toNatClampNeg ((S.2 40) (Int32.toNatClampNeg ((S.2 65) (Int32.toNatClampNeg x1)))))) + ((S.2 66) (Int32.toNatClampNeg x1))))] S) ∧ ((((S.2 44) (Int32.toNatClampNeg (((S.2 33) (Int32.toNatClampNeg ((S.2 40) (Int32.toNatClampNeg ((S.2 65) (Int32.toNatClampNeg x1)))))) + ((S.2 66) (Int32.toNatClampNeg x1))))) : Int32) = 0 → vp_in (((S.2 33) (Int32.toNatClampNeg ((S.2 40) (Int32.toNatClampNeg ((S.2 65) (Int32.toNatClampNeg x1)))))) + ((S.2 66) (Int32.toNatClampNeg x1))) (cp_ml 45) ∧ vp_in x1 (cp_ml 67) ∧ ∃ r10 T9, MC 2 m_M_valueOf [.int ((S.2 67) (Int32.toNatClampNeg x1)), .int 0] S (some (.int r10)) T9 ∧ vp_in ((26 * x1) + ((S.2 45) (Int32.toNatClampNeg (((S.2 33) (Int32.toNatClampNeg ((S.2 40) (Int32.toNatClampNeg ((S.2 65) (Int32.toNatClampNeg x1)))))) + ((S.2 66) (Int32.toNatClampNeg x1)))))) (cp_ml 63) ∧ JJ 3 m_M_settle o S' 60 [(1, .int x1), (2, .int (((S.2 33) (Int32.toNatClampNeg ((S.2 40) (Int32.toNatClampNeg ((S.2 65) (Int32.toNatClampNeg x1)))))) + ((S.2 66) (Int32.toNatClampNeg x1))))] (T9.1, (va_up T9.2 63 (upd (T9.2 63) (Int32.toNatClampNeg ((26 * x1) + ((S.2 45) (Int32.toNatClampNeg (((S.2 33) (Int32.toNatClampNeg ((S.2 40) (Int32.toNatClampNeg ((S.2 65) (Int32.toNatClampNeg x1)))))) + ((S.2 66) (Int32.toNatClampNeg x1))))))) r10)))))
theorem b_M_settle_0 {o : Option Value} {S' S : cp_S} {x1 : Int32} (w : wp_M_settle_0 o S' S x1) : JJ 3 m_M_settle o S' 0 [(1, .int x1)] S := by
  unfold wp_M_settle_0 at w
  intro G h n z d hn hd
  refine vv_aload_n (pc := 0) d_M_settle_0 rfl ?_
  refine ww_gr (pc := 1) 9 33 d_M_settle_1 fl_M_28 (by omega) rfl (by decide) ?_
  refine vv_aload_n (pc := 4) d_M_settle_4 rfl ?_
  refine ww_gr (pc := 5) 18 40 d_M_settle_5 fl_M_49 (by omega) rfl (by decide) ?_
  refine vv_aload_n (pc := 8) d_M_settle_8 rfl ?_
  refine ww_gr (pc := 9) 52 65 d_M_settle_9 fl_M_124 (by omega) rfl (by decide) ?_
  refine vv_iload_n (pc := 12) d_M_settle_12 rfl ?_
  obtain ⟨b1, w⟩ := w
  refine ww_ld (pc := 13) 65 d_M_settle_13 (by omega) (by decide) b1 ?_
  obtain ⟨b2, w⟩ := w
  refine ww_ld (pc := 14) 40 d_M_settle_14 (by omega) (by decide) b2 ?_
  obtain ⟨b3, w⟩ := w
  refine ww_ld (pc := 15) 33 d_M_settle_15 (by omega) (by decide) b3 ?_
  refine vv_aload_n (pc := 16) d_M_settle_16 rfl ?_
  refine ww_gr (pc := 17) 53 66 d_M_settle_17 fl_M_127 (by omega) rfl (by decide) ?_
  refine vv_iload_n (pc := 20) d_M_settle_20 rfl ?_
  obtain ⟨b4, w⟩ := w
  refine ww_ld (pc := 21) 66 d_M_settle_21 (by omega) (by decide) b4 ?_
  refine vv_iadd (pc := 22) d_M_settle_22 ?_
  refine vv_istore_n (pc := 23) d_M_settle_23 (Nat.le_of_ble_eq_true rfl) ?_
  refine vv_aload_n (pc := 24) d_M_settle_24 rfl ?_
  refine ww_gr (pc := 25) 24 44 d_M_settle_25 fl_M_61 (by omega) rfl (by decide) ?_
  refine vv_iload_n (pc := 28) d_M_settle_28 rfl ?_
  obtain ⟨b5, w⟩ := w
  refine ww_ld (pc := 29) 44 d_M_settle_29 (by omega) (by decide) b5 ?_
  refine vv_if_ne (pc := 30) (tgt := 60) d_M_settle_30 rfl (fun hc => ?_) (fun hc => ?_)
  · replace w := w.1 hc
    exact vv_sub [1, 2, 0] rfl (w G h n z d hn hd)
  · replace w := w.2 hc
    refine vv_aload_n (pc := 33) d_M_settle_33 rfl ?_
    refine ww_gr (pc := 34) 50 63 d_M_settle_34 fl_M_118 (by omega) rfl (by decide) ?_
    refine vv_bipush (pc := 37) (v := 26) d_M_settle_37 rfl ?_
    refine vv_iload_n (pc := 39) d_M_settle_39 rfl ?_
    refine vv_imul (pc := 40) d_M_settle_40 ?_
    refine vv_aload_n (pc := 41) d_M_settle_41 rfl ?_
    refine ww_gr (pc := 42) 25 45 d_M_settle_42 fl_M_64 (by omega) rfl (by decide) ?_
    refine vv_iload_n (pc := 45) d_M_settle_45 rfl ?_
    obtain ⟨b6, w⟩ := w
    refine ww_ld (pc := 46) 45 d_M_settle_46 (by omega) (by decide) b6 ?_
    refine vv_iadd (pc := 47) d_M_settle_47 ?_
    refine vv_aload_n (pc := 48) d_M_settle_48 rfl ?_
    refine vv_aload_n (pc := 49) d_M_settle_49 rfl ?_
    refine ww_gr (pc := 50) 54 67 d_M_settle_50 fl_M_130 (by omega) rfl (by decide) ?_
    refine vv_iload_n (pc := 53) d_M_settle_53 rfl ?_
    obtain ⟨b7, w⟩ := w
    refine ww_ld (pc := 54) 67 d_M_settle_54 (by omega) (by decide) b7 ?_
    refine vv_iconst (pc := 55) (v := 0) d_M_settle_55 rfl ?_
    obtain ⟨r10, T9, c8, w⟩ := w
    refine vv_callV (pc := 56) (As := [.int ((S.2 67) (Int32.toNatClampNeg x1)), .int 0]) d_M_settle_56 (c8 G h n z (d - 1) hn (by omega)) k_M_valueOf ml_M_379.1 ml_M_379.2.1 ml_M_379.2.2.1 ml_M_379.2.2.2.1 ml_M_379.2.2.2.2 (by omega) mm_26 (by omega) (Nat.le_of_ble_eq_true rfl) ?_
    obtain ⟨b11, w⟩ := w
    refine ww_st (pc := 59) 63 d_M_settle_59 (by omega) (by decide) b11 ?_
    exact vv_sub [1, 2, 0] rfl (w G h n z d hn hd)
theorem c_M_settle {o : Option Value} {S' S : cp_S} {x1 : Int32} (w : JJ 3 m_M_settle o S' 0 [(1, .int x1)] S) : MC 3 m_M_settle [.int x1] S o S' := fun G h n z d hn hd => cp_C.of rfl (Nat.le_of_ble_eq_true rfl) (w G h n z d hn hd)
def wp_M_settle_60 (o : Option Value) (S' : cp_S) (S : cp_S) (x1 : Int32) (x2 : Int32) : Prop := vp_in x1 (cp_ml 67) ∧ ∃ r4 T3, MC 1 m_M_behind [.int ((S.2 67) (Int32.toNatClampNeg x1))] S (some (.int r4)) T3 ∧ vp_in x1 (cp_ml 67) ∧ vp_in x1 (cp_ml 66) ∧ vp_in x1 (cp_ml 66) ∧ (o = none ∧ S' = (T3.1, (va_up (va_up T3.2 67 (upd (T3.2 67) (Int32.toNatClampNeg x1) r4)) 66 (upd (T3.2 66) (Int32.toNatClampNeg x1) (((T3.2 66) (Int32.toNatClampNeg x1)) + 1)))))
theorem b_M_settle_60 {o : Option Value} {S' S : cp_S} {x1 : Int32} {x2 : Int32} (w : wp_M_settle_60 o S' S x1 x2) : JJ 3 m_M_settle o S' 60 [(1, .int x1), (2, .int x2)] S := by
  unfold wp_M_settle_60 at w
  intro G h n z d hn hd
  refine vv_aload_n (pc := 60) d_M_settle_60 rfl ?_
  refine ww_gr (pc := 61) 54 67 d_M_settle_61 fl_M_130 (by omega) rfl (by decide) ?_
  refine vv_iload_n (pc := 64) d_M_settle_64 rfl ?_
  refine vv_aload_n (pc := 65) d_M_settle_65 rfl ?_
  refine vv_aload_n (pc := 66) d_M_settle_66 rfl ?_
  refine ww_gr (pc := 67) 54 67 d_M_settle_67 fl_M_130 (by omega) rfl (by decide) ?_
  refine vv_iload_n (pc := 70) d_M_settle_70 rfl ?_
  obtain ⟨b1, w⟩ := w
  refine ww_ld (pc := 71) 67 d_M_settle_71 (by omega) (by decide) b1 ?_
  obtain ⟨r4, T3, c2, w⟩ := w
  refine vv_callV (pc := 72) (As := [.int ((S.2 67) (Int32.toNatClampNeg x1))]) d_M_settle_72 (c2 G h n z (d - 1) hn (by omega)) k_M_behind ml_M_268.1 ml_M_268.2.1 ml_M_268.2.2.1 ml_M_268.2.2.2.1 ml_M_268.2.2.2.2 (by omega) mm_26 (by omega) (Nat.le_of_ble_eq_true rfl) ?_
  obtain ⟨b5, w⟩ := w
  refine ww_st (pc := 75) 67 d_M_settle_75 (by omega) (by decide) b5 ?_
  refine vv_aload_n (pc := 76) d_M_settle_76 rfl ?_
  refine ww_gr (pc := 77) 53 66 d_M_settle_77 fl_M_127 (by omega) rfl (by decide) ?_
  refine vv_iload_n (pc := 80) d_M_settle_80 rfl ?_
  refine vv_dup2 (pc := 81) d_M_settle_81 rfl rfl ?_
  obtain ⟨b6, w⟩ := w
  refine ww_ld (pc := 82) 66 d_M_settle_82 (by omega) (by decide) b6 ?_
  refine vv_iconst (pc := 83) (v := 1) d_M_settle_83 rfl ?_
  refine vv_iadd (pc := 84) d_M_settle_84 ?_
  obtain ⟨b7, w⟩ := w
  refine ww_st (pc := 85) 66 d_M_settle_85 (by omega) (by decide) b7 ?_
  obtain ⟨rfl, rfl⟩ := w
  exact vv_vret (pc := 86) d_M_settle_86 rfl
def wp_M_condition_0 (o : Option Value) (S' : cp_S) (S : cp_S) (x1 : Int32) (x2 : Int32) : Prop := vp_in x1 (cp_ml 46) ∧ JJ 5 m_M_condition o S' 28 [(1, .int x1), (2, .int x2), (3, .int ((S.2 46) (Int32.toNatClampNeg x1))), (4, .int (S.1 35)), (5, .int (S.1 40)), (6, .int (S.1 42)), (7, .int 0)] S
theorem b_M_condition_0 {o : Option Value} {S' S : cp_S} {x1 : Int32} {x2 : Int32} (w : wp_M_condition_0 o S' S x1 x2) : JJ 5 m_M_condition o S' 0 [(1, .int x1), (2, .int x2)] S := by
  unfold wp_M_condition_0 at w
  intro G h n z d hn hd
  refine vv_aload_n (pc := 0) d_M_condition_0 rfl ?_
  refine ww_gr (pc := 1) 26 46 d_M_condition_1 fl_M_67 (by omega) rfl (by decide) ?_
  refine vv_iload_n (pc := 4) d_M_condition_4 rfl ?_
  obtain ⟨b1, w⟩ := w
  refine ww_ld (pc := 5) 46 d_M_condition_5 (by omega) (by decide) b1 ?_
  refine vv_istore_n (pc := 6) d_M_condition_6 (Nat.le_of_ble_eq_true rfl) ?_
  refine vv_aload_n (pc := 7) d_M_condition_7 rfl ?_
  refine ww_gi (pc := 8) 35 d_M_condition_8 fl_M_259 (by omega) rfl ?_
  refine vv_istore (pc := 11) d_M_condition_11 (Nat.le_of_ble_eq_true rfl) ?_
  refine vv_aload_n (pc := 13) d_M_condition_13 rfl ?_
  refine ww_gi (pc := 14) 40 d_M_condition_14 fl_M_262 (by omega) rfl ?_
  refine vv_istore (pc := 17) d_M_condition_17 (Nat.le_of_ble_eq_true rfl) ?_
  refine vv_aload_n (pc := 19) d_M_condition_19 rfl ?_
  refine ww_gi (pc := 20) 42 d_M_condition_20 fl_M_265 (by omega) rfl ?_
  refine vv_istore (pc := 23) d_M_condition_23 (Nat.le_of_ble_eq_true rfl) ?_
  refine vv_iconst (pc := 25) (v := 0) d_M_condition_25 rfl ?_
  refine vv_istore (pc := 26) d_M_condition_26 (Nat.le_of_ble_eq_true rfl) ?_
  exact vv_sub [5, 6, 7, 4, 3, 2, 1, 0] rfl (w G h n z d hn hd)
theorem c_M_condition {o : Option Value} {S' S : cp_S} {x1 : Int32} {x2 : Int32} (w : JJ 5 m_M_condition o S' 0 [(1, .int x1), (2, .int x2)] S) : MC 5 m_M_condition [.int x1, .int x2] S o S' := fun G h n z d hn hd => cp_C.of rfl (Nat.le_of_ble_eq_true rfl) (w G h n z d hn hd)
def wp_M_condition_28 (o : Option Value) (S' : cp_S) (S : cp_S) (x1 : Int32) (x2 : Int32) (x3 : Int32) (x4 : Int32) (x5 : Int32) (x6 : Int32) (x7 : Int32) : Prop := vp_in x1 (cp_ml 47) ∧ ((((S.2 47) (Int32.toNatClampNeg x1)) ≤ (x7 : Int32) → vp_in x1 (cp_ml 45) ∧ ∃ r5 T4, MC 4 m_M_runs [.int ((S.2 45) (Int32.toNatClampNeg x1))] S (some (.int r5)) T4 ∧ (((r5 : Int32) = (-1) → JJ 5 m_M_condition o S' 101 [(1, .int x1), (2, .int x2), (3, .int x3), (4, .int x4), (5, .int x5), (6, .int x6), (7, .int r5)] T4) ∧ (¬ (r5 : Int32) = (-1) → ∃ r8 T7, MC 2 m_M_valueOf [.int x3, .int x2] T4 (some (.int r8)) T7 ∧ ∃ r11 T10, MC 3 m_M_makeSame [.int r5, .int r8] T7 (some (.int r11)) T10 ∧ (((r11 : Int32) = 0 → JJ 5 m_M_condition o S' 101 [(1, .int x1), (2, .int x2), (3, .int x3), (4, .int x4), (5, .int x5), (6, .int x6), (7, .int r5)] T10) ∧ (¬ (r11 : Int32) = 0 → ((¬ ((T10.1 42) : Int32) = x6 → (o = some (.int 1) ∧ S' = T10 ∧ narrow .boolean (.int 1) = .int 1)) ∧ (((T10.1 42) : Int32) = x6 → (o = some (.int 1) ∧ S' = ((va_up (va_up T10.1 35 x4) 40 x5), T10.2) ∧ narrow .boolean (.int 1) = .int 1)))))))) ∧ (¬ ((S.2 47) (Int32.toNatClampNeg x1)) ≤ (x7 : Int32) → ∃ r14 T13, MC 2 m_M_valueOf [.int x3, .int x2] S (some (.int r14)) T13 ∧ vp_in x7 (cp_ml 71) ∧ ∃ r18 T17, MC 1 m_M_behind [.int x3] (T13.1, (va_up T13.2 71 (upd (T13.2 71) (Int32.toNatClampNeg x7) r14))) (some (.int r18)) T17 ∧ JJ 5 m_M_condition o S' 28 [(1, .int x1), (2, .int x2), (3, .int r18), (4, .int x4), (5, .int x5), (6, .int x6), (7, .int (x7 + 1))] T17))
theorem b_M_condition_28 {o : Option Value} {S' S : cp_S} {x1 : Int32} {x2 : Int32} {x3 : Int32} {x4 : Int32} {x5 : Int32} {x6 : Int32} {x7 : Int32} (w : wp_M_condition_28 o S' S x1 x2 x3 x4 x5 x6 x7) : JJ 5 m_M_condition o S' 28 [(1, .int x1), (2, .int x2), (3, .int x3), (4, .int x4), (5, .int x5), (6, .int x6), (7, .int x7)] S := by
  unfold wp_M_condition_28 at w
  intro G h n z d hn hd
  refine vv_iload (pc := 28) d_M_condition_28 rfl ?_
  refine vv_aload_n (pc := 30) d_M_condition_30 rfl ?_
  refine ww_gr (pc := 31) 27 47 d_M_condition_31 fl_M_70 (by omega) rfl (by decide) ?_
  refine vv_iload_n (pc := 34) d_M_condition_34 rfl ?_
  obtain ⟨b1, w⟩ := w
  refine ww_ld (pc := 35) 47 d_M_condition_35 (by omega) (by decide) b1 ?_
  refine vv_icmp_ge (pc := 36) (tgt := 64) d_M_condition_36 rfl (fun hc => ?_) (fun hc => ?_)
  · replace w := w.1 hc
    refine vv_aload_n (pc := 64) d_M_condition_64 rfl ?_
    refine vv_aload_n (pc := 65) d_M_condition_65 rfl ?_
    refine ww_gr (pc := 66) 25 45 d_M_condition_66 fl_M_64 (by omega) rfl (by decide) ?_
    refine vv_iload_n (pc := 69) d_M_condition_69 rfl ?_
    obtain ⟨b2, w⟩ := w
    refine ww_ld (pc := 70) 45 d_M_condition_70 (by omega) (by decide) b2 ?_
    obtain ⟨r5, T4, c3, w⟩ := w
    refine vv_callV (pc := 71) (As := [.int ((S.2 45) (Int32.toNatClampNeg x1))]) d_M_condition_71 (c3 G h n z (d - 1) hn (by omega)) k_M_runs ml_M_382.1 ml_M_382.2.1 ml_M_382.2.2.1 ml_M_382.2.2.2.1 ml_M_382.2.2.2.2 (by omega) mm_26 (by omega) (Nat.le_of_ble_eq_true rfl) ?_
    refine vv_istore (pc := 74) d_M_condition_74 (Nat.le_of_ble_eq_true rfl) ?_
    refine vv_iload (pc := 76) d_M_condition_76 rfl ?_
    refine vv_iconst (pc := 78) (v := (-1)) d_M_condition_78 rfl ?_
    refine vv_icmp_eq (pc := 79) (tgt := 101) d_M_condition_79 rfl (fun hc => ?_) (fun hc => ?_)
    · replace w := w.1 hc
      exact vv_sub [1, 2, 3, 4, 5, 6, 7, 0] rfl (w G h n z d hn hd)
    · replace w := w.2 hc
      refine vv_aload_n (pc := 82) d_M_condition_82 rfl ?_
      refine vv_iload (pc := 83) d_M_condition_83 rfl ?_
      refine vv_aload_n (pc := 85) d_M_condition_85 rfl ?_
      refine vv_iload_n (pc := 86) d_M_condition_86 rfl ?_
      refine vv_iload_n (pc := 87) d_M_condition_87 rfl ?_
      obtain ⟨r8, T7, c6, w⟩ := w
      refine vv_callV (pc := 88) (As := [.int x3, .int x2]) d_M_condition_88 (c6 G h n z (d - 1) hn (by omega)) k_M_valueOf ml_M_379.1 ml_M_379.2.1 ml_M_379.2.2.1 ml_M_379.2.2.2.1 ml_M_379.2.2.2.2 (by omega) mm_26 (by omega) (Nat.le_of_ble_eq_true rfl) ?_
      obtain ⟨r11, T10, c9, w⟩ := w
      refine vv_callV (pc := 91) (As := [.int r5, .int r8]) d_M_condition_91 (c9 G h n z (d - 1) hn (by omega)) k_M_makeSame ml_M_385.1 ml_M_385.2.1 ml_M_385.2.2.1 ml_M_385.2.2.2.1 ml_M_385.2.2.2.2 (by omega) mm_26 (by omega) (Nat.le_of_ble_eq_true rfl) ?_
      refine vv_if_eq (pc := 94) (tgt := 101) d_M_condition_94 rfl (fun hc => ?_) (fun hc => ?_)
      · replace w := w.1 hc
        exact vv_sub [1, 2, 3, 4, 5, 6, 7, 0] rfl (w G h n z d hn hd)
      · replace w := w.2 hc
        refine vv_iconst (pc := 97) (v := 1) d_M_condition_97 rfl ?_
        refine vv_goto (pc := 98) (tgt := 102) d_M_condition_98 rfl ?_
        refine vv_istore (pc := 102) d_M_condition_102 (Nat.le_of_ble_eq_true rfl) ?_
        refine vv_aload_n (pc := 104) d_M_condition_104 rfl ?_
        refine ww_gi (pc := 105) 42 d_M_condition_105 fl_M_265 (by omega) rfl ?_
        refine vv_iload (pc := 108) d_M_condition_108 rfl ?_
        refine vv_icmp_ne (pc := 110) (tgt := 125) d_M_condition_110 rfl (fun hc => ?_) (fun hc => ?_)
        · replace w := w.1 hc
          refine vv_iload (pc := 125) d_M_condition_125 rfl ?_
          obtain ⟨rfl, rfl, hx⟩ := w
          exact vv_zret (pc := 127) d_M_condition_127 rfl hx
        · replace w := w.2 hc
          refine vv_aload_n (pc := 113) d_M_condition_113 rfl ?_
          refine vv_iload (pc := 114) d_M_condition_114 rfl ?_
          refine ww_pi (pc := 116) 35 d_M_condition_116 fl_M_259 (by omega) rfl rfl rfl rfl ?_
          refine vv_aload_n (pc := 119) d_M_condition_119 rfl ?_
          refine vv_iload (pc := 120) d_M_condition_120 rfl ?_
          refine ww_pi (pc := 122) 40 d_M_condition_122 fl_M_262 (by omega) rfl rfl rfl rfl ?_
          refine vv_iload (pc := 125) d_M_condition_125 rfl ?_
          obtain ⟨rfl, rfl, hx⟩ := w
          exact vv_zret (pc := 127) d_M_condition_127 rfl hx
  · replace w := w.2 hc
    refine vv_aload_n (pc := 39) d_M_condition_39 rfl ?_
    refine ww_gr (pc := 40) 65 71 d_M_condition_40 fl_M_142 (by omega) rfl (by decide) ?_
    refine vv_iload (pc := 43) d_M_condition_43 rfl ?_
    refine vv_aload_n (pc := 45) d_M_condition_45 rfl ?_
    refine vv_iload_n (pc := 46) d_M_condition_46 rfl ?_
    refine vv_iload_n (pc := 47) d_M_condition_47 rfl ?_
    obtain ⟨r14, T13, c12, w⟩ := w
    refine vv_callV (pc := 48) (As := [.int x3, .int x2]) d_M_condition_48 (c12 G h n z (d - 1) hn (by omega)) k_M_valueOf ml_M_379.1 ml_M_379.2.1 ml_M_379.2.2.1 ml_M_379.2.2.2.1 ml_M_379.2.2.2.2 (by omega) mm_26 (by omega) (Nat.le_of_ble_eq_true rfl) ?_
    obtain ⟨b15, w⟩ := w
    refine ww_st (pc := 51) 71 d_M_condition_51 (by omega) (by decide) b15 ?_
    refine vv_aload_n (pc := 52) d_M_condition_52 rfl ?_
    refine vv_iload_n (pc := 53) d_M_condition_53 rfl ?_
    obtain ⟨r18, T17, c16, w⟩ := w
    refine vv_callV (pc := 54) (As := [.int x3]) d_M_condition_54 (c16 G h n z (d - 1) hn (by omega)) k_M_behind ml_M_268.1 ml_M_268.2.1 ml_M_268.2.2.1 ml_M_268.2.2.2.1 ml_M_268.2.2.2.2 (by omega) mm_26 (by omega) (Nat.le_of_ble_eq_true rfl) ?_
    refine vv_istore_n (pc := 57) d_M_condition_57 (Nat.le_of_ble_eq_true rfl) ?_
    refine vv_iinc (pc := 58) (v := (x7 + 1)) d_M_condition_58 rfl rfl (Nat.le_of_ble_eq_true rfl) ?_
    refine vv_goto (pc := 61) (tgt := 28) d_M_condition_61 rfl ?_
    exact vv_sub [2, 3, 4, 1, 5, 6, 7, 0] rfl (w G h n z d hn hd)
def wp_M_condition_101 (o : Option Value) (S' : cp_S) (S : cp_S) (x1 : Int32) (x2 : Int32) (x3 : Int32) (x4 : Int32) (x5 : Int32) (x6 : Int32) (x7 : Int32) : Prop := ((¬ ((S.1 42) : Int32) = x6 → (o = some (.int 0) ∧ S' = S ∧ narrow .boolean (.int 0) = .int 0)) ∧ (((S.1 42) : Int32) = x6 → (o = some (.int 0) ∧ S' = ((va_up (va_up S.1 35 x4) 40 x5), S.2) ∧ narrow .boolean (.int 0) = .int 0)))
theorem b_M_condition_101 {o : Option Value} {S' S : cp_S} {x1 : Int32} {x2 : Int32} {x3 : Int32} {x4 : Int32} {x5 : Int32} {x6 : Int32} {x7 : Int32} (w : wp_M_condition_101 o S' S x1 x2 x3 x4 x5 x6 x7) : JJ 5 m_M_condition o S' 101 [(1, .int x1), (2, .int x2), (3, .int x3), (4, .int x4), (5, .int x5), (6, .int x6), (7, .int x7)] S := by
  unfold wp_M_condition_101 at w
  intro G h n z d hn hd
  refine vv_iconst (pc := 101) (v := 0) d_M_condition_101 rfl ?_
  refine vv_istore (pc := 102) d_M_condition_102 (Nat.le_of_ble_eq_true rfl) ?_
  refine vv_aload_n (pc := 104) d_M_condition_104 rfl ?_
  refine ww_gi (pc := 105) 42 d_M_condition_105 fl_M_265 (by omega) rfl ?_
  refine vv_iload (pc := 108) d_M_condition_108 rfl ?_
  refine vv_icmp_ne (pc := 110) (tgt := 125) d_M_condition_110 rfl (fun hc => ?_) (fun hc => ?_)
  · replace w := w.1 hc
    refine vv_iload (pc := 125) d_M_condition_125 rfl ?_
    obtain ⟨rfl, rfl, hx⟩ := w
    exact vv_zret (pc := 127) d_M_condition_127 rfl hx
  · replace w := w.2 hc
    refine vv_aload_n (pc := 113) d_M_condition_113 rfl ?_
    refine vv_iload (pc := 114) d_M_condition_114 rfl ?_
    refine ww_pi (pc := 116) 35 d_M_condition_116 fl_M_259 (by omega) rfl rfl rfl rfl ?_
    refine vv_aload_n (pc := 119) d_M_condition_119 rfl ?_
    refine vv_iload (pc := 120) d_M_condition_120 rfl ?_
    refine ww_pi (pc := 122) 40 d_M_condition_122 fl_M_262 (by omega) rfl rfl rfl rfl ?_
    refine vv_iload (pc := 125) d_M_condition_125 rfl ?_
    obtain ⟨rfl, rfl, hx⟩ := w
    exact vv_zret (pc := 127) d_M_condition_127 rfl hx
def wp_M_goOn_0 (o : Option Value) (S' : cp_S) (S : cp_S) (x1 : Int32) : Prop := vp_in x1 (cp_ml 65) ∧ vp_in ((S.2 65) (Int32.toNatClampNeg x1)) (cp_ml 40) ∧ JJ 6 m_M_goOn o S' 12 [(1, .int x1), (2, .int ((S.2 40) (Int32.toNatClampNeg ((S.2 65) (Int32.toNatClampNeg x1)))))] S
theorem b_M_goOn_0 {o : Option Value} {S' S : cp_S} {x1 : Int32} (w : wp_M_goOn_0 o S' S x1) : JJ 6 m_M_goOn o S' 0 [(1, .int x1)] S := by
  unfold wp_M_goOn_0 at w
  intro G h n z d hn hd
  refine vv_aload_n (pc := 0) d_M_goOn_0 rfl ?_
  refine ww_gr (pc := 1) 18 40 d_M_goOn_1 fl_M_49 (by omega) rfl (by decide) ?_
  refine vv_aload_n (pc := 4) d_M_goOn_4 rfl ?_
  refine ww_gr (pc := 5) 52 65 d_M_goOn_5 fl_M_124 (by omega) rfl (by decide) ?_
  refine vv_iload_n (pc := 8) d_M_goOn_8 rfl ?_
  obtain ⟨b1, w⟩ := w
  refine ww_ld (pc := 9) 65 d_M_goOn_9 (by omega) (by decide) b1 ?_
  obtain ⟨b2, w⟩ := w
  refine ww_ld (pc := 10) 40 d_M_goOn_10 (by omega) (by decide) b2 ?_
  refine vv_istore_n (pc := 11) d_M_goOn_11 (Nat.le_of_ble_eq_true rfl) ?_
  exact vv_sub [1, 2, 0] rfl (w G h n z d hn hd)
theorem c_M_goOn {o : Option Value} {S' S : cp_S} {x1 : Int32} (w : JJ 6 m_M_goOn o S' 0 [(1, .int x1)] S) : MC 6 m_M_goOn [.int x1] S o S' := fun G h n z d hn hd => cp_C.of rfl (Nat.le_of_ble_eq_true rfl) (w G h n z d hn hd)
def wp_M_goOn_12 (o : Option Value) (S' : cp_S) (S : cp_S) (x1 : Int32) (x2 : Int32) : Prop := vp_in x1 (cp_ml 66) ∧ vp_in x2 (cp_ml 34) ∧ ((((S.2 34) (Int32.toNatClampNeg x2)) ≤ (((S.2 66) (Int32.toNatClampNeg x1)) : Int32) → (o = some (.int (-1)) ∧ S' = S)) ∧ (¬ ((S.2 34) (Int32.toNatClampNeg x2)) ≤ (((S.2 66) (Int32.toNatClampNeg x1)) : Int32) → vp_in x2 (cp_ml 33) ∧ vp_in x1 (cp_ml 66) ∧ vp_in x1 (cp_ml 67) ∧ vp_in (((S.2 33) (Int32.toNatClampNeg x2)) + ((S.2 66) (Int32.toNatClampNeg x1))) (cp_ml 44) ∧ ((¬ (((S.2 44) (Int32.toNatClampNeg (((S.2 33) (Int32.toNatClampNeg x2)) + ((S.2 66) (Int32.toNatClampNeg x1))))) : Int32) = 2 → vp_in ((S.2 67) (Int32.toNatClampNeg x1)) (cp_ml 39) ∧ ((¬ (((S.2 39) (Int32.toNatClampNeg ((S.2 67) (Int32.toNatClampNeg x1)))) : Int32) = 4 → (o = some (.int ((S.2 67) (Int32.toNatClampNeg x1))) ∧ S' = S)) ∧ ((((S.2 39) (Int32.toNatClampNeg ((S.2 67) (Int32.toNatClampNeg x1)))) : Int32) = 4 → ∃ r10 T9, MC 0 m_M_value [.int 2, .int (-1)] S (some (.int r10)) T9 ∧ vp_in (((S.2 67) (Int32.toNatClampNeg x1)) - (S.1 20)) (cp_ml 43) ∧ ∃ T13, MC 3 m_M_settle [.int x1] ((va_up T9.1 42 ((T9.1 42) + 1)), (va_up T9.2 43 (upd (T9.2 43) (Int32.toNatClampNeg (((S.2 67) (Int32.toNatClampNeg x1)) - (S.1 20))) r10))) none T13 ∧ JJ 6 m_M_goOn o S' 154 [(1, .int x1), (2, .int x2), (3, .int (((S.2 33) (Int32.toNatClampNeg x2)) + ((S.2 66) (Int32.toNatClampNeg x1)))), (4, .int ((S.2 67) (Int32.toNatClampNeg x1)))] T13))) ∧ ((((S.2 44) (Int32.toNatClampNeg (((S.2 33) (Int32.toNatClampNeg x2)) + ((S.2 66) (Int32.toNatClampNeg x1))))) : Int32) = 2 → ∃ r16 T15, MC 5 m_M_condition [.int (((S.2 33) (Int32.toNatClampNeg x2)) + ((S.2 66) (Int32.toNatClampNeg x1))), .int x1] S (some (.int r16)) T15 ∧ ((¬ (r16 : Int32) = 0 → vp_in x1 (cp_ml 66) ∧ vp_in x1 (cp_ml 66) ∧ JJ 6 m_M_goOn o S' 154 [(1, .int x1), (2, .int x2), (3, .int (((S.2 33) (Int32.toNatClampNeg x2)) + ((S.2 66) (Int32.toNatClampNeg x1)))), (4, .int ((S.2 67) (Int32.toNatClampNeg x1)))] (T15.1, (va_up T15.2 66 (upd (T15.2 66) (Int32.toNatClampNeg x1) (((T15.2 66) (Int32.toNatClampNeg x1)) + 1))))) ∧ ((r16 : Int32) = 0 → vp_in x1 (cp_ml 65) ∧ vp_in (((T15.2 65) (Int32.toNatClampNeg x1)) - (T15.1 20)) (cp_ml 42) ∧ (o = some (.int (-2)) ∧ S' = ((va_up T15.1 59 ((T15.2 42) (Int32.toNatClampNeg (((T15.2 65) (Int32.toNatClampNeg x1)) - (T15.1 20))))), T15.2))))))))
theorem b_M_goOn_12 {o : Option Value} {S' S : cp_S} {x1 : Int32} {x2 : Int32} (w : wp_M_goOn_12 o S' S x1 x2) : JJ 6 m_M_goOn o S' 12 [(1, .int x1), (2, .int x2)] S := by
  unfold wp_M_goOn_12 at w
  intro G h n z d hn hd
  refine vv_aload_n (pc := 12) d_M_goOn_12 rfl ?_
  refine ww_gr (pc := 13) 53 66 d_M_goOn_13 fl_M_127 (by omega) rfl (by decide) ?_
  refine vv_iload_n (pc := 16) d_M_goOn_16 rfl ?_
  obtain ⟨b1, w⟩ := w
  refine ww_ld (pc := 17) 66 d_M_goOn_17 (by omega) (by decide) b1 ?_
  refine vv_aload_n (pc := 18) d_M_goOn_18 rfl ?_
  refine ww_gr (pc := 19) 10 34 d_M_goOn_19 fl_M_31 (by omega) rfl (by decide) ?_
  refine vv_iload_n (pc := 22) d_M_goOn_22 rfl ?_
  obtain ⟨b2, w⟩ := w
  refine ww_ld (pc := 23) 34 d_M_goOn_23 (by omega) (by decide) b2 ?_
  refine vv_icmp_ge (pc := 24) (tgt := 157) d_M_goOn_24 rfl (fun hc => ?_) (fun hc => ?_)
  · replace w := w.1 hc
    refine vv_iconst (pc := 157) (v := (-1)) d_M_goOn_157 rfl ?_
    obtain ⟨rfl, rfl⟩ := w
    exact vv_iret (pc := 158) d_M_goOn_158 rfl
  · replace w := w.2 hc
    refine vv_aload_n (pc := 27) d_M_goOn_27 rfl ?_
    refine ww_gr (pc := 28) 9 33 d_M_goOn_28 fl_M_28 (by omega) rfl (by decide) ?_
    refine vv_iload_n (pc := 31) d_M_goOn_31 rfl ?_
    obtain ⟨b3, w⟩ := w
    refine ww_ld (pc := 32) 33 d_M_goOn_32 (by omega) (by decide) b3 ?_
    refine vv_aload_n (pc := 33) d_M_goOn_33 rfl ?_
    refine ww_gr (pc := 34) 53 66 d_M_goOn_34 fl_M_127 (by omega) rfl (by decide) ?_
    refine vv_iload_n (pc := 37) d_M_goOn_37 rfl ?_
    obtain ⟨b4, w⟩ := w
    refine ww_ld (pc := 38) 66 d_M_goOn_38 (by omega) (by decide) b4 ?_
    refine vv_iadd (pc := 39) d_M_goOn_39 ?_
    refine vv_istore_n (pc := 40) d_M_goOn_40 (Nat.le_of_ble_eq_true rfl) ?_
    refine vv_aload_n (pc := 41) d_M_goOn_41 rfl ?_
    refine ww_gr (pc := 42) 54 67 d_M_goOn_42 fl_M_130 (by omega) rfl (by decide) ?_
    refine vv_iload_n (pc := 45) d_M_goOn_45 rfl ?_
    obtain ⟨b5, w⟩ := w
    refine ww_ld (pc := 46) 67 d_M_goOn_46 (by omega) (by decide) b5 ?_
    refine vv_istore (pc := 47) d_M_goOn_47 (Nat.le_of_ble_eq_true rfl) ?_
    refine vv_aload_n (pc := 49) d_M_goOn_49 rfl ?_
    refine ww_gr (pc := 50) 24 44 d_M_goOn_50 fl_M_61 (by omega) rfl (by decide) ?_
    refine vv_iload_n (pc := 53) d_M_goOn_53 rfl ?_
    obtain ⟨b6, w⟩ := w
    refine ww_ld (pc := 54) 44 d_M_goOn_54 (by omega) (by decide) b6 ?_
    refine vv_iconst (pc := 55) (v := 2) d_M_goOn_55 rfl ?_
    refine vv_icmp_ne (pc := 56) (tgt := 104) d_M_goOn_56 rfl (fun hc => ?_) (fun hc => ?_)
    · replace w := w.1 hc
      refine vv_aload_n (pc := 104) d_M_goOn_104 rfl ?_
      refine ww_gr (pc := 105) 17 39 d_M_goOn_105 fl_M_46 (by omega) rfl (by decide) ?_
      refine vv_iload (pc := 108) d_M_goOn_108 rfl ?_
      obtain ⟨b7, w⟩ := w
      refine ww_ld (pc := 110) 39 d_M_goOn_110 (by omega) (by decide) b7 ?_
      refine vv_iconst (pc := 111) (v := 4) d_M_goOn_111 rfl ?_
      refine vv_icmp_ne (pc := 112) (tgt := 151) d_M_goOn_112 rfl (fun hc => ?_) (fun hc => ?_)
      · replace w := w.1 hc
        refine vv_iload (pc := 151) d_M_goOn_151 rfl ?_
        obtain ⟨rfl, rfl⟩ := w
        exact vv_iret (pc := 153) d_M_goOn_153 rfl
      · replace w := w.2 hc
        refine vv_aload_n (pc := 115) d_M_goOn_115 rfl ?_
        refine ww_gr (pc := 116) 22 43 d_M_goOn_116 fl_M_58 (by omega) rfl (by decide) ?_
        refine vv_iload (pc := 119) d_M_goOn_119 rfl ?_
        refine vv_aload_n (pc := 121) d_M_goOn_121 rfl ?_
        refine ww_gi (pc := 122) 20 d_M_goOn_122 fl_M_197 (by omega) rfl ?_
        refine vv_isub (pc := 125) d_M_goOn_125 ?_
        refine vv_aload_n (pc := 126) d_M_goOn_126 rfl ?_
        refine vv_iconst (pc := 127) (v := 2) d_M_goOn_127 rfl ?_
        refine vv_iconst (pc := 128) (v := (-1)) d_M_goOn_128 rfl ?_
        obtain ⟨r10, T9, c8, w⟩ := w
        refine vv_callV (pc := 129) (As := [.int 2, .int (-1)]) d_M_goOn_129 (c8 G h n z (d - 1) hn (by omega)) k_M_value ml_M_271.1 ml_M_271.2.1 ml_M_271.2.2.1 ml_M_271.2.2.2.1 ml_M_271.2.2.2.2 (by omega) mm_26 (by omega) (Nat.le_of_ble_eq_true rfl) ?_
        obtain ⟨b11, w⟩ := w
        refine ww_st (pc := 132) 43 d_M_goOn_132 (by omega) (by decide) b11 ?_
        refine vv_aload_n (pc := 133) d_M_goOn_133 rfl ?_
        refine vv_dup (pc := 134) d_M_goOn_134 rfl ?_
        refine ww_gi (pc := 135) 42 d_M_goOn_135 fl_M_265 (by omega) rfl ?_
        refine vv_iconst (pc := 138) (v := 1) d_M_goOn_138 rfl ?_
        refine vv_iadd (pc := 139) d_M_goOn_139 ?_
        refine ww_pi (pc := 140) 42 d_M_goOn_140 fl_M_265 (by omega) rfl rfl rfl rfl ?_
        refine vv_aload_n (pc := 143) d_M_goOn_143 rfl ?_
        refine vv_iload_n (pc := 144) d_M_goOn_144 rfl ?_
        obtain ⟨T13, c12, w⟩ := w
        refine vv_callV (pc := 145) (As := [.int x1]) d_M_goOn_145 (c12 G h n z (d - 1) hn (by omega)) k_M_settle ml_M_391.1 ml_M_391.2.1 ml_M_391.2.2.1 ml_M_391.2.2.2.1 ml_M_391.2.2.2.2 (by omega) mm_26 (by omega) (Nat.le_of_ble_eq_true rfl) ?_
        refine vv_goto (pc := 148) (tgt := 154) d_M_goOn_148 rfl ?_
        exact vv_sub [2, 3, 4, 1, 0] rfl (w G h n z d hn hd)
    · replace w := w.2 hc
      refine vv_aload_n (pc := 59) d_M_goOn_59 rfl ?_
      refine vv_iload_n (pc := 60) d_M_goOn_60 rfl ?_
      refine vv_iload_n (pc := 61) d_M_goOn_61 rfl ?_
      obtain ⟨r16, T15, c14, w⟩ := w
      refine vv_callV (pc := 62) (As := [.int (((S.2 33) (Int32.toNatClampNeg x2)) + ((S.2 66) (Int32.toNatClampNeg x1))), .int x1]) d_M_goOn_62 (c14 G h n z (d - 1) hn (by omega)) k_M_condition ml_M_388.1 ml_M_388.2.1 ml_M_388.2.2.1 ml_M_388.2.2.2.1 ml_M_388.2.2.2.2 (by omega) mm_26 (by omega) (Nat.le_of_ble_eq_true rfl) ?_
      refine vv_if_ne (pc := 65) (tgt := 91) d_M_goOn_65 rfl (fun hc => ?_) (fun hc => ?_)
      · replace w := w.1 hc
        refine vv_aload_n (pc := 91) d_M_goOn_91 rfl ?_
        refine ww_gr (pc := 92) 53 66 d_M_goOn_92 fl_M_127 (by omega) rfl (by decide) ?_
        refine vv_iload_n (pc := 95) d_M_goOn_95 rfl ?_
        refine vv_dup2 (pc := 96) d_M_goOn_96 rfl rfl ?_
        obtain ⟨b17, w⟩ := w
        refine ww_ld (pc := 97) 66 d_M_goOn_97 (by omega) (by decide) b17 ?_
        refine vv_iconst (pc := 98) (v := 1) d_M_goOn_98 rfl ?_
        refine vv_iadd (pc := 99) d_M_goOn_99 ?_
        obtain ⟨b18, w⟩ := w
        refine ww_st (pc := 100) 66 d_M_goOn_100 (by omega) (by decide) b18 ?_
        refine vv_goto (pc := 101) (tgt := 154) d_M_goOn_101 rfl ?_
        exact vv_sub [2, 3, 4, 1, 0] rfl (w G h n z d hn hd)
      · replace w := w.2 hc
        refine vv_aload_n (pc := 68) d_M_goOn_68 rfl ?_
        refine vv_aload_n (pc := 69) d_M_goOn_69 rfl ?_
        refine ww_gr (pc := 70) 21 42 d_M_goOn_70 fl_M_55 (by omega) rfl (by decide) ?_
        refine vv_aload_n (pc := 73) d_M_goOn_73 rfl ?_
        refine ww_gr (pc := 74) 52 65 d_M_goOn_74 fl_M_124 (by omega) rfl (by decide) ?_
        refine vv_iload_n (pc := 77) d_M_goOn_77 rfl ?_
        obtain ⟨b19, w⟩ := w
        refine ww_ld (pc := 78) 65 d_M_goOn_78 (by omega) (by decide) b19 ?_
        refine vv_aload_n (pc := 79) d_M_goOn_79 rfl ?_
        refine ww_gi (pc := 80) 20 d_M_goOn_80 fl_M_197 (by omega) rfl ?_
        refine vv_isub (pc := 83) d_M_goOn_83 ?_
        obtain ⟨b20, w⟩ := w
        refine ww_ld (pc := 84) 42 d_M_goOn_84 (by omega) (by decide) b20 ?_
        refine ww_pi (pc := 85) 59 d_M_goOn_85 fl_M_367 (by omega) rfl rfl rfl rfl ?_
        refine vv_bipush (pc := 88) (v := (-2)) d_M_goOn_88 rfl ?_
        obtain ⟨rfl, rfl⟩ := w
        exact vv_iret (pc := 90) d_M_goOn_90 rfl
def wp_M_goOn_154 (o : Option Value) (S' : cp_S) (S : cp_S) (x1 : Int32) (x2 : Int32) (x3 : Int32) (x4 : Int32) : Prop := JJ 6 m_M_goOn o S' 12 [(1, .int x1), (2, .int x2)] S
theorem b_M_goOn_154 {o : Option Value} {S' S : cp_S} {x1 : Int32} {x2 : Int32} {x3 : Int32} {x4 : Int32} (w : wp_M_goOn_154 o S' S x1 x2 x3 x4) : JJ 6 m_M_goOn o S' 154 [(1, .int x1), (2, .int x2), (3, .int x3), (4, .int x4)] S := by
  unfold wp_M_goOn_154 at w
  intro G h n z d hn hd
  refine vv_goto (pc := 154) (tgt := 12) d_M_goOn_154 rfl ?_
  exact vv_sub [0, 1, 2] rfl (w G h n z d hn hd)
def wp_M_typeOf_0 (o : Option Value) (S' : cp_S) (S : cp_S) (x1 : Int32) : Prop := vp_in x1 (cp_ml 39) ∧ (((((S.2 39) (Int32.toNatClampNeg x1)) : Int32) = 5 → ∃ r4 T3, MC 1 m_M_begin [.int x1, .int 1] S (some (.int r4)) T3 ∧ ((¬ (r4 : Int32) = 0 → JJ 7 m_M_typeOf o S' 31 [(1, .int x1), (2, .int 1), (3, .int (-1))] T3) ∧ ((r4 : Int32) = 0 → (o = some (.int (-1)) ∧ S' = T3)))) ∧ (¬ (((S.2 39) (Int32.toNatClampNeg x1)) : Int32) = 5 → ∃ r7 T6, MC 1 m_M_simple [.int x1] S (some (.int r7)) T6 ∧ (o = some (.int r7) ∧ S' = T6)))
theorem b_M_typeOf_0 {o : Option Value} {S' S : cp_S} {x1 : Int32} (w : wp_M_typeOf_0 o S' S x1) : JJ 7 m_M_typeOf o S' 0 [(1, .int x1)] S := by
  unfold wp_M_typeOf_0 at w
  intro G h n z d hn hd
  refine vv_aload_n (pc := 0) d_M_typeOf_0 rfl ?_
  refine ww_gr (pc := 1) 17 39 d_M_typeOf_1 fl_M_46 (by omega) rfl (by decide) ?_
  refine vv_iload_n (pc := 4) d_M_typeOf_4 rfl ?_
  obtain ⟨b1, w⟩ := w
  refine ww_ld (pc := 5) 39 d_M_typeOf_5 (by omega) (by decide) b1 ?_
  refine vv_iconst (pc := 6) (v := 5) d_M_typeOf_6 rfl ?_
  refine vv_icmp_eq (pc := 7) (tgt := 16) d_M_typeOf_7 rfl (fun hc => ?_) (fun hc => ?_)
  · replace w := w.1 hc
    refine vv_iconst (pc := 16) (v := 1) d_M_typeOf_16 rfl ?_
    refine vv_istore_n (pc := 17) d_M_typeOf_17 (Nat.le_of_ble_eq_true rfl) ?_
    refine vv_iconst (pc := 18) (v := (-1)) d_M_typeOf_18 rfl ?_
    refine vv_istore_n (pc := 19) d_M_typeOf_19 (Nat.le_of_ble_eq_true rfl) ?_
    refine vv_aload_n (pc := 20) d_M_typeOf_20 rfl ?_
    refine vv_iload_n (pc := 21) d_M_typeOf_21 rfl ?_
    refine vv_iconst (pc := 22) (v := 1) d_M_typeOf_22 rfl ?_
    obtain ⟨r4, T3, c2, w⟩ := w
    refine vv_callV (pc := 23) (As := [.int x1, .int 1]) d_M_typeOf_23 (c2 G h n z (d - 1) hn (by omega)) k_M_begin ml_M_397.1 ml_M_397.2.1 ml_M_397.2.2.1 ml_M_397.2.2.2.1 ml_M_397.2.2.2.2 (by omega) mm_26 (by omega) (Nat.le_of_ble_eq_true rfl) ?_
    refine vv_if_ne (pc := 26) (tgt := 31) d_M_typeOf_26 rfl (fun hc => ?_) (fun hc => ?_)
    · replace w := w.1 hc
      exact vv_sub [2, 3, 1, 0] rfl (w G h n z d hn hd)
    · replace w := w.2 hc
      refine vv_iconst (pc := 29) (v := (-1)) d_M_typeOf_29 rfl ?_
      obtain ⟨rfl, rfl⟩ := w
      exact vv_iret (pc := 30) d_M_typeOf_30 rfl
  · replace w := w.2 hc
    refine vv_aload_n (pc := 10) d_M_typeOf_10 rfl ?_
    refine vv_iload_n (pc := 11) d_M_typeOf_11 rfl ?_
    obtain ⟨r7, T6, c5, w⟩ := w
    refine vv_callV (pc := 12) (As := [.int x1]) d_M_typeOf_12 (c5 G h n z (d - 1) hn (by omega)) k_M_simple ml_M_394.1 ml_M_394.2.1 ml_M_394.2.2.1 ml_M_394.2.2.2.1 ml_M_394.2.2.2.2 (by omega) mm_26 (by omega) (Nat.le_of_ble_eq_true rfl) ?_
    obtain ⟨rfl, rfl⟩ := w
    exact vv_iret (pc := 15) d_M_typeOf_15 rfl
theorem c_M_typeOf {o : Option Value} {S' S : cp_S} {x1 : Int32} (w : JJ 7 m_M_typeOf o S' 0 [(1, .int x1)] S) : MC 7 m_M_typeOf [.int x1] S o S' := fun G h n z d hn hd => cp_C.of rfl (Nat.le_of_ble_eq_true rfl) (w G h n z d hn hd)
def wp_M_typeOf_31 (o : Option Value) (S' : cp_S) (S : cp_S) (x1 : Int32) (x2 : Int32) (x3 : Int32) : Prop := (((x2 : Int32) ≤ 0 → (o = some (.int x3) ∧ S' = S)) ∧ (¬ (x2 : Int32) ≤ 0 → ∃ r3 T2, MC 6 m_M_goOn [.int x2] S (some (.int r3)) T2 ∧ ((¬ (r3 : Int32) = (-2) → (((r3 : Int32) < 0 → JJ 7 m_M_typeOf o S' 82 [(1, .int x1), (2, .int x2), (3, .int x3), (4, .int r3)] T2) ∧ (¬ (r3 : Int32) < 0 → vp_in r3 (cp_ml 39) ∧ ((¬ (((T2.2 39) (Int32.toNatClampNeg r3)) : Int32) = 5 → JJ 7 m_M_typeOf o S' 82 [(1, .int x1), (2, .int x2), (3, .int x3), (4, .int r3)] T2) ∧ ((((T2.2 39) (Int32.toNatClampNeg r3)) : Int32) = 5 → ∃ r7 T6, MC 1 m_M_begin [.int r3, .int (x2 + 1)] T2 (some (.int r7)) T6 ∧ ((¬ (r7 : Int32) = 0 → JJ 7 m_M_typeOf o S' 170 [(1, .int x1), (2, .int (x2 + 1)), (3, .int x3), (4, .int r3)] T6) ∧ ((r7 : Int32) = 0 → (o = some (.int (-1)) ∧ S' = T6)))))))) ∧ ((r3 : Int32) = (-2) → (o = some (.int (-1)) ∧ S' = T2)))))
theorem b_M_typeOf_31 {o : Option Value} {S' S : cp_S} {x1 : Int32} {x2 : Int32} {x3 : Int32} (w : wp_M_typeOf_31 o S' S x1 x2 x3) : JJ 7 m_M_typeOf o S' 31 [(1, .int x1), (2, .int x2), (3, .int x3)] S := by
  unfold wp_M_typeOf_31 at w
  intro G h n z d hn hd
  refine vv_iload_n (pc := 31) d_M_typeOf_31 rfl ?_
  refine vv_if_le (pc := 32) (tgt := 173) d_M_typeOf_32 rfl (fun hc => ?_) (fun hc => ?_)
  · replace w := w.1 hc
    refine vv_iload_n (pc := 173) d_M_typeOf_173 rfl ?_
    obtain ⟨rfl, rfl⟩ := w
    exact vv_iret (pc := 174) d_M_typeOf_174 rfl
  · replace w := w.2 hc
    refine vv_aload_n (pc := 35) d_M_typeOf_35 rfl ?_
    refine vv_iload_n (pc := 36) d_M_typeOf_36 rfl ?_
    obtain ⟨r3, T2, c1, w⟩ := w
    refine vv_callV (pc := 37) (As := [.int x2]) d_M_typeOf_37 (c1 G h n z (d - 1) hn (by omega)) k_M_goOn ml_M_400.1 ml_M_400.2.1 ml_M_400.2.2.1 ml_M_400.2.2.2.1 ml_M_400.2.2.2.2 (by omega) mm_26 (by omega) (Nat.le_of_ble_eq_true rfl) ?_
    refine vv_istore (pc := 40) d_M_typeOf_40 (Nat.le_of_ble_eq_true rfl) ?_
    refine vv_iload (pc := 42) d_M_typeOf_42 rfl ?_
    refine vv_bipush (pc := 44) (v := (-2)) d_M_typeOf_44 rfl ?_
    refine vv_icmp_ne (pc := 46) (tgt := 51) d_M_typeOf_46 rfl (fun hc => ?_) (fun hc => ?_)
    · replace w := w.1 hc
      refine vv_iload (pc := 51) d_M_typeOf_51 rfl ?_
      refine vv_if_lt (pc := 53) (tgt := 82) d_M_typeOf_53 rfl (fun hc => ?_) (fun hc => ?_)
      · replace w := w.1 hc
        exact vv_sub [1, 2, 3, 4, 0] rfl (w G h n z d hn hd)
      · replace w := w.2 hc
        refine vv_aload_n (pc := 56) d_M_typeOf_56 rfl ?_
        refine ww_gr (pc := 57) 17 39 d_M_typeOf_57 fl_M_46 (by omega) rfl (by decide) ?_
        refine vv_iload (pc := 60) d_M_typeOf_60 rfl ?_
        obtain ⟨b4, w⟩ := w
        refine ww_ld (pc := 62) 39 d_M_typeOf_62 (by omega) (by decide) b4 ?_
        refine vv_iconst (pc := 63) (v := 5) d_M_typeOf_63 rfl ?_
        refine vv_icmp_ne (pc := 64) (tgt := 82) d_M_typeOf_64 rfl (fun hc => ?_) (fun hc => ?_)
        · replace w := w.1 hc
          exact vv_sub [1, 2, 3, 4, 0] rfl (w G h n z d hn hd)
        · replace w := w.2 hc
          refine vv_iinc (pc := 67) (v := (x2 + 1)) d_M_typeOf_67 rfl rfl (Nat.le_of_ble_eq_true rfl) ?_
          refine vv_aload_n (pc := 70) d_M_typeOf_70 rfl ?_
          refine vv_iload (pc := 71) d_M_typeOf_71 rfl ?_
          refine vv_iload_n (pc := 73) d_M_typeOf_73 rfl ?_
          obtain ⟨r7, T6, c5, w⟩ := w
          refine vv_callV (pc := 74) (As := [.int r3, .int (x2 + 1)]) d_M_typeOf_74 (c5 G h n z (d - 1) hn (by omega)) k_M_begin ml_M_397.1 ml_M_397.2.1 ml_M_397.2.2.1 ml_M_397.2.2.2.1 ml_M_397.2.2.2.2 (by omega) mm_26 (by omega) (Nat.le_of_ble_eq_true rfl) ?_
          refine vv_if_ne (pc := 77) (tgt := 170) d_M_typeOf_77 rfl (fun hc => ?_) (fun hc => ?_)
          · replace w := w.1 hc
            exact vv_sub [2, 3, 0, 4, 1] rfl (w G h n z d hn hd)
          · replace w := w.2 hc
            refine vv_iconst (pc := 80) (v := (-1)) d_M_typeOf_80 rfl ?_
            obtain ⟨rfl, rfl⟩ := w
            exact vv_iret (pc := 81) d_M_typeOf_81 rfl
    · replace w := w.2 hc
      refine vv_iconst (pc := 49) (v := (-1)) d_M_typeOf_49 rfl ?_
      obtain ⟨rfl, rfl⟩ := w
      exact vv_iret (pc := 50) d_M_typeOf_50 rfl
def wp_M_typeOf_82 (o : Option Value) (S' : cp_S) (S : cp_S) (x1 : Int32) (x2 : Int32) (x3 : Int32) (x4 : Int32) : Prop := (((x4 : Int32) < 0 → vp_in x2 (cp_ml 65) ∧ vp_in ((S.2 65) (Int32.toNatClampNeg x2)) (cp_ml 40) ∧ vp_in ((S.2 40) (Int32.toNatClampNeg ((S.2 65) (Int32.toNatClampNeg x2)))) (cp_ml 35) ∧ ((¬ (((S.2 35) (Int32.toNatClampNeg ((S.2 40) (Int32.toNatClampNeg ((S.2 65) (Int32.toNatClampNeg x2)))))) : Int32) = (-2) → ∃ r6 T5, MC 2 m_M_valueOf [.int ((S.2 35) (Int32.toNatClampNeg ((S.2 40) (Int32.toNatClampNeg ((S.2 65) (Int32.toNatClampNeg x2)))))), .int x2] S (some (.int r6)) T5 ∧ JJ 7 m_M_typeOf o S' 138 [(1, .int x1), (2, .int (x2 + (-1))), (3, .int r6), (4, .int x4)] T5) ∧ ((((S.2 35) (Int32.toNatClampNeg ((S.2 40) (Int32.toNatClampNeg ((S.2 65) (Int32.toNatClampNeg x2)))))) : Int32) = (-2) → JJ 7 m_M_typeOf o S' 138 [(1, .int x1), (2, .int (x2 + (-1))), (3, .int (-2)), (4, .int x4)] S))) ∧ (¬ (x4 : Int32) < 0 → ∃ r9 T8, MC 1 m_M_simple [.int x4] S (some (.int r9)) T8 ∧ JJ 7 m_M_typeOf o S' 138 [(1, .int x1), (2, .int x2), (3, .int r9), (4, .int x4)] T8))
theorem b_M_typeOf_82 {o : Option Value} {S' S : cp_S} {x1 : Int32} {x2 : Int32} {x3 : Int32} {x4 : Int32} (w : wp_M_typeOf_82 o S' S x1 x2 x3 x4) : JJ 7 m_M_typeOf o S' 82 [(1, .int x1), (2, .int x2), (3, .int x3), (4, .int x4)] S := by
  unfold wp_M_typeOf_82 at w
  intro G h n z d hn hd
  refine vv_iload (pc := 82) d_M_typeOf_82 rfl ?_
  refine vv_if_lt (pc := 84) (tgt := 97) d_M_typeOf_84 rfl (fun hc => ?_) (fun hc => ?_)
  · replace w := w.1 hc
    refine vv_aload_n (pc := 97) d_M_typeOf_97 rfl ?_
    refine ww_gr (pc := 98) 11 35 d_M_typeOf_98 fl_M_34 (by omega) rfl (by decide) ?_
    refine vv_aload_n (pc := 101) d_M_typeOf_101 rfl ?_
    refine ww_gr (pc := 102) 18 40 d_M_typeOf_102 fl_M_49 (by omega) rfl (by decide) ?_
    refine vv_aload_n (pc := 105) d_M_typeOf_105 rfl ?_
    refine ww_gr (pc := 106) 52 65 d_M_typeOf_106 fl_M_124 (by omega) rfl (by decide) ?_
    refine vv_iload_n (pc := 109) d_M_typeOf_109 rfl ?_
    obtain ⟨b1, w⟩ := w
    refine ww_ld (pc := 110) 65 d_M_typeOf_110 (by omega) (by decide) b1 ?_
    obtain ⟨b2, w⟩ := w
    refine ww_ld (pc := 111) 40 d_M_typeOf_111 (by omega) (by decide) b2 ?_
    obtain ⟨b3, w⟩ := w
    refine ww_ld (pc := 112) 35 d_M_typeOf_112 (by omega) (by decide) b3 ?_
    refine vv_istore (pc := 113) d_M_typeOf_113 (Nat.le_of_ble_eq_true rfl) ?_
    refine vv_iload (pc := 115) d_M_typeOf_115 rfl ?_
    refine vv_bipush (pc := 117) (v := (-2)) d_M_typeOf_117 rfl ?_
    refine vv_icmp_ne (pc := 119) (tgt := 127) d_M_typeOf_119 rfl (fun hc => ?_) (fun hc => ?_)
    · replace w := w.1 hc
      refine vv_aload_n (pc := 127) d_M_typeOf_127 rfl ?_
      refine vv_iload (pc := 128) d_M_typeOf_128 rfl ?_
      refine vv_iload_n (pc := 130) d_M_typeOf_130 rfl ?_
      obtain ⟨r6, T5, c4, w⟩ := w
      refine vv_callV (pc := 131) (As := [.int ((S.2 35) (Int32.toNatClampNeg ((S.2 40) (Int32.toNatClampNeg ((S.2 65) (Int32.toNatClampNeg x2)))))), .int x2]) d_M_typeOf_131 (c4 G h n z (d - 1) hn (by omega)) k_M_valueOf ml_M_379.1 ml_M_379.2.1 ml_M_379.2.2.1 ml_M_379.2.2.2.1 ml_M_379.2.2.2.2 (by omega) mm_26 (by omega) (Nat.le_of_ble_eq_true rfl) ?_
      refine vv_istore_n (pc := 134) d_M_typeOf_134 (Nat.le_of_ble_eq_true rfl) ?_
      refine vv_iinc (pc := 135) (v := (x2 + (-1))) d_M_typeOf_135 rfl rfl (Nat.le_of_ble_eq_true rfl) ?_
      exact vv_sub [3, 4, 0, 1, 5] rfl (w G h n z d hn hd)
    · replace w := w.2 hc
      refine vv_bipush (pc := 122) (v := (-2)) d_M_typeOf_122 rfl ?_
      refine vv_goto (pc := 124) (tgt := 134) d_M_typeOf_124 rfl ?_
      refine vv_istore_n (pc := 134) d_M_typeOf_134 (Nat.le_of_ble_eq_true rfl) ?_
      refine vv_iinc (pc := 135) (v := (x2 + (-1))) d_M_typeOf_135 rfl rfl (Nat.le_of_ble_eq_true rfl) ?_
      exact vv_sub [3, 4, 0, 1, 5] rfl (w G h n z d hn hd)
  · replace w := w.2 hc
    refine vv_aload_n (pc := 87) d_M_typeOf_87 rfl ?_
    refine vv_iload (pc := 88) d_M_typeOf_88 rfl ?_
    obtain ⟨r9, T8, c7, w⟩ := w
    refine vv_callV (pc := 90) (As := [.int x4]) d_M_typeOf_90 (c7 G h n z (d - 1) hn (by omega)) k_M_simple ml_M_394.1 ml_M_394.2.1 ml_M_394.2.2.1 ml_M_394.2.2.2.1 ml_M_394.2.2.2.2 (by omega) mm_26 (by omega) (Nat.le_of_ble_eq_true rfl) ?_
    refine vv_istore_n (pc := 93) d_M_typeOf_93 (Nat.le_of_ble_eq_true rfl) ?_
    refine vv_goto (pc := 94) (tgt := 138) d_M_typeOf_94 rfl ?_
    exact vv_sub [1, 2, 3, 0, 4] rfl (w G h n z d hn hd)
def wp_M_typeOf_138 (o : Option Value) (S' : cp_S) (S : cp_S) (x1 : Int32) (x2 : Int32) (x3 : Int32) (x4 : Int32) : Prop := ((¬ (x3 : Int32) = (-1) → (((x2 : Int32) ≤ 0 → JJ 7 m_M_typeOf o S' 170 [(1, .int x1), (2, .int x2), (3, .int x3), (4, .int x4)] S) ∧ (¬ (x2 : Int32) ≤ 0 → ((0 ≤ (x4 : Int32) → ∃ r3 T2, MC 4 m_M_suits [.int x3, .int x2, .int 0] S (some (.int r3)) T2 ∧ ((¬ (r3 : Int32) = 0 → JJ 7 m_M_typeOf o S' 170 [(1, .int x1), (2, .int x2), (3, .int x3), (4, .int x4)] T2) ∧ ((r3 : Int32) = 0 → (o = some (.int (-1)) ∧ S' = T2)))) ∧ (¬ 0 ≤ (x4 : Int32) → ∃ r6 T5, MC 4 m_M_suits [.int x3, .int x2, .int 1] S (some (.int r6)) T5 ∧ ((¬ (r6 : Int32) = 0 → JJ 7 m_M_typeOf o S' 170 [(1, .int x1), (2, .int x2), (3, .int x3), (4, .int x4)] T5) ∧ ((r6 : Int32) = 0 → (o = some (.int (-1)) ∧ S' = T5)))))))) ∧ ((x3 : Int32) = (-1) → (o = some (.int (-1)) ∧ S' = S)))
theorem b_M_typeOf_138 {o : Option Value} {S' S : cp_S} {x1 : Int32} {x2 : Int32} {x3 : Int32} {x4 : Int32} (w : wp_M_typeOf_138 o S' S x1 x2 x3 x4) : JJ 7 m_M_typeOf o S' 138 [(1, .int x1), (2, .int x2), (3, .int x3), (4, .int x4)] S := by
  unfold wp_M_typeOf_138 at w
  intro G h n z d hn hd
  refine vv_iload_n (pc := 138) d_M_typeOf_138 rfl ?_
  refine vv_iconst (pc := 139) (v := (-1)) d_M_typeOf_139 rfl ?_
  refine vv_icmp_ne (pc := 140) (tgt := 145) d_M_typeOf_140 rfl (fun hc => ?_) (fun hc => ?_)
  · replace w := w.1 hc
    refine vv_iload_n (pc := 145) d_M_typeOf_145 rfl ?_
    refine vv_if_le (pc := 146) (tgt := 170) d_M_typeOf_146 rfl (fun hc => ?_) (fun hc => ?_)
    · replace w := w.1 hc
      exact vv_sub [0, 1, 2, 3, 4] rfl (w G h n z d hn hd)
    · replace w := w.2 hc
      refine vv_aload_n (pc := 149) d_M_typeOf_149 rfl ?_
      refine vv_iload_n (pc := 150) d_M_typeOf_150 rfl ?_
      refine vv_iload_n (pc := 151) d_M_typeOf_151 rfl ?_
      refine vv_iload (pc := 152) d_M_typeOf_152 rfl ?_
      refine vv_if_ge (pc := 154) (tgt := 161) d_M_typeOf_154 rfl (fun hc => ?_) (fun hc => ?_)
      · replace w := w.1 hc
        refine vv_iconst (pc := 161) (v := 0) d_M_typeOf_161 rfl ?_
        obtain ⟨r3, T2, c1, w⟩ := w
        refine vv_callV (pc := 162) (As := [.int x3, .int x2, .int 0]) d_M_typeOf_162 (c1 G h n z (d - 1) hn (by omega)) k_M_suits ml_M_403.1 ml_M_403.2.1 ml_M_403.2.2.1 ml_M_403.2.2.2.1 ml_M_403.2.2.2.2 (by omega) mm_26 (by omega) (Nat.le_of_ble_eq_true rfl) ?_
        refine vv_if_ne (pc := 165) (tgt := 170) d_M_typeOf_165 rfl (fun hc => ?_) (fun hc => ?_)
        · replace w := w.1 hc
          exact vv_sub [0, 1, 2, 3, 4] rfl (w G h n z d hn hd)
        · replace w := w.2 hc
          refine vv_iconst (pc := 168) (v := (-1)) d_M_typeOf_168 rfl ?_
          obtain ⟨rfl, rfl⟩ := w
          exact vv_iret (pc := 169) d_M_typeOf_169 rfl
      · replace w := w.2 hc
        refine vv_iconst (pc := 157) (v := 1) d_M_typeOf_157 rfl ?_
        refine vv_goto (pc := 158) (tgt := 162) d_M_typeOf_158 rfl ?_
        obtain ⟨r6, T5, c4, w⟩ := w
        refine vv_callV (pc := 162) (As := [.int x3, .int x2, .int 1]) d_M_typeOf_162 (c4 G h n z (d - 1) hn (by omega)) k_M_suits ml_M_403.1 ml_M_403.2.1 ml_M_403.2.2.1 ml_M_403.2.2.2.1 ml_M_403.2.2.2.2 (by omega) mm_26 (by omega) (Nat.le_of_ble_eq_true rfl) ?_
        refine vv_if_ne (pc := 165) (tgt := 170) d_M_typeOf_165 rfl (fun hc => ?_) (fun hc => ?_)
        · replace w := w.1 hc
          exact vv_sub [0, 1, 2, 3, 4] rfl (w G h n z d hn hd)
        · replace w := w.2 hc
          refine vv_iconst (pc := 168) (v := (-1)) d_M_typeOf_168 rfl ?_
          obtain ⟨rfl, rfl⟩ := w
          exact vv_iret (pc := 169) d_M_typeOf_169 rfl
  · replace w := w.2 hc
    refine vv_iconst (pc := 143) (v := (-1)) d_M_typeOf_143 rfl ?_
    obtain ⟨rfl, rfl⟩ := w
    exact vv_iret (pc := 144) d_M_typeOf_144 rfl
def wp_M_typeOf_170 (o : Option Value) (S' : cp_S) (S : cp_S) (x1 : Int32) (x2 : Int32) (x3 : Int32) (x4 : Int32) : Prop := JJ 7 m_M_typeOf o S' 31 [(1, .int x1), (2, .int x2), (3, .int x3)] S
theorem b_M_typeOf_170 {o : Option Value} {S' S : cp_S} {x1 : Int32} {x2 : Int32} {x3 : Int32} {x4 : Int32} (w : wp_M_typeOf_170 o S' S x1 x2 x3 x4) : JJ 7 m_M_typeOf o S' 170 [(1, .int x1), (2, .int x2), (3, .int x3), (4, .int x4)] S := by
  unfold wp_M_typeOf_170 at w
  intro G h n z d hn hd
  refine vv_goto (pc := 170) (tgt := 31) d_M_typeOf_170 rfl ?_
  exact vv_sub [0, 1, 2, 3] rfl (w G h n z d hn hd)
def wp_M_suits_0 (o : Option Value) (S' : cp_S) (S : cp_S) (x1 : Int32) (x2 : Int32) (x3 : Int32) : Prop := vp_in x2 (cp_ml 65) ∧ vp_in ((S.2 65) (Int32.toNatClampNeg x2)) (cp_ml 40) ∧ vp_in ((S.2 40) (Int32.toNatClampNeg ((S.2 65) (Int32.toNatClampNeg x2)))) (cp_ml 33) ∧ vp_in x2 (cp_ml 66) ∧ (((x1 : Int32) = (-2) → JJ 4 m_M_suits o S' 51 [(1, .int x1), (2, .int x2), (3, .int x3), (4, .int (((S.2 33) (Int32.toNatClampNeg ((S.2 40) (Int32.toNatClampNeg ((S.2 65) (Int32.toNatClampNeg x2)))))) + ((S.2 66) (Int32.toNatClampNeg x2))))] S) ∧ (¬ (x1 : Int32) = (-2) → vp_in (((S.2 33) (Int32.toNatClampNeg ((S.2 40) (Int32.toNatClampNeg ((S.2 65) (Int32.toNatClampNeg x2)))))) + ((S.2 66) (Int32.toNatClampNeg x2))) (cp_ml 46) ∧ ∃ r8 T7, MC 2 m_M_valueOf [.int ((S.2 46) (Int32.toNatClampNeg (((S.2 33) (Int32.toNatClampNeg ((S.2 40) (Int32.toNatClampNeg ((S.2 65) (Int32.toNatClampNeg x2)))))) + ((S.2 66) (Int32.toNatClampNeg x2))))), .int x2] S (some (.int r8)) T7 ∧ ∃ r11 T10, MC 3 m_M_makeSame [.int x1, .int r8] T7 (some (.int r11)) T10 ∧ ((¬ (r11 : Int32) = 0 → (((x3 : Int32) = 0 → ∃ T13, MC 3 m_M_settle [.int x2] T10 none T13 ∧ (o = some (.int 1) ∧ S' = T13 ∧ narrow .boolean (.int 1) = .int 1)) ∧ (¬ (x3 : Int32) = 0 → vp_in (x2 + 1) (cp_ml 70) ∧ ((¬ ((T10.1 42) : Int32) = ((T10.2 70) (Int32.toNatClampNeg (x2 + 1))) → ∃ T16, MC 3 m_M_settle [.int x2] T10 none T16 ∧ (o = some (.int 1) ∧ S' = T16 ∧ narrow .boolean (.int 1) = .int 1)) ∧ (((T10.1 42) : Int32) = ((T10.2 70) (Int32.toNatClampNeg (x2 + 1))) → vp_in (x2 + 1) (cp_ml 68) ∧ vp_in (x2 + 1) (cp_ml 69) ∧ ∃ T20, MC 3 m_M_settle [.int x2] ((va_up (va_up T10.1 35 ((T10.2 68) (Int32.toNatClampNeg (x2 + 1)))) 40 ((T10.2 69) (Int32.toNatClampNeg (x2 + 1)))), T10.2) none T20 ∧ (o = some (.int 1) ∧ S' = T20 ∧ narrow .boolean (.int 1) = .int 1)))))) ∧ ((r11 : Int32) = 0 → JJ 4 m_M_suits o S' 51 [(1, .int x1), (2, .int x2), (3, .int x3), (4, .int (((S.2 33) (Int32.toNatClampNeg ((S.2 40) (Int32.toNatClampNeg ((S.2 65) (Int32.toNatClampNeg x2)))))) + ((S.2 66) (Int32.toNatClampNeg x2))))] T10))))
theorem b_M_suits_0 {o : Option Value} {S' S : cp_S} {x1 : Int32} {x2 : Int32} {x3 : Int32} (w : wp_M_suits_0 o S' S x1 x2 x3) : JJ 4 m_M_suits o S' 0 [(1, .int x1), (2, .int x2), (3, .int x3)] S := by
  unfold wp_M_suits_0 at w
  intro G h n z d hn hd
  refine vv_aload_n (pc := 0) d_M_suits_0 rfl ?_
  refine ww_gr (pc := 1) 9 33 d_M_suits_1 fl_M_28 (by omega) rfl (by decide) ?_
  refine vv_aload_n (pc := 4) d_M_suits_4 rfl ?_
  refine ww_gr (pc := 5) 18 40 d_M_suits_5 fl_M_49 (by omega) rfl (by decide) ?_
  refine vv_aload_n (pc := 8) d_M_suits_8 rfl ?_
  refine ww_gr (pc := 9) 52 65 d_M_suits_9 fl_M_124 (by omega) rfl (by decide) ?_
  refine vv_iload_n (pc := 12) d_M_suits_12 rfl ?_
  obtain ⟨b1, w⟩ := w
  refine ww_ld (pc := 13) 65 d_M_suits_13 (by omega) (by decide) b1 ?_
  obtain ⟨b2, w⟩ := w
  refine ww_ld (pc := 14) 40 d_M_suits_14 (by omega) (by decide) b2 ?_
  obtain ⟨b3, w⟩ := w
  refine ww_ld (pc := 15) 33 d_M_suits_15 (by omega) (by decide) b3 ?_
  refine vv_aload_n (pc := 16) d_M_suits_16 rfl ?_
  refine ww_gr (pc := 17) 53 66 d_M_suits_17 fl_M_127 (by omega) rfl (by decide) ?_
  refine vv_iload_n (pc := 20) d_M_suits_20 rfl ?_
  obtain ⟨b4, w⟩ := w
  refine ww_ld (pc := 21) 66 d_M_suits_21 (by omega) (by decide) b4 ?_
  refine vv_iadd (pc := 22) d_M_suits_22 ?_
  refine vv_istore (pc := 23) d_M_suits_23 (Nat.le_of_ble_eq_true rfl) ?_
  refine vv_iload_n (pc := 25) d_M_suits_25 rfl ?_
  refine vv_bipush (pc := 26) (v := (-2)) d_M_suits_26 rfl ?_
  refine vv_icmp_eq (pc := 28) (tgt := 51) d_M_suits_28 rfl (fun hc => ?_) (fun hc => ?_)
  · replace w := w.1 hc
    exact vv_sub [1, 2, 3, 4, 0] rfl (w G h n z d hn hd)
  · replace w := w.2 hc
    refine vv_aload_n (pc := 31) d_M_suits_31 rfl ?_
    refine vv_iload_n (pc := 32) d_M_suits_32 rfl ?_
    refine vv_aload_n (pc := 33) d_M_suits_33 rfl ?_
    refine vv_aload_n (pc := 34) d_M_suits_34 rfl ?_
    refine ww_gr (pc := 35) 26 46 d_M_suits_35 fl_M_67 (by omega) rfl (by decide) ?_
    refine vv_iload (pc := 38) d_M_suits_38 rfl ?_
    obtain ⟨b5, w⟩ := w
    refine ww_ld (pc := 40) 46 d_M_suits_40 (by omega) (by decide) b5 ?_
    refine vv_iload_n (pc := 41) d_M_suits_41 rfl ?_
    obtain ⟨r8, T7, c6, w⟩ := w
    refine vv_callV (pc := 42) (As := [.int ((S.2 46) (Int32.toNatClampNeg (((S.2 33) (Int32.toNatClampNeg ((S.2 40) (Int32.toNatClampNeg ((S.2 65) (Int32.toNatClampNeg x2)))))) + ((S.2 66) (Int32.toNatClampNeg x2))))), .int x2]) d_M_suits_42 (c6 G h n z (d - 1) hn (by omega)) k_M_valueOf ml_M_379.1 ml_M_379.2.1 ml_M_379.2.2.1 ml_M_379.2.2.2.1 ml_M_379.2.2.2.2 (by omega) mm_26 (by omega) (Nat.le_of_ble_eq_true rfl) ?_
    obtain ⟨r11, T10, c9, w⟩ := w
    refine vv_callV (pc := 45) (As := [.int x1, .int r8]) d_M_suits_45 (c9 G h n z (d - 1) hn (by omega)) k_M_makeSame ml_M_385.1 ml_M_385.2.1 ml_M_385.2.2.1 ml_M_385.2.2.2.1 ml_M_385.2.2.2.2 (by omega) mm_26 (by omega) (Nat.le_of_ble_eq_true rfl) ?_
    refine vv_if_ne (pc := 48) (tgt := 73) d_M_suits_48 rfl (fun hc => ?_) (fun hc => ?_)
    · replace w := w.1 hc
      refine vv_iload_n (pc := 73) d_M_suits_73 rfl ?_
      refine vv_if_eq (pc := 74) (tgt := 116) d_M_suits_74 rfl (fun hc => ?_) (fun hc => ?_)
      · replace w := w.1 hc
        refine vv_aload_n (pc := 116) d_M_suits_116 rfl ?_
        refine vv_iload_n (pc := 117) d_M_suits_117 rfl ?_
        obtain ⟨T13, c12, w⟩ := w
        refine vv_callV (pc := 118) (As := [.int x2]) d_M_suits_118 (c12 G h n z (d - 1) hn (by omega)) k_M_settle ml_M_391.1 ml_M_391.2.1 ml_M_391.2.2.1 ml_M_391.2.2.2.1 ml_M_391.2.2.2.2 (by omega) mm_26 (by omega) (Nat.le_of_ble_eq_true rfl) ?_
        refine vv_iconst (pc := 121) (v := 1) d_M_suits_121 rfl ?_
        obtain ⟨rfl, rfl, hx⟩ := w
        exact vv_zret (pc := 122) d_M_suits_122 rfl hx
      · replace w := w.2 hc
        refine vv_aload_n (pc := 77) d_M_suits_77 rfl ?_
        refine ww_gi (pc := 78) 42 d_M_suits_78 fl_M_265 (by omega) rfl ?_
        refine vv_aload_n (pc := 81) d_M_suits_81 rfl ?_
        refine ww_gr (pc := 82) 57 70 d_M_suits_82 fl_M_139 (by omega) rfl (by decide) ?_
        refine vv_iload_n (pc := 85) d_M_suits_85 rfl ?_
        refine vv_iconst (pc := 86) (v := 1) d_M_suits_86 rfl ?_
        refine vv_iadd (pc := 87) d_M_suits_87 ?_
        obtain ⟨b14, w⟩ := w
        refine ww_ld (pc := 88) 70 d_M_suits_88 (by omega) (by decide) b14 ?_
        refine vv_icmp_ne (pc := 89) (tgt := 116) d_M_suits_89 rfl (fun hc => ?_) (fun hc => ?_)
        · replace w := w.1 hc
          refine vv_aload_n (pc := 116) d_M_suits_116 rfl ?_
          refine vv_iload_n (pc := 117) d_M_suits_117 rfl ?_
          obtain ⟨T16, c15, w⟩ := w
          refine vv_callV (pc := 118) (As := [.int x2]) d_M_suits_118 (c15 G h n z (d - 1) hn (by omega)) k_M_settle ml_M_391.1 ml_M_391.2.1 ml_M_391.2.2.1 ml_M_391.2.2.2.1 ml_M_391.2.2.2.2 (by omega) mm_26 (by omega) (Nat.le_of_ble_eq_true rfl) ?_
          refine vv_iconst (pc := 121) (v := 1) d_M_suits_121 rfl ?_
          obtain ⟨rfl, rfl, hx⟩ := w
          exact vv_zret (pc := 122) d_M_suits_122 rfl hx
        · replace w := w.2 hc
          refine vv_aload_n (pc := 92) d_M_suits_92 rfl ?_
          refine vv_aload_n (pc := 93) d_M_suits_93 rfl ?_
          refine ww_gr (pc := 94) 55 68 d_M_suits_94 fl_M_133 (by omega) rfl (by decide) ?_
          refine vv_iload_n (pc := 97) d_M_suits_97 rfl ?_
          refine vv_iconst (pc := 98) (v := 1) d_M_suits_98 rfl ?_
          refine vv_iadd (pc := 99) d_M_suits_99 ?_
          obtain ⟨b17, w⟩ := w
          refine ww_ld (pc := 100) 68 d_M_suits_100 (by omega) (by decide) b17 ?_
          refine ww_pi (pc := 101) 35 d_M_suits_101 fl_M_259 (by omega) rfl rfl rfl rfl ?_
          refine vv_aload_n (pc := 104) d_M_suits_104 rfl ?_
          refine vv_aload_n (pc := 105) d_M_suits_105 rfl ?_
          refine ww_gr (pc := 106) 56 69 d_M_suits_106 fl_M_136 (by omega) rfl (by decide) ?_
          refine vv_iload_n (pc := 109) d_M_suits_109 rfl ?_
          refine vv_iconst (pc := 110) (v := 1) d_M_suits_110 rfl ?_
          refine vv_iadd (pc := 111) d_M_suits_111 ?_
          obtain ⟨b18, w⟩ := w
          refine ww_ld (pc := 112) 69 d_M_suits_112 (by omega) (by decide) b18 ?_
          refine ww_pi (pc := 113) 40 d_M_suits_113 fl_M_262 (by omega) rfl rfl rfl rfl ?_
          refine vv_aload_n (pc := 116) d_M_suits_116 rfl ?_
          refine vv_iload_n (pc := 117) d_M_suits_117 rfl ?_
          obtain ⟨T20, c19, w⟩ := w
          refine vv_callV (pc := 118) (As := [.int x2]) d_M_suits_118 (c19 G h n z (d - 1) hn (by omega)) k_M_settle ml_M_391.1 ml_M_391.2.1 ml_M_391.2.2.1 ml_M_391.2.2.2.1 ml_M_391.2.2.2.2 (by omega) mm_26 (by omega) (Nat.le_of_ble_eq_true rfl) ?_
          refine vv_iconst (pc := 121) (v := 1) d_M_suits_121 rfl ?_
          obtain ⟨rfl, rfl, hx⟩ := w
          exact vv_zret (pc := 122) d_M_suits_122 rfl hx
    · replace w := w.2 hc
      exact vv_sub [1, 2, 3, 4, 0] rfl (w G h n z d hn hd)
theorem c_M_suits {o : Option Value} {S' S : cp_S} {x1 : Int32} {x2 : Int32} {x3 : Int32} (w : JJ 4 m_M_suits o S' 0 [(1, .int x1), (2, .int x2), (3, .int x3)] S) : MC 4 m_M_suits [.int x1, .int x2, .int x3] S o S' := fun G h n z d hn hd => cp_C.of rfl (Nat.le_of_ble_eq_true rfl) (w G h n z d hn hd)
def wp_M_suits_51 (o : Option Value) (S' : cp_S) (S : cp_S) (x1 : Int32) (x2 : Int32) (x3 : Int32) (x4 : Int32) : Prop := vp_in x2 (cp_ml 67) ∧ vp_in (((S.2 67) (Int32.toNatClampNeg x2)) - (S.1 20)) (cp_ml 42) ∧ (o = some (.int 0) ∧ S' = ((va_up S.1 59 ((S.2 42) (Int32.toNatClampNeg (((S.2 67) (Int32.toNatClampNeg x2)) - (S.1 20))))), S.2) ∧ narrow .boolean (.int 0) = .int 0)
theorem b_M_suits_51 {o : Option Value} {S' S : cp_S} {x1 : Int32} {x2 : Int32} {x3 : Int32} {x4 : Int32} (w : wp_M_suits_51 o S' S x1 x2 x3 x4) : JJ 4 m_M_suits o S' 51 [(1, .int x1), (2, .int x2), (3, .int x3), (4, .int x4)] S := by
  unfold wp_M_suits_51 at w
  intro G h n z d hn hd
  refine vv_aload_n (pc := 51) d_M_suits_51 rfl ?_
  refine vv_aload_n (pc := 52) d_M_suits_52 rfl ?_
  refine ww_gr (pc := 53) 21 42 d_M_suits_53 fl_M_55 (by omega) rfl (by decide) ?_
  refine vv_aload_n (pc := 56) d_M_suits_56 rfl ?_
  refine ww_gr (pc := 57) 54 67 d_M_suits_57 fl_M_130 (by omega) rfl (by decide) ?_
  refine vv_iload_n (pc := 60) d_M_suits_60 rfl ?_
  obtain ⟨b1, w⟩ := w
  refine ww_ld (pc := 61) 67 d_M_suits_61 (by omega) (by decide) b1 ?_
  refine vv_aload_n (pc := 62) d_M_suits_62 rfl ?_
  refine ww_gi (pc := 63) 20 d_M_suits_63 fl_M_197 (by omega) rfl ?_
  refine vv_isub (pc := 66) d_M_suits_66 ?_
  obtain ⟨b2, w⟩ := w
  refine ww_ld (pc := 67) 42 d_M_suits_67 (by omega) (by decide) b2 ?_
  refine ww_pi (pc := 68) 59 d_M_suits_68 fl_M_367 (by omega) rfl rfl rfl rfl ?_
  refine vv_iconst (pc := 71) (v := 0) d_M_suits_71 rfl ?_
  obtain ⟨rfl, rfl, hx⟩ := w
  exact vv_zret (pc := 72) d_M_suits_72 rfl hx
def wp_M_noNames_0 (o : Option Value) (S' : cp_S) (S : cp_S) : Prop := JJ 0 m_M_noNames o S' 2 [(1, .int 0)] S
theorem b_M_noNames_0 {o : Option Value} {S' S : cp_S} (w : wp_M_noNames_0 o S' S) : JJ 0 m_M_noNames o S' 0 [] S := by
  unfold wp_M_noNames_0 at w
  intro G h n z d hn hd
  refine vv_iconst (pc := 0) (v := 0) d_M_noNames_0 rfl ?_
  refine vv_istore_n (pc := 1) d_M_noNames_1 (Nat.le_of_ble_eq_true rfl) ?_
  exact vv_sub [1, 0] rfl (w G h n z d hn hd)
theorem c_M_noNames {o : Option Value} {S' S : cp_S} (w : JJ 0 m_M_noNames o S' 0 [] S) : MC 0 m_M_noNames [] S o S' := fun G h n z d hn hd => cp_C.of rfl (Nat.le_of_ble_eq_true rfl) (w G h n z d hn hd)
def wp_M_noNames_2 (o : Option Value) (S' : cp_S) (S : cp_S) (x1 : Int32) : Prop := ((26 ≤ (x1 : Int32) → (o = none ∧ S' = S)) ∧ (¬ 26 ≤ (x1 : Int32) → vp_in x1 (cp_ml 63) ∧ vp_in x1 (cp_ml 64) ∧ JJ 0 m_M_noNames o S' 2 [(1, .int (x1 + 1))] (S.1, (va_up (va_up S.2 63 (upd (S.2 63) (Int32.toNatClampNeg x1) (-1))) 64 (upd (S.2 64) (Int32.toNatClampNeg x1) (-1))))))
theorem b_M_noNames_2 {o : Option Value} {S' S : cp_S} {x1 : Int32} (w : wp_M_noNames_2 o S' S x1) : JJ 0 m_M_noNames o S' 2 [(1, .int x1)] S := by
  unfold wp_M_noNames_2 at w
  intro G h n z d hn hd
  refine vv_iload_n (pc := 2) d_M_noNames_2 rfl ?_
  refine vv_bipush (pc := 3) (v := 26) d_M_noNames_3 rfl ?_
  refine vv_icmp_ge (pc := 5) (tgt := 28) d_M_noNames_5 rfl (fun hc => ?_) (fun hc => ?_)
  · replace w := w.1 hc
    obtain ⟨rfl, rfl⟩ := w
    exact vv_vret (pc := 28) d_M_noNames_28 rfl
  · replace w := w.2 hc
    refine vv_aload_n (pc := 8) d_M_noNames_8 rfl ?_
    refine ww_gr (pc := 9) 50 63 d_M_noNames_9 fl_M_118 (by omega) rfl (by decide) ?_
    refine vv_iload_n (pc := 12) d_M_noNames_12 rfl ?_
    refine vv_iconst (pc := 13) (v := (-1)) d_M_noNames_13 rfl ?_
    obtain ⟨b1, w⟩ := w
    refine ww_st (pc := 14) 63 d_M_noNames_14 (by omega) (by decide) b1 ?_
    refine vv_aload_n (pc := 15) d_M_noNames_15 rfl ?_
    refine ww_gr (pc := 16) 51 64 d_M_noNames_16 fl_M_121 (by omega) rfl (by decide) ?_
    refine vv_iload_n (pc := 19) d_M_noNames_19 rfl ?_
    refine vv_iconst (pc := 20) (v := (-1)) d_M_noNames_20 rfl ?_
    obtain ⟨b2, w⟩ := w
    refine ww_st (pc := 21) 64 d_M_noNames_21 (by omega) (by decide) b2 ?_
    refine vv_iinc (pc := 22) (v := (x1 + 1)) d_M_noNames_22 rfl rfl (Nat.le_of_ble_eq_true rfl) ?_
    refine vv_goto (pc := 25) (tgt := 2) d_M_noNames_25 rfl ?_
    exact vv_sub [1, 0] rfl (w G h n z d hn hd)
def wp_M_mayName_0 (o : Option Value) (S' : cp_S) (S : cp_S) (x1 : Int32) : Prop := ∃ r2, SC m_M_isLetter [.int x1] (some (.int r2)) ∧ ((¬ (r2 : Int32) = 0 → vp_in (x1 - 65) (cp_ml 30) ∧ (((((S.2 30) (Int32.toNatClampNeg (x1 - 65))) : Int32) = 0 → ((¬ (0 : Int32) = 0 → (o = some (.int 0) ∧ S' = ((va_up S.1 0 0), S.2) ∧ narrow .boolean (.int 0) = .int 0)) ∧ ((0 : Int32) = 0 → (o = some (.int 1) ∧ S' = ((va_up S.1 0 0), S.2) ∧ narrow .boolean (.int 1) = .int 1)))) ∧ (¬ (((S.2 30) (Int32.toNatClampNeg (x1 - 65))) : Int32) = 0 → ((¬ (2 : Int32) = 0 → (o = some (.int 0) ∧ S' = ((va_up S.1 0 2), S.2) ∧ narrow .boolean (.int 0) = .int 0)) ∧ ((2 : Int32) = 0 → (o = some (.int 1) ∧ S' = ((va_up S.1 0 2), S.2) ∧ narrow .boolean (.int 1) = .int 1)))))) ∧ ((r2 : Int32) = 0 → ((¬ (1 : Int32) = 0 → (o = some (.int 0) ∧ S' = ((va_up S.1 0 1), S.2) ∧ narrow .boolean (.int 0) = .int 0)) ∧ ((1 : Int32) = 0 → (o = some (.int 1) ∧ S' = ((va_up S.1 0 1), S.2) ∧ narrow .boolean (.int 1) = .int 1)))))
theorem b_M_mayName_0 {o : Option Value} {S' S : cp_S} {x1 : Int32} (w : wp_M_mayName_0 o S' S x1) : JJ 1 m_M_mayName o S' 0 [(1, .int x1)] S := by
  unfold wp_M_mayName_0 at w
  intro G h n z d hn hd
  refine vv_aload_n (pc := 0) d_M_mayName_0 rfl ?_
  refine vv_iload_n (pc := 1) d_M_mayName_1 rfl ?_
  obtain ⟨r2, c1, w⟩ := w
  refine vv_callS (pc := 2) (As := [.int x1]) d_M_mayName_2 (c1 G (mm G h S) n z (d - 1)) k_M_isLetter ml_M_215.1 ml_M_215.2 (by omega) (Nat.le_of_ble_eq_true rfl) ?_
  refine vv_if_ne (pc := 5) (tgt := 12) d_M_mayName_5 rfl (fun hc => ?_) (fun hc => ?_)
  · replace w := w.1 hc
    refine vv_aload_n (pc := 12) d_M_mayName_12 rfl ?_
    refine ww_gr (pc := 13) 6 30 d_M_mayName_13 fl_M_19 (by omega) rfl (by decide) ?_
    refine vv_iload_n (pc := 16) d_M_mayName_16 rfl ?_
    refine vv_bipush (pc := 17) (v := 65) d_M_mayName_17 rfl ?_
    refine vv_isub (pc := 19) d_M_mayName_19 ?_
    obtain ⟨b3, w⟩ := w
    refine ww_ld (pc := 20) 30 d_M_mayName_20 (by omega) (by decide) b3 ?_
    refine vv_if_eq (pc := 21) (tgt := 28) d_M_mayName_21 rfl (fun hc => ?_) (fun hc => ?_)
    · replace w := w.1 hc
      refine vv_iconst (pc := 28) (v := 0) d_M_mayName_28 rfl ?_
      refine ww_pi (pc := 29) 0 d_M_mayName_29 fl_M_184 (by omega) rfl rfl rfl rfl ?_
      refine vv_aload_n (pc := 32) d_M_mayName_32 rfl ?_
      refine ww_gi (pc := 33) 0 d_M_mayName_33 fl_M_184 (by omega) rfl ?_
      refine vv_topi (y := 0) rfl ?_
      refine vv_if_ne (pc := 36) (tgt := 43) d_M_mayName_36 rfl (fun hc => ?_) (fun hc => ?_)
      · replace w := w.1 hc
        refine vv_iconst (pc := 43) (v := 0) d_M_mayName_43 rfl ?_
        obtain ⟨rfl, rfl, hx⟩ := w
        exact vv_zret (pc := 44) d_M_mayName_44 rfl hx
      · replace w := w.2 hc
        refine vv_iconst (pc := 39) (v := 1) d_M_mayName_39 rfl ?_
        refine vv_goto (pc := 40) (tgt := 44) d_M_mayName_40 rfl ?_
        obtain ⟨rfl, rfl, hx⟩ := w
        exact vv_zret (pc := 44) d_M_mayName_44 rfl hx
    · replace w := w.2 hc
      refine vv_iconst (pc := 24) (v := 2) d_M_mayName_24 rfl ?_
      refine vv_goto (pc := 25) (tgt := 29) d_M_mayName_25 rfl ?_
      refine ww_pi (pc := 29) 0 d_M_mayName_29 fl_M_184 (by omega) rfl rfl rfl rfl ?_
      refine vv_aload_n (pc := 32) d_M_mayName_32 rfl ?_
      refine ww_gi (pc := 33) 0 d_M_mayName_33 fl_M_184 (by omega) rfl ?_
      refine vv_topi (y := 2) rfl ?_
      refine vv_if_ne (pc := 36) (tgt := 43) d_M_mayName_36 rfl (fun hc => ?_) (fun hc => ?_)
      · replace w := w.1 hc
        refine vv_iconst (pc := 43) (v := 0) d_M_mayName_43 rfl ?_
        obtain ⟨rfl, rfl, hx⟩ := w
        exact vv_zret (pc := 44) d_M_mayName_44 rfl hx
      · replace w := w.2 hc
        refine vv_iconst (pc := 39) (v := 1) d_M_mayName_39 rfl ?_
        refine vv_goto (pc := 40) (tgt := 44) d_M_mayName_40 rfl ?_
        obtain ⟨rfl, rfl, hx⟩ := w
        exact vv_zret (pc := 44) d_M_mayName_44 rfl hx
  · replace w := w.2 hc
    refine vv_iconst (pc := 8) (v := 1) d_M_mayName_8 rfl ?_
    refine vv_goto (pc := 9) (tgt := 29) d_M_mayName_9 rfl ?_
    refine ww_pi (pc := 29) 0 d_M_mayName_29 fl_M_184 (by omega) rfl rfl rfl rfl ?_
    refine vv_aload_n (pc := 32) d_M_mayName_32 rfl ?_
    refine ww_gi (pc := 33) 0 d_M_mayName_33 fl_M_184 (by omega) rfl ?_
    refine vv_topi (y := 1) rfl ?_
    refine vv_if_ne (pc := 36) (tgt := 43) d_M_mayName_36 rfl (fun hc => ?_) (fun hc => ?_)
    · replace w := w.1 hc
      refine vv_iconst (pc := 43) (v := 0) d_M_mayName_43 rfl ?_
      obtain ⟨rfl, rfl, hx⟩ := w
      exact vv_zret (pc := 44) d_M_mayName_44 rfl hx
    · replace w := w.2 hc
      refine vv_iconst (pc := 39) (v := 1) d_M_mayName_39 rfl ?_
      refine vv_goto (pc := 40) (tgt := 44) d_M_mayName_40 rfl ?_
      obtain ⟨rfl, rfl, hx⟩ := w
      exact vv_zret (pc := 44) d_M_mayName_44 rfl hx
theorem c_M_mayName {o : Option Value} {S' S : cp_S} {x1 : Int32} (w : JJ 1 m_M_mayName o S' 0 [(1, .int x1)] S) : MC 1 m_M_mayName [.int x1] S o S' := fun G h n z d hn hd => cp_C.of rfl (Nat.le_of_ble_eq_true rfl) (w G h n z d hn hd)
def wp_M_isType_0 (o : Option Value) (S' : cp_S) (S : cp_S) (x1 : Int32) : Prop := ∃ r3 T2, MC 7 m_M_typeOf [.int x1] S (some (.int r3)) T2 ∧ (((r3 : Int32) = (-2) → ((¬ (r3 : Int32) = (-2) → (o = some (.int 0) ∧ S' = T2 ∧ narrow .boolean (.int 0) = .int 0)) ∧ ((r3 : Int32) = (-2) → (o = some (.int 1) ∧ S' = T2 ∧ narrow .boolean (.int 1) = .int 1)))) ∧ (¬ (r3 : Int32) = (-2) → (((r3 : Int32) = (-1) → ((¬ (r3 : Int32) = (-2) → (o = some (.int 0) ∧ S' = T2 ∧ narrow .boolean (.int 0) = .int 0)) ∧ ((r3 : Int32) = (-2) → (o = some (.int 1) ∧ S' = T2 ∧ narrow .boolean (.int 1) = .int 1)))) ∧ (¬ (r3 : Int32) = (-1) → vp_in (x1 - (T2.1 20)) (cp_ml 42) ∧ ((¬ (r3 : Int32) = (-2) → (o = some (.int 0) ∧ S' = ((va_up T2.1 59 ((T2.2 42) (Int32.toNatClampNeg (x1 - (T2.1 20))))), T2.2) ∧ narrow .boolean (.int 0) = .int 0)) ∧ ((r3 : Int32) = (-2) → (o = some (.int 1) ∧ S' = ((va_up T2.1 59 ((T2.2 42) (Int32.toNatClampNeg (x1 - (T2.1 20))))), T2.2) ∧ narrow .boolean (.int 1) = .int 1)))))))
theorem b_M_isType_0 {o : Option Value} {S' S : cp_S} {x1 : Int32} (w : wp_M_isType_0 o S' S x1) : JJ 8 m_M_isType o S' 0 [(1, .int x1)] S := by
  unfold wp_M_isType_0 at w
  intro G h n z d hn hd
  refine vv_aload_n (pc := 0) d_M_isType_0 rfl ?_
  refine vv_iload_n (pc := 1) d_M_isType_1 rfl ?_
  obtain ⟨r3, T2, c1, w⟩ := w
  refine vv_callV (pc := 2) (As := [.int x1]) d_M_isType_2 (c1 G h n z (d - 1) hn (by omega)) k_M_typeOf ml_M_407.1 ml_M_407.2.1 ml_M_407.2.2.1 ml_M_407.2.2.2.1 ml_M_407.2.2.2.2 (by omega) mm_26 (by omega) (Nat.le_of_ble_eq_true rfl) ?_
  refine vv_istore_n (pc := 5) d_M_isType_5 (Nat.le_of_ble_eq_true rfl) ?_
  refine vv_iload_n (pc := 6) d_M_isType_6 rfl ?_
  refine vv_bipush (pc := 7) (v := (-2)) d_M_isType_7 rfl ?_
  refine vv_icmp_eq (pc := 9) (tgt := 32) d_M_isType_9 rfl (fun hc => ?_) (fun hc => ?_)
  · replace w := w.1 hc
    refine vv_iload_n (pc := 32) d_M_isType_32 rfl ?_
    refine vv_bipush (pc := 33) (v := (-2)) d_M_isType_33 rfl ?_
    refine vv_icmp_ne (pc := 35) (tgt := 42) d_M_isType_35 rfl (fun hc => ?_) (fun hc => ?_)
    · replace w := w.1 hc
      refine vv_iconst (pc := 42) (v := 0) d_M_isType_42 rfl ?_
      obtain ⟨rfl, rfl, hx⟩ := w
      exact vv_zret (pc := 43) d_M_isType_43 rfl hx
    · replace w := w.2 hc
      refine vv_iconst (pc := 38) (v := 1) d_M_isType_38 rfl ?_
      refine vv_goto (pc := 39) (tgt := 43) d_M_isType_39 rfl ?_
      obtain ⟨rfl, rfl, hx⟩ := w
      exact vv_zret (pc := 43) d_M_isType_43 rfl hx
  · replace w := w.2 hc
    refine vv_iload_n (pc := 12) d_M_isType_12 rfl ?_
    refine vv_iconst (pc := 13) (v := (-1)) d_M_isType_13 rfl ?_
    refine vv_icmp_eq (pc := 14) (tgt := 32) d_M_isType_14 rfl (fun hc => ?_) (fun hc => ?_)
    · replace w := w.1 hc
      refine vv_iload_n (pc := 32) d_M_isType_32 rfl ?_
      refine vv_bipush (pc := 33) (v := (-2)) d_M_isType_33 rfl ?_
      refine vv_icmp_ne (pc := 35) (tgt := 42) d_M_isType_35 rfl (fun hc => ?_) (fun hc => ?_)
      · replace w := w.1 hc
        refine vv_iconst (pc := 42) (v := 0) d_M_isType_42 rfl ?_
        obtain ⟨rfl, rfl, hx⟩ := w
        exact vv_zret (pc := 43) d_M_isType_43 rfl hx
      · replace w := w.2 hc
        refine vv_iconst (pc := 38) (v := 1) d_M_isType_38 rfl ?_
        refine vv_goto (pc := 39) (tgt := 43) d_M_isType_39 rfl ?_
        obtain ⟨rfl, rfl, hx⟩ := w
        exact vv_zret (pc := 43) d_M_isType_43 rfl hx
    · replace w := w.2 hc
      refine vv_aload_n (pc := 17) d_M_isType_17 rfl ?_
      refine vv_aload_n (pc := 18) d_M_isType_18 rfl ?_
      refine ww_gr (pc := 19) 21 42 d_M_isType_19 fl_M_55 (by omega) rfl (by decide) ?_
      refine vv_iload_n (pc := 22) d_M_isType_22 rfl ?_
      refine vv_aload_n (pc := 23) d_M_isType_23 rfl ?_
      refine ww_gi (pc := 24) 20 d_M_isType_24 fl_M_197 (by omega) rfl ?_
      refine vv_isub (pc := 27) d_M_isType_27 ?_
      obtain ⟨b4, w⟩ := w
      refine ww_ld (pc := 28) 42 d_M_isType_28 (by omega) (by decide) b4 ?_
      refine ww_pi (pc := 29) 59 d_M_isType_29 fl_M_367 (by omega) rfl rfl rfl rfl ?_
      refine vv_iload_n (pc := 32) d_M_isType_32 rfl ?_
      refine vv_bipush (pc := 33) (v := (-2)) d_M_isType_33 rfl ?_
      refine vv_icmp_ne (pc := 35) (tgt := 42) d_M_isType_35 rfl (fun hc => ?_) (fun hc => ?_)
      · replace w := w.1 hc
        refine vv_iconst (pc := 42) (v := 0) d_M_isType_42 rfl ?_
        obtain ⟨rfl, rfl, hx⟩ := w
        exact vv_zret (pc := 43) d_M_isType_43 rfl hx
      · replace w := w.2 hc
        refine vv_iconst (pc := 38) (v := 1) d_M_isType_38 rfl ?_
        refine vv_goto (pc := 39) (tgt := 43) d_M_isType_39 rfl ?_
        obtain ⟨rfl, rfl, hx⟩ := w
        exact vv_zret (pc := 43) d_M_isType_43 rfl hx
theorem c_M_isType {o : Option Value} {S' S : cp_S} {x1 : Int32} (w : JJ 8 m_M_isType o S' 0 [(1, .int x1)] S) : MC 8 m_M_isType [.int x1] S o S' := fun G h n z d hn hd => cp_C.of rfl (Nat.le_of_ble_eq_true rfl) (w G h n z d hn hd)
def wp_M_isRightCondition_0 (o : Option Value) (S' : cp_S) (S : cp_S) (x1 : Int32) : Prop := vp_in x1 (cp_ml 45) ∧ vp_in ((S.2 45) (Int32.toNatClampNeg x1)) (cp_ml 30) ∧ ((¬ (((S.2 30) (Int32.toNatClampNeg ((S.2 45) (Int32.toNatClampNeg x1)))) : Int32) = 2 → vp_in x1 (cp_ml 48) ∧ (o = some (.int 0) ∧ S' = ((va_up S.1 59 ((S.2 48) (Int32.toNatClampNeg x1))), S.2) ∧ narrow .boolean (.int 0) = .int 0)) ∧ ((((S.2 30) (Int32.toNatClampNeg ((S.2 45) (Int32.toNatClampNeg x1)))) : Int32) = 2 → vp_in ((S.2 45) (Int32.toNatClampNeg x1)) (cp_ml 31) ∧ vp_in x1 (cp_ml 47) ∧ (((((S.2 31) (Int32.toNatClampNeg ((S.2 45) (Int32.toNatClampNeg x1)))) : Int32) = ((S.2 47) (Int32.toNatClampNeg x1)) → vp_in x1 (cp_ml 46) ∧ JJ 8 m_M_isRightCondition o S' 54 [(1, .int x1), (2, .int ((S.2 45) (Int32.toNatClampNeg x1))), (3, .int ((S.2 46) (Int32.toNatClampNeg x1))), (4, .int 0)] S) ∧ (¬ (((S.2 31) (Int32.toNatClampNeg ((S.2 45) (Int32.toNatClampNeg x1)))) : Int32) = ((S.2 47) (Int32.toNatClampNeg x1)) → vp_in x1 (cp_ml 48) ∧ (o = some (.int 0) ∧ S' = ((va_up S.1 59 ((S.2 48) (Int32.toNatClampNeg x1))), S.2) ∧ narrow .boolean (.int 0) = .int 0)))))
theorem b_M_isRightCondition_0 {o : Option Value} {S' S : cp_S} {x1 : Int32} (w : wp_M_isRightCondition_0 o S' S x1) : JJ 8 m_M_isRightCondition o S' 0 [(1, .int x1)] S := by
  unfold wp_M_isRightCondition_0 at w
  intro G h n z d hn hd
  refine vv_aload_n (pc := 0) d_M_isRightCondition_0 rfl ?_
  refine ww_gr (pc := 1) 25 45 d_M_isRightCondition_1 fl_M_64 (by omega) rfl (by decide) ?_
  refine vv_iload_n (pc := 4) d_M_isRightCondition_4 rfl ?_
  obtain ⟨b1, w⟩ := w
  refine ww_ld (pc := 5) 45 d_M_isRightCondition_5 (by omega) (by decide) b1 ?_
  refine vv_istore_n (pc := 6) d_M_isRightCondition_6 (Nat.le_of_ble_eq_true rfl) ?_
  refine vv_aload_n (pc := 7) d_M_isRightCondition_7 rfl ?_
  refine ww_gr (pc := 8) 6 30 d_M_isRightCondition_8 fl_M_19 (by omega) rfl (by decide) ?_
  refine vv_iload_n (pc := 11) d_M_isRightCondition_11 rfl ?_
  obtain ⟨b2, w⟩ := w
  refine ww_ld (pc := 12) 30 d_M_isRightCondition_12 (by omega) (by decide) b2 ?_
  refine vv_iconst (pc := 13) (v := 2) d_M_isRightCondition_13 rfl ?_
  refine vv_icmp_ne (pc := 14) (tgt := 32) d_M_isRightCondition_14 rfl (fun hc => ?_) (fun hc => ?_)
  · replace w := w.1 hc
    refine vv_aload_n (pc := 32) d_M_isRightCondition_32 rfl ?_
    refine vv_aload_n (pc := 33) d_M_isRightCondition_33 rfl ?_
    refine ww_gr (pc := 34) 28 48 d_M_isRightCondition_34 fl_M_73 (by omega) rfl (by decide) ?_
    refine vv_iload_n (pc := 37) d_M_isRightCondition_37 rfl ?_
    obtain ⟨b3, w⟩ := w
    refine ww_ld (pc := 38) 48 d_M_isRightCondition_38 (by omega) (by decide) b3 ?_
    refine ww_pi (pc := 39) 59 d_M_isRightCondition_39 fl_M_367 (by omega) rfl rfl rfl rfl ?_
    refine vv_iconst (pc := 42) (v := 0) d_M_isRightCondition_42 rfl ?_
    obtain ⟨rfl, rfl, hx⟩ := w
    exact vv_zret (pc := 43) d_M_isRightCondition_43 rfl hx
  · replace w := w.2 hc
    refine vv_aload_n (pc := 17) d_M_isRightCondition_17 rfl ?_
    refine ww_gr (pc := 18) 7 31 d_M_isRightCondition_18 fl_M_22 (by omega) rfl (by decide) ?_
    refine vv_iload_n (pc := 21) d_M_isRightCondition_21 rfl ?_
    obtain ⟨b4, w⟩ := w
    refine ww_ld (pc := 22) 31 d_M_isRightCondition_22 (by omega) (by decide) b4 ?_
    refine vv_aload_n (pc := 23) d_M_isRightCondition_23 rfl ?_
    refine ww_gr (pc := 24) 27 47 d_M_isRightCondition_24 fl_M_70 (by omega) rfl (by decide) ?_
    refine vv_iload_n (pc := 27) d_M_isRightCondition_27 rfl ?_
    obtain ⟨b5, w⟩ := w
    refine ww_ld (pc := 28) 47 d_M_isRightCondition_28 (by omega) (by decide) b5 ?_
    refine vv_icmp_eq (pc := 29) (tgt := 44) d_M_isRightCondition_29 rfl (fun hc => ?_) (fun hc => ?_)
    · replace w := w.1 hc
      refine vv_aload_n (pc := 44) d_M_isRightCondition_44 rfl ?_
      refine ww_gr (pc := 45) 26 46 d_M_isRightCondition_45 fl_M_67 (by omega) rfl (by decide) ?_
      refine vv_iload_n (pc := 48) d_M_isRightCondition_48 rfl ?_
      obtain ⟨b6, w⟩ := w
      refine ww_ld (pc := 49) 46 d_M_isRightCondition_49 (by omega) (by decide) b6 ?_
      refine vv_istore_n (pc := 50) d_M_isRightCondition_50 (Nat.le_of_ble_eq_true rfl) ?_
      refine vv_iconst (pc := 51) (v := 0) d_M_isRightCondition_51 rfl ?_
      refine vv_istore (pc := 52) d_M_isRightCondition_52 (Nat.le_of_ble_eq_true rfl) ?_
      exact vv_sub [3, 4, 2, 1, 0] rfl (w G h n z d hn hd)
    · replace w := w.2 hc
      refine vv_aload_n (pc := 32) d_M_isRightCondition_32 rfl ?_
      refine vv_aload_n (pc := 33) d_M_isRightCondition_33 rfl ?_
      refine ww_gr (pc := 34) 28 48 d_M_isRightCondition_34 fl_M_73 (by omega) rfl (by decide) ?_
      refine vv_iload_n (pc := 37) d_M_isRightCondition_37 rfl ?_
      obtain ⟨b7, w⟩ := w
      refine ww_ld (pc := 38) 48 d_M_isRightCondition_38 (by omega) (by decide) b7 ?_
      refine ww_pi (pc := 39) 59 d_M_isRightCondition_39 fl_M_367 (by omega) rfl rfl rfl rfl ?_
      refine vv_iconst (pc := 42) (v := 0) d_M_isRightCondition_42 rfl ?_
      obtain ⟨rfl, rfl, hx⟩ := w
      exact vv_zret (pc := 43) d_M_isRightCondition_43 rfl hx
theorem c_M_isRightCondition {o : Option Value} {S' S : cp_S} {x1 : Int32} (w : JJ 8 m_M_isRightCondition o S' 0 [(1, .int x1)] S) : MC 8 m_M_isRightCondition [.int x1] S o S' := fun G h n z d hn hd => cp_C.of rfl (Nat.le_of_ble_eq_true rfl) (w G h n z d hn hd)
def wp_M_isRightCondition_54 (o : Option Value) (S' : cp_S) (S : cp_S) (x1 : Int32) (x2 : Int32) (x3 : Int32) (x4 : Int32) : Prop := vp_in x1 (cp_ml 47) ∧ ((((S.2 47) (Int32.toNatClampNeg x1)) < (x4 : Int32) → (o = some (.int 1) ∧ S' = S ∧ narrow .boolean (.int 1) = .int 1)) ∧ (¬ ((S.2 47) (Int32.toNatClampNeg x1)) < (x4 : Int32) → ∃ r4 T3, MC 7 m_M_typeOf [.int x3] S (some (.int r4)) T3 ∧ ((¬ (r4 : Int32) = (-1) → ∃ r7 T6, MC 1 m_M_behind [.int x3] T3 (some (.int r7)) T6 ∧ JJ 8 m_M_isRightCondition o S' 54 [(1, .int x1), (2, .int x2), (3, .int r7), (4, .int (x4 + 1))] T6) ∧ ((r4 : Int32) = (-1) → (o = some (.int 0) ∧ S' = T3 ∧ narrow .boolean (.int 0) = .int 0)))))
theorem b_M_isRightCondition_54 {o : Option Value} {S' S : cp_S} {x1 : Int32} {x2 : Int32} {x3 : Int32} {x4 : Int32} (w : wp_M_isRightCondition_54 o S' S x1 x2 x3 x4) : JJ 8 m_M_isRightCondition o S' 54 [(1, .int x1), (2, .int x2), (3, .int x3), (4, .int x4)] S := by
  unfold wp_M_isRightCondition_54 at w
  intro G h n z d hn hd
  refine vv_iload (pc := 54) d_M_isRightCondition_54 rfl ?_
  refine vv_aload_n (pc := 56) d_M_isRightCondition_56 rfl ?_
  refine ww_gr (pc := 57) 27 47 d_M_isRightCondition_57 fl_M_70 (by omega) rfl (by decide) ?_
  refine vv_iload_n (pc := 60) d_M_isRightCondition_60 rfl ?_
  obtain ⟨b1, w⟩ := w
  refine ww_ld (pc := 61) 47 d_M_isRightCondition_61 (by omega) (by decide) b1 ?_
  refine vv_icmp_gt (pc := 62) (tgt := 88) d_M_isRightCondition_62 rfl (fun hc => ?_) (fun hc => ?_)
  · replace w := w.1 hc
    refine vv_iconst (pc := 88) (v := 1) d_M_isRightCondition_88 rfl ?_
    obtain ⟨rfl, rfl, hx⟩ := w
    exact vv_zret (pc := 89) d_M_isRightCondition_89 rfl hx
  · replace w := w.2 hc
    refine vv_aload_n (pc := 65) d_M_isRightCondition_65 rfl ?_
    refine vv_iload_n (pc := 66) d_M_isRightCondition_66 rfl ?_
    obtain ⟨r4, T3, c2, w⟩ := w
    refine vv_callV (pc := 67) (As := [.int x3]) d_M_isRightCondition_67 (c2 G h n z (d - 1) hn (by omega)) k_M_typeOf ml_M_407.1 ml_M_407.2.1 ml_M_407.2.2.1 ml_M_407.2.2.2.1 ml_M_407.2.2.2.2 (by omega) mm_26 (by omega) (Nat.le_of_ble_eq_true rfl) ?_
    refine vv_iconst (pc := 70) (v := (-1)) d_M_isRightCondition_70 rfl ?_
    refine vv_icmp_ne (pc := 71) (tgt := 76) d_M_isRightCondition_71 rfl (fun hc => ?_) (fun hc => ?_)
    · replace w := w.1 hc
      refine vv_aload_n (pc := 76) d_M_isRightCondition_76 rfl ?_
      refine vv_iload_n (pc := 77) d_M_isRightCondition_77 rfl ?_
      obtain ⟨r7, T6, c5, w⟩ := w
      refine vv_callV (pc := 78) (As := [.int x3]) d_M_isRightCondition_78 (c5 G h n z (d - 1) hn (by omega)) k_M_behind ml_M_268.1 ml_M_268.2.1 ml_M_268.2.2.1 ml_M_268.2.2.2.1 ml_M_268.2.2.2.2 (by omega) mm_26 (by omega) (Nat.le_of_ble_eq_true rfl) ?_
      refine vv_istore_n (pc := 81) d_M_isRightCondition_81 (Nat.le_of_ble_eq_true rfl) ?_
      refine vv_iinc (pc := 82) (v := (x4 + 1)) d_M_isRightCondition_82 rfl rfl (Nat.le_of_ble_eq_true rfl) ?_
      refine vv_goto (pc := 85) (tgt := 54) d_M_isRightCondition_85 rfl ?_
      exact vv_sub [2, 3, 4, 1, 0] rfl (w G h n z d hn hd)
    · replace w := w.2 hc
      refine vv_iconst (pc := 74) (v := 0) d_M_isRightCondition_74 rfl ?_
      obtain ⟨rfl, rfl, hx⟩ := w
      exact vv_zret (pc := 75) d_M_isRightCondition_75 rfl hx
def wp_M_isRight_0 (o : Option Value) (S' : cp_S) (S : cp_S) (x1 : Int32) : Prop := ∃ T2, MC 0 m_M_nothing [] S none T2 ∧ ∃ T4, MC 0 m_M_noNames [] T2 none T4 ∧ JJ 9 m_M_isRight o S' 25 [(1, .int x1), (2, .int 1), (3, .int (T4.1 23))] ((va_up (va_up T4.1 61 0) 58 1), T4.2)
theorem b_M_isRight_0 {o : Option Value} {S' S : cp_S} {x1 : Int32} (w : wp_M_isRight_0 o S' S x1) : JJ 9 m_M_isRight o S' 0 [(1, .int x1)] S := by
  unfold wp_M_isRight_0 at w
  intro G h n z d hn hd
  refine vv_aload_n (pc := 0) d_M_isRight_0 rfl ?_
  obtain ⟨T2, c1, w⟩ := w
  refine vv_callV (pc := 1) (As := []) d_M_isRight_1 (c1 G h n z (d - 1) hn (by omega)) k_M_nothing ml_M_410.1 ml_M_410.2.1 ml_M_410.2.2.1 ml_M_410.2.2.2.1 ml_M_410.2.2.2.2 (by omega) mm_26 (by omega) (Nat.le_of_ble_eq_true rfl) ?_
  refine vv_aload_n (pc := 4) d_M_isRight_4 rfl ?_
  obtain ⟨T4, c3, w⟩ := w
  refine vv_callV (pc := 5) (As := []) d_M_isRight_5 (c3 G h n z (d - 1) hn (by omega)) k_M_noNames ml_M_413.1 ml_M_413.2.1 ml_M_413.2.2.1 ml_M_413.2.2.2.1 ml_M_413.2.2.2.2 (by omega) mm_26 (by omega) (Nat.le_of_ble_eq_true rfl) ?_
  refine vv_aload_n (pc := 8) d_M_isRight_8 rfl ?_
  refine vv_iconst (pc := 9) (v := 0) d_M_isRight_9 rfl ?_
  refine ww_pi (pc := 10) 61 d_M_isRight_10 fl_M_320 (by omega) rfl rfl rfl rfl ?_
  refine vv_aload_n (pc := 13) d_M_isRight_13 rfl ?_
  refine vv_iconst (pc := 14) (v := 1) d_M_isRight_14 rfl ?_
  refine ww_pi (pc := 15) 58 d_M_isRight_15 fl_M_373 (by omega) rfl rfl rfl rfl ?_
  refine vv_iconst (pc := 18) (v := 1) d_M_isRight_18 rfl ?_
  refine vv_istore_n (pc := 19) d_M_isRight_19 (Nat.le_of_ble_eq_true rfl) ?_
  refine vv_aload_n (pc := 20) d_M_isRight_20 rfl ?_
  refine ww_gi (pc := 21) 23 d_M_isRight_21 fl_M_253 (by omega) rfl ?_
  refine vv_istore_n (pc := 24) d_M_isRight_24 (Nat.le_of_ble_eq_true rfl) ?_
  exact vv_sub [2, 3, 1, 0] rfl (w G h n z d hn hd)
theorem c_M_isRight {o : Option Value} {S' S : cp_S} {x1 : Int32} (w : JJ 9 m_M_isRight o S' 0 [(1, .int x1)] S) : MC 9 m_M_isRight [.int x1] S o S' := fun G h n z d hn hd => cp_C.of rfl (Nat.le_of_ble_eq_true rfl) (w G h n z d hn hd)
def wp_M_isRight_25 (o : Option Value) (S' : cp_S) (S : cp_S) (x1 : Int32) (x2 : Int32) (x3 : Int32) : Prop := (((S.1 33) ≤ (x3 : Int32) → JJ 9 m_M_isRight o S' 135 [(1, .int x1), (2, .int x2), (3, .int x3)] S) ∧ (¬ (S.1 33) ≤ (x3 : Int32) → (((x2 : Int32) = 0 → JJ 9 m_M_isRight o S' 135 [(1, .int x1), (2, .int x2), (3, .int x3)] S) ∧ (¬ (x2 : Int32) = 0 → vp_in x3 (cp_ml 44) ∧ ((¬ (((S.2 44) (Int32.toNatClampNeg x3)) : Int32) = 2 → vp_in x3 (cp_ml 46) ∧ ∃ r5 T4, MC 8 m_M_isType [.int ((S.2 46) (Int32.toNatClampNeg x3))] ((va_up S.1 61 ((S.1 61) + 1)), S.2) (some (.int r5)) T4 ∧ (((r5 : Int32) = 0 → JJ 9 m_M_isRight o S' 129 [(1, .int x1), (2, .int r5), (3, .int x3)] T4) ∧ (¬ (r5 : Int32) = 0 → vp_in x3 (cp_ml 44) ∧ ((¬ (((T4.2 44) (Int32.toNatClampNeg x3)) : Int32) = 0 → JJ 9 m_M_isRight o S' 129 [(1, .int x1), (2, .int r5), (3, .int x3)] T4) ∧ ((((T4.2 44) (Int32.toNatClampNeg x3)) : Int32) = 0 → vp_in x3 (cp_ml 45) ∧ vp_in x3 (cp_ml 46) ∧ ∃ r11 T10, MC 2 m_M_valueOf [.int ((T4.2 46) (Int32.toNatClampNeg x3)), .int 0] T4 (some (.int r11)) T10 ∧ vp_in ((T4.2 45) (Int32.toNatClampNeg x3)) (cp_ml 64) ∧ vp_in x3 (cp_ml 45) ∧ ∃ r16 T15, MC 0 m_M_value [.int 4, .int x3] (T10.1, (va_up T10.2 64 (upd (T10.2 64) (Int32.toNatClampNeg ((T4.2 45) (Int32.toNatClampNeg x3))) r11))) (some (.int r16)) T15 ∧ vp_in ((T10.2 45) (Int32.toNatClampNeg x3)) (cp_ml 63) ∧ JJ 9 m_M_isRight o S' 129 [(1, .int x1), (2, .int r5), (3, .int x3)] (T15.1, (va_up T15.2 63 (upd (T15.2 63) (Int32.toNatClampNeg ((T10.2 45) (Int32.toNatClampNeg x3))) r16)))))))) ∧ ((((S.2 44) (Int32.toNatClampNeg x3)) : Int32) = 2 → ∃ r20 T19, MC 8 m_M_isRightCondition [.int x3] S (some (.int r20)) T19 ∧ JJ 9 m_M_isRight o S' 129 [(1, .int x1), (2, .int r20), (3, .int x3)] T19))))))
theorem b_M_isRight_25 {o : Option Value} {S' S : cp_S} {x1 : Int32} {x2 : Int32} {x3 : Int32} (w : wp_M_isRight_25 o S' S x1 x2 x3) : JJ 9 m_M_isRight o S' 25 [(1, .int x1), (2, .int x2), (3, .int x3)] S := by
  unfold wp_M_isRight_25 at w
  intro G h n z d hn hd
  refine vv_iload_n (pc := 25) d_M_isRight_25 rfl ?_
  refine vv_aload_n (pc := 26) d_M_isRight_26 rfl ?_
  refine ww_gi (pc := 27) 33 d_M_isRight_27 fl_M_222 (by omega) rfl ?_
  refine vv_icmp_ge (pc := 30) (tgt := 135) d_M_isRight_30 rfl (fun hc => ?_) (fun hc => ?_)
  · replace w := w.1 hc
    exact vv_sub [0, 1, 2, 3] rfl (w G h n z d hn hd)
  · replace w := w.2 hc
    refine vv_iload_n (pc := 33) d_M_isRight_33 rfl ?_
    refine vv_if_eq (pc := 34) (tgt := 135) d_M_isRight_34 rfl (fun hc => ?_) (fun hc => ?_)
    · replace w := w.1 hc
      exact vv_sub [0, 1, 2, 3] rfl (w G h n z d hn hd)
    · replace w := w.2 hc
      refine vv_aload_n (pc := 37) d_M_isRight_37 rfl ?_
      refine ww_gr (pc := 38) 24 44 d_M_isRight_38 fl_M_61 (by omega) rfl (by decide) ?_
      refine vv_iload_n (pc := 41) d_M_isRight_41 rfl ?_
      obtain ⟨b1, w⟩ := w
      refine ww_ld (pc := 42) 44 d_M_isRight_42 (by omega) (by decide) b1 ?_
      refine vv_iconst (pc := 43) (v := 2) d_M_isRight_43 rfl ?_
      refine vv_icmp_ne (pc := 44) (tgt := 56) d_M_isRight_44 rfl (fun hc => ?_) (fun hc => ?_)
      · replace w := w.1 hc
        refine vv_aload_n (pc := 56) d_M_isRight_56 rfl ?_
        refine vv_dup (pc := 57) d_M_isRight_57 rfl ?_
        refine ww_gi (pc := 58) 61 d_M_isRight_58 fl_M_320 (by omega) rfl ?_
        refine vv_iconst (pc := 61) (v := 1) d_M_isRight_61 rfl ?_
        refine vv_iadd (pc := 62) d_M_isRight_62 ?_
        refine ww_pi (pc := 63) 61 d_M_isRight_63 fl_M_320 (by omega) rfl rfl rfl rfl ?_
        refine vv_aload_n (pc := 66) d_M_isRight_66 rfl ?_
        refine vv_aload_n (pc := 67) d_M_isRight_67 rfl ?_
        refine ww_gr (pc := 68) 26 46 d_M_isRight_68 fl_M_67 (by omega) rfl (by decide) ?_
        refine vv_iload_n (pc := 71) d_M_isRight_71 rfl ?_
        obtain ⟨b2, w⟩ := w
        refine ww_ld (pc := 72) 46 d_M_isRight_72 (by omega) (by decide) b2 ?_
        obtain ⟨r5, T4, c3, w⟩ := w
        refine vv_callV (pc := 73) (As := [.int ((S.2 46) (Int32.toNatClampNeg x3))]) d_M_isRight_73 (c3 G h n z (d - 1) hn (by omega)) k_M_isType ml_M_419.1 ml_M_419.2.1 ml_M_419.2.2.1 ml_M_419.2.2.2.1 ml_M_419.2.2.2.2 (by omega) mm_26 (by omega) (Nat.le_of_ble_eq_true rfl) ?_
        refine vv_istore_n (pc := 76) d_M_isRight_76 (Nat.le_of_ble_eq_true rfl) ?_
        refine vv_iload_n (pc := 77) d_M_isRight_77 rfl ?_
        refine vv_if_eq (pc := 78) (tgt := 129) d_M_isRight_78 rfl (fun hc => ?_) (fun hc => ?_)
        · replace w := w.1 hc
          exact vv_sub [1, 2, 0, 3] rfl (w G h n z d hn hd)
        · replace w := w.2 hc
          refine vv_aload_n (pc := 81) d_M_isRight_81 rfl ?_
          refine ww_gr (pc := 82) 24 44 d_M_isRight_82 fl_M_61 (by omega) rfl (by decide) ?_
          refine vv_iload_n (pc := 85) d_M_isRight_85 rfl ?_
          obtain ⟨b6, w⟩ := w
          refine ww_ld (pc := 86) 44 d_M_isRight_86 (by omega) (by decide) b6 ?_
          refine vv_if_ne (pc := 87) (tgt := 129) d_M_isRight_87 rfl (fun hc => ?_) (fun hc => ?_)
          · replace w := w.1 hc
            exact vv_sub [1, 2, 0, 3] rfl (w G h n z d hn hd)
          · replace w := w.2 hc
            refine vv_aload_n (pc := 90) d_M_isRight_90 rfl ?_
            refine ww_gr (pc := 91) 51 64 d_M_isRight_91 fl_M_121 (by omega) rfl (by decide) ?_
            refine vv_aload_n (pc := 94) d_M_isRight_94 rfl ?_
            refine ww_gr (pc := 95) 25 45 d_M_isRight_95 fl_M_64 (by omega) rfl (by decide) ?_
            refine vv_iload_n (pc := 98) d_M_isRight_98 rfl ?_
            obtain ⟨b7, w⟩ := w
            refine ww_ld (pc := 99) 45 d_M_isRight_99 (by omega) (by decide) b7 ?_
            refine vv_aload_n (pc := 100) d_M_isRight_100 rfl ?_
            refine vv_aload_n (pc := 101) d_M_isRight_101 rfl ?_
            refine ww_gr (pc := 102) 26 46 d_M_isRight_102 fl_M_67 (by omega) rfl (by decide) ?_
            refine vv_iload_n (pc := 105) d_M_isRight_105 rfl ?_
            obtain ⟨b8, w⟩ := w
            refine ww_ld (pc := 106) 46 d_M_isRight_106 (by omega) (by decide) b8 ?_
            refine vv_iconst (pc := 107) (v := 0) d_M_isRight_107 rfl ?_
            obtain ⟨r11, T10, c9, w⟩ := w
            refine vv_callV (pc := 108) (As := [.int ((T4.2 46) (Int32.toNatClampNeg x3)), .int 0]) d_M_isRight_108 (c9 G h n z (d - 1) hn (by omega)) k_M_valueOf ml_M_379.1 ml_M_379.2.1 ml_M_379.2.2.1 ml_M_379.2.2.2.1 ml_M_379.2.2.2.2 (by omega) mm_26 (by omega) (Nat.le_of_ble_eq_true rfl) ?_
            obtain ⟨b12, w⟩ := w
            refine ww_st (pc := 111) 64 d_M_isRight_111 (by omega) (by decide) b12 ?_
            refine vv_aload_n (pc := 112) d_M_isRight_112 rfl ?_
            refine ww_gr (pc := 113) 50 63 d_M_isRight_113 fl_M_118 (by omega) rfl (by decide) ?_
            refine vv_aload_n (pc := 116) d_M_isRight_116 rfl ?_
            refine ww_gr (pc := 117) 25 45 d_M_isRight_117 fl_M_64 (by omega) rfl (by decide) ?_
            refine vv_iload_n (pc := 120) d_M_isRight_120 rfl ?_
            obtain ⟨b13, w⟩ := w
            refine ww_ld (pc := 121) 45 d_M_isRight_121 (by omega) (by decide) b13 ?_
            refine vv_aload_n (pc := 122) d_M_isRight_122 rfl ?_
            refine vv_iconst (pc := 123) (v := 4) d_M_isRight_123 rfl ?_
            refine vv_iload_n (pc := 124) d_M_isRight_124 rfl ?_
            obtain ⟨r16, T15, c14, w⟩ := w
            refine vv_callV (pc := 125) (As := [.int 4, .int x3]) d_M_isRight_125 (c14 G h n z (d - 1) hn (by omega)) k_M_value ml_M_271.1 ml_M_271.2.1 ml_M_271.2.2.1 ml_M_271.2.2.2.1 ml_M_271.2.2.2.2 (by omega) mm_26 (by omega) (Nat.le_of_ble_eq_true rfl) ?_
            obtain ⟨b17, w⟩ := w
            refine ww_st (pc := 128) 63 d_M_isRight_128 (by omega) (by decide) b17 ?_
            exact vv_sub [1, 2, 0, 3] rfl (w G h n z d hn hd)
      · replace w := w.2 hc
        refine vv_aload_n (pc := 47) d_M_isRight_47 rfl ?_
        refine vv_iload_n (pc := 48) d_M_isRight_48 rfl ?_
        obtain ⟨r20, T19, c18, w⟩ := w
        refine vv_callV (pc := 49) (As := [.int x3]) d_M_isRight_49 (c18 G h n z (d - 1) hn (by omega)) k_M_isRightCondition ml_M_416.1 ml_M_416.2.1 ml_M_416.2.2.1 ml_M_416.2.2.2.1 ml_M_416.2.2.2.2 (by omega) mm_26 (by omega) (Nat.le_of_ble_eq_true rfl) ?_
        refine vv_istore_n (pc := 52) d_M_isRight_52 (Nat.le_of_ble_eq_true rfl) ?_
        refine vv_goto (pc := 53) (tgt := 129) d_M_isRight_53 rfl ?_
        exact vv_sub [1, 2, 0, 3] rfl (w G h n z d hn hd)
def wp_M_isRight_129 (o : Option Value) (S' : cp_S) (S : cp_S) (x1 : Int32) (x2 : Int32) (x3 : Int32) : Prop := JJ 9 m_M_isRight o S' 25 [(1, .int x1), (2, .int x2), (3, .int (x3 + 1))] S
theorem b_M_isRight_129 {o : Option Value} {S' S : cp_S} {x1 : Int32} {x2 : Int32} {x3 : Int32} (w : wp_M_isRight_129 o S' S x1 x2 x3) : JJ 9 m_M_isRight o S' 129 [(1, .int x1), (2, .int x2), (3, .int x3)] S := by
  unfold wp_M_isRight_129 at w
  intro G h n z d hn hd
  refine vv_iinc (pc := 129) (v := (x3 + 1)) d_M_isRight_129 rfl rfl (Nat.le_of_ble_eq_true rfl) ?_
  refine vv_goto (pc := 132) (tgt := 25) d_M_isRight_132 rfl ?_
  exact vv_sub [1, 2, 3, 0] rfl (w G h n z d hn hd)
def wp_M_isRight_135 (o : Option Value) (S' : cp_S) (S : cp_S) (x1 : Int32) (x2 : Int32) (x3 : Int32) : Prop := (((x2 : Int32) = 0 → (o = some (.int 0) ∧ S' = ((va_up S.1 58 0), S.2) ∧ narrow .boolean (.int 0) = .int 0)) ∧ (¬ (x2 : Int32) = 0 → (((x1 : Int32) = (-2) → (o = some (.int 1) ∧ S' = ((va_up S.1 58 0), S.2) ∧ narrow .boolean (.int 1) = .int 1)) ∧ (¬ (x1 : Int32) = (-2) → ∃ r3 T2, MC 8 m_M_isType [.int x1] S (some (.int r3)) T2 ∧ (((r3 : Int32) = 0 → (o = some (.int 0) ∧ S' = ((va_up T2.1 58 0), T2.2) ∧ narrow .boolean (.int 0) = .int 0)) ∧ (¬ (r3 : Int32) = 0 → (o = some (.int 1) ∧ S' = ((va_up T2.1 58 0), T2.2) ∧ narrow .boolean (.int 1) = .int 1)))))))
theorem b_M_isRight_135 {o : Option Value} {S' S : cp_S} {x1 : Int32} {x2 : Int32} {x3 : Int32} (w : wp_M_isRight_135 o S' S x1 x2 x3) : JJ 9 m_M_isRight o S' 135 [(1, .int x1), (2, .int x2), (3, .int x3)] S := by
  unfold wp_M_isRight_135 at w
  intro G h n z d hn hd
  refine vv_iload_n (pc := 135) d_M_isRight_135 rfl ?_
  refine vv_if_eq (pc := 136) (tgt := 157) d_M_isRight_136 rfl (fun hc => ?_) (fun hc => ?_)
  · replace w := w.1 hc
    refine vv_iconst (pc := 157) (v := 0) d_M_isRight_157 rfl ?_
    refine vv_istore_n (pc := 158) d_M_isRight_158 (Nat.le_of_ble_eq_true rfl) ?_
    refine vv_aload_n (pc := 159) d_M_isRight_159 rfl ?_
    refine vv_iconst (pc := 160) (v := 0) d_M_isRight_160 rfl ?_
    refine ww_pi (pc := 161) 58 d_M_isRight_161 fl_M_373 (by omega) rfl rfl rfl rfl ?_
    refine vv_iload_n (pc := 164) d_M_isRight_164 rfl ?_
    obtain ⟨rfl, rfl, hx⟩ := w
    exact vv_zret (pc := 165) d_M_isRight_165 rfl hx
  · replace w := w.2 hc
    refine vv_iload_n (pc := 139) d_M_isRight_139 rfl ?_
    refine vv_bipush (pc := 140) (v := (-2)) d_M_isRight_140 rfl ?_
    refine vv_icmp_eq (pc := 142) (tgt := 153) d_M_isRight_142 rfl (fun hc => ?_) (fun hc => ?_)
    · replace w := w.1 hc
      refine vv_iconst (pc := 153) (v := 1) d_M_isRight_153 rfl ?_
      refine vv_goto (pc := 154) (tgt := 158) d_M_isRight_154 rfl ?_
      refine vv_istore_n (pc := 158) d_M_isRight_158 (Nat.le_of_ble_eq_true rfl) ?_
      refine vv_aload_n (pc := 159) d_M_isRight_159 rfl ?_
      refine vv_iconst (pc := 160) (v := 0) d_M_isRight_160 rfl ?_
      refine ww_pi (pc := 161) 58 d_M_isRight_161 fl_M_373 (by omega) rfl rfl rfl rfl ?_
      refine vv_iload_n (pc := 164) d_M_isRight_164 rfl ?_
      obtain ⟨rfl, rfl, hx⟩ := w
      exact vv_zret (pc := 165) d_M_isRight_165 rfl hx
    · replace w := w.2 hc
      refine vv_aload_n (pc := 145) d_M_isRight_145 rfl ?_
      refine vv_iload_n (pc := 146) d_M_isRight_146 rfl ?_
      obtain ⟨r3, T2, c1, w⟩ := w
      refine vv_callV (pc := 147) (As := [.int x1]) d_M_isRight_147 (c1 G h n z (d - 1) hn (by omega)) k_M_isType ml_M_419.1 ml_M_419.2.1 ml_M_419.2.2.1 ml_M_419.2.2.2.1 ml_M_419.2.2.2.2 (by omega) mm_26 (by omega) (Nat.le_of_ble_eq_true rfl) ?_
      refine vv_if_eq (pc := 150) (tgt := 157) d_M_isRight_150 rfl (fun hc => ?_) (fun hc => ?_)
      · replace w := w.1 hc
        refine vv_iconst (pc := 157) (v := 0) d_M_isRight_157 rfl ?_
        refine vv_istore_n (pc := 158) d_M_isRight_158 (Nat.le_of_ble_eq_true rfl) ?_
        refine vv_aload_n (pc := 159) d_M_isRight_159 rfl ?_
        refine vv_iconst (pc := 160) (v := 0) d_M_isRight_160 rfl ?_
        refine ww_pi (pc := 161) 58 d_M_isRight_161 fl_M_373 (by omega) rfl rfl rfl rfl ?_
        refine vv_iload_n (pc := 164) d_M_isRight_164 rfl ?_
        obtain ⟨rfl, rfl, hx⟩ := w
        exact vv_zret (pc := 165) d_M_isRight_165 rfl hx
      · replace w := w.2 hc
        refine vv_iconst (pc := 153) (v := 1) d_M_isRight_153 rfl ?_
        refine vv_goto (pc := 154) (tgt := 158) d_M_isRight_154 rfl ?_
        refine vv_istore_n (pc := 158) d_M_isRight_158 (Nat.le_of_ble_eq_true rfl) ?_
        refine vv_aload_n (pc := 159) d_M_isRight_159 rfl ?_
        refine vv_iconst (pc := 160) (v := 0) d_M_isRight_160 rfl ?_
        refine ww_pi (pc := 161) 58 d_M_isRight_161 fl_M_373 (by omega) rfl rfl rfl rfl ?_
        refine vv_iload_n (pc := 164) d_M_isRight_164 rfl ?_
        obtain ⟨rfl, rfl, hx⟩ := w
        exact vv_zret (pc := 165) d_M_isRight_165 rfl hx
def wp_M_remember_0 (o : Option Value) (S' : cp_S) (S : cp_S) (x1 : Int32) (x2 : Int32) (x3 : Int32) : Prop := vp_in x1 (cp_ml 30) ∧ vp_in x1 (cp_ml 31) ∧ vp_in (S.1 14) (cp_ml 38) ∧ (o = none ∧ S' = ((va_up S.1 14 ((S.1 14) + 1)), (va_up (va_up (va_up S.2 30 (upd (S.2 30) (Int32.toNatClampNeg x1) x2)) 31 (upd (S.2 31) (Int32.toNatClampNeg x1) x3)) 38 (upd (S.2 38) (Int32.toNatClampNeg (S.1 14)) x1))))
theorem b_M_remember_0 {o : Option Value} {S' S : cp_S} {x1 : Int32} {x2 : Int32} {x3 : Int32} (w : wp_M_remember_0 o S' S x1 x2 x3) : JJ 0 m_M_remember o S' 0 [(1, .int x1), (2, .int x2), (3, .int x3)] S := by
  unfold wp_M_remember_0 at w
  intro G h n z d hn hd
  refine vv_aload_n (pc := 0) d_M_remember_0 rfl ?_
  refine ww_gr (pc := 1) 6 30 d_M_remember_1 fl_M_19 (by omega) rfl (by decide) ?_
  refine vv_iload_n (pc := 4) d_M_remember_4 rfl ?_
  refine vv_iload_n (pc := 5) d_M_remember_5 rfl ?_
  obtain ⟨b1, w⟩ := w
  refine ww_st (pc := 6) 30 d_M_remember_6 (by omega) (by decide) b1 ?_
  refine vv_aload_n (pc := 7) d_M_remember_7 rfl ?_
  refine ww_gr (pc := 8) 7 31 d_M_remember_8 fl_M_22 (by omega) rfl (by decide) ?_
  refine vv_iload_n (pc := 11) d_M_remember_11 rfl ?_
  refine vv_iload_n (pc := 12) d_M_remember_12 rfl ?_
  obtain ⟨b2, w⟩ := w
  refine ww_st (pc := 13) 31 d_M_remember_13 (by omega) (by decide) b2 ?_
  refine vv_aload_n (pc := 14) d_M_remember_14 rfl ?_
  refine ww_gr (pc := 15) 15 38 d_M_remember_15 fl_M_43 (by omega) rfl (by decide) ?_
  refine vv_aload_n (pc := 18) d_M_remember_18 rfl ?_
  refine ww_gi (pc := 19) 14 d_M_remember_19 fl_M_422 (by omega) rfl ?_
  refine vv_iload_n (pc := 22) d_M_remember_22 rfl ?_
  obtain ⟨b3, w⟩ := w
  refine ww_st (pc := 23) 38 d_M_remember_23 (by omega) (by decide) b3 ?_
  refine vv_aload_n (pc := 24) d_M_remember_24 rfl ?_
  refine vv_dup (pc := 25) d_M_remember_25 rfl ?_
  refine ww_gi (pc := 26) 14 d_M_remember_26 fl_M_422 (by omega) rfl ?_
  refine vv_iconst (pc := 29) (v := 1) d_M_remember_29 rfl ?_
  refine vv_iadd (pc := 30) d_M_remember_30 ?_
  refine ww_pi (pc := 31) 14 d_M_remember_31 fl_M_422 (by omega) rfl rfl rfl rfl ?_
  obtain ⟨rfl, rfl⟩ := w
  exact vv_vret (pc := 34) d_M_remember_34 rfl
theorem c_M_remember {o : Option Value} {S' S : cp_S} {x1 : Int32} {x2 : Int32} {x3 : Int32} (w : JJ 0 m_M_remember o S' 0 [(1, .int x1), (2, .int x2), (3, .int x3)] S) : MC 0 m_M_remember [.int x1, .int x2, .int x3] S o S' := fun G h n z d hn hd => cp_C.of rfl (Nat.le_of_ble_eq_true rfl) (w G h n z d hn hd)
def wp_M_declare_0 (o : Option Value) (S' : cp_S) (S : cp_S) (x1 : Int32) : Prop := ∃ r3 T2, MC 1 m_M_mayName [.int x1] S (some (.int r3)) T2 ∧ ((¬ (r3 : Int32) = 0 → ∃ r6 T5, MC 5 m_M_read [.int 203, .int 0, .int 0] T2 (some (.int r6)) T5 ∧ ((0 ≤ (r6 : Int32) → JJ 10 m_M_declare o S' 51 [(1, .int x1), (2, .int (x1 - 65)), (3, .int (T2.1 16)), (4, .int r6), (5, .int (T5.1 34))] T5) ∧ (¬ 0 ≤ (r6 : Int32) → ∃ r9 T8, MC 9 m_M_isRight [.int (T5.1 34)] T5 (some (.int r9)) T8 ∧ ((¬ (r9 : Int32) = 0 → vp_in (x1 - 65) (cp_ml 32) ∧ vp_in (x1 - 65) (cp_ml 33) ∧ vp_in (x1 - 65) (cp_ml 34) ∧ vp_in (x1 - 65) (cp_ml 35) ∧ ∃ T15, MC 0 m_M_remember [.int (x1 - 65), .int 1, .int (T8.1 61)] ((va_up T8.1 23 (T8.1 33)), (va_up (va_up (va_up (va_up T8.2 32 (upd (T8.2 32) (Int32.toNatClampNeg (x1 - 65)) (T2.1 16))) 33 (upd (T8.2 33) (Int32.toNatClampNeg (x1 - 65)) (T8.1 23))) 34 (upd (T8.2 34) (Int32.toNatClampNeg (x1 - 65)) ((T8.1 33) - (T8.1 23)))) 35 (upd (T8.2 35) (Int32.toNatClampNeg (x1 - 65)) (T5.1 34)))) none T15 ∧ (o = some (.int (T15.1 61)) ∧ S' = T15)) ∧ ((r9 : Int32) = 0 → JJ 10 m_M_declare o S' 51 [(1, .int x1), (2, .int (x1 - 65)), (3, .int (T2.1 16)), (4, .int r6), (5, .int (T5.1 34))] T8))))) ∧ ((r3 : Int32) = 0 → (o = some (.int 0) ∧ S' = T2)))
theorem b_M_declare_0 {o : Option Value} {S' S : cp_S} {x1 : Int32} (w : wp_M_declare_0 o S' S x1) : JJ 10 m_M_declare o S' 0 [(1, .int x1)] S := by
  unfold wp_M_declare_0 at w
  intro G h n z d hn hd
  refine vv_aload_n (pc := 0) d_M_declare_0 rfl ?_
  refine vv_iload_n (pc := 1) d_M_declare_1 rfl ?_
  obtain ⟨r3, T2, c1, w⟩ := w
  refine vv_callV (pc := 2) (As := [.int x1]) d_M_declare_2 (c1 G h n z (d - 1) hn (by omega)) k_M_mayName ml_M_425.1 ml_M_425.2.1 ml_M_425.2.2.1 ml_M_425.2.2.2.1 ml_M_425.2.2.2.2 (by omega) mm_26 (by omega) (Nat.le_of_ble_eq_true rfl) ?_
  refine vv_if_ne (pc := 5) (tgt := 10) d_M_declare_5 rfl (fun hc => ?_) (fun hc => ?_)
  · replace w := w.1 hc
    refine vv_iload_n (pc := 10) d_M_declare_10 rfl ?_
    refine vv_bipush (pc := 11) (v := 65) d_M_declare_11 rfl ?_
    refine vv_isub (pc := 13) d_M_declare_13 ?_
    refine vv_istore_n (pc := 14) d_M_declare_14 (Nat.le_of_ble_eq_true rfl) ?_
    refine vv_aload_n (pc := 15) d_M_declare_15 rfl ?_
    refine ww_gi (pc := 16) 16 d_M_declare_16 fl_M_194 (by omega) rfl ?_
    refine vv_istore_n (pc := 19) d_M_declare_19 (Nat.le_of_ble_eq_true rfl) ?_
    refine vv_aload_n (pc := 20) d_M_declare_20 rfl ?_
    refine vv_sipush (pc := 21) (v := 203) d_M_declare_21 rfl ?_
    refine vv_iconst (pc := 24) (v := 0) d_M_declare_24 rfl ?_
    refine vv_iconst (pc := 25) (v := 0) d_M_declare_25 rfl ?_
    obtain ⟨r6, T5, c4, w⟩ := w
    refine vv_callV (pc := 26) (As := [.int 203, .int 0, .int 0]) d_M_declare_26 (c4 G h n z (d - 1) hn (by omega)) k_M_read ml_M_429.1 ml_M_429.2.1 ml_M_429.2.2.1 ml_M_429.2.2.2.1 ml_M_429.2.2.2.2 (by omega) mm_26 (by omega) (Nat.le_of_ble_eq_true rfl) ?_
    refine vv_istore (pc := 29) d_M_declare_29 (Nat.le_of_ble_eq_true rfl) ?_
    refine vv_aload_n (pc := 31) d_M_declare_31 rfl ?_
    refine ww_gi (pc := 32) 34 d_M_declare_32 fl_M_243 (by omega) rfl ?_
    refine vv_istore (pc := 35) d_M_declare_35 (Nat.le_of_ble_eq_true rfl) ?_
    refine vv_iload (pc := 37) d_M_declare_37 rfl ?_
    refine vv_if_ge (pc := 39) (tgt := 51) d_M_declare_39 rfl (fun hc => ?_) (fun hc => ?_)
    · replace w := w.1 hc
      exact vv_sub [4, 5, 3, 2, 1, 0] rfl (w G h n z d hn hd)
    · replace w := w.2 hc
      refine vv_aload_n (pc := 42) d_M_declare_42 rfl ?_
      refine vv_iload (pc := 43) d_M_declare_43 rfl ?_
      obtain ⟨r9, T8, c7, w⟩ := w
      refine vv_callV (pc := 45) (As := [.int (T5.1 34)]) d_M_declare_45 (c7 G h n z (d - 1) hn (by omega)) k_M_isRight ml_M_432.1 ml_M_432.2.1 ml_M_432.2.2.1 ml_M_432.2.2.2.1 ml_M_432.2.2.2.2 (by omega) mm_26 (by omega) (Nat.le_of_ble_eq_true rfl) ?_
      refine vv_if_ne (pc := 48) (tgt := 76) d_M_declare_48 rfl (fun hc => ?_) (fun hc => ?_)
      · replace w := w.1 hc
        refine vv_aload_n (pc := 76) d_M_declare_76 rfl ?_
        refine ww_gr (pc := 77) 8 32 d_M_declare_77 fl_M_25 (by omega) rfl (by decide) ?_
        refine vv_iload_n (pc := 80) d_M_declare_80 rfl ?_
        refine vv_iload_n (pc := 81) d_M_declare_81 rfl ?_
        obtain ⟨b10, w⟩ := w
        refine ww_st (pc := 82) 32 d_M_declare_82 (by omega) (by decide) b10 ?_
        refine vv_aload_n (pc := 83) d_M_declare_83 rfl ?_
        refine ww_gr (pc := 84) 9 33 d_M_declare_84 fl_M_28 (by omega) rfl (by decide) ?_
        refine vv_iload_n (pc := 87) d_M_declare_87 rfl ?_
        refine vv_aload_n (pc := 88) d_M_declare_88 rfl ?_
        refine ww_gi (pc := 89) 23 d_M_declare_89 fl_M_253 (by omega) rfl ?_
        obtain ⟨b11, w⟩ := w
        refine ww_st (pc := 92) 33 d_M_declare_92 (by omega) (by decide) b11 ?_
        refine vv_aload_n (pc := 93) d_M_declare_93 rfl ?_
        refine ww_gr (pc := 94) 10 34 d_M_declare_94 fl_M_31 (by omega) rfl (by decide) ?_
        refine vv_iload_n (pc := 97) d_M_declare_97 rfl ?_
        refine vv_aload_n (pc := 98) d_M_declare_98 rfl ?_
        refine ww_gi (pc := 99) 33 d_M_declare_99 fl_M_222 (by omega) rfl ?_
        refine vv_aload_n (pc := 102) d_M_declare_102 rfl ?_
        refine ww_gi (pc := 103) 23 d_M_declare_103 fl_M_253 (by omega) rfl ?_
        refine vv_isub (pc := 106) d_M_declare_106 ?_
        obtain ⟨b12, w⟩ := w
        refine ww_st (pc := 107) 34 d_M_declare_107 (by omega) (by decide) b12 ?_
        refine vv_aload_n (pc := 108) d_M_declare_108 rfl ?_
        refine ww_gr (pc := 109) 11 35 d_M_declare_109 fl_M_34 (by omega) rfl (by decide) ?_
        refine vv_iload_n (pc := 112) d_M_declare_112 rfl ?_
        refine vv_iload (pc := 113) d_M_declare_113 rfl ?_
        obtain ⟨b13, w⟩ := w
        refine ww_st (pc := 115) 35 d_M_declare_115 (by omega) (by decide) b13 ?_
        refine vv_aload_n (pc := 116) d_M_declare_116 rfl ?_
        refine vv_aload_n (pc := 117) d_M_declare_117 rfl ?_
        refine ww_gi (pc := 118) 33 d_M_declare_118 fl_M_222 (by omega) rfl ?_
        refine ww_pi (pc := 121) 23 d_M_declare_121 fl_M_253 (by omega) rfl rfl rfl rfl ?_
        refine vv_aload_n (pc := 124) d_M_declare_124 rfl ?_
        refine vv_iload_n (pc := 125) d_M_declare_125 rfl ?_
        refine vv_iconst (pc := 126) (v := 1) d_M_declare_126 rfl ?_
        refine vv_aload_n (pc := 127) d_M_declare_127 rfl ?_
        refine ww_gi (pc := 128) 61 d_M_declare_128 fl_M_320 (by omega) rfl ?_
        obtain ⟨T15, c14, w⟩ := w
        refine vv_callV (pc := 131) (As := [.int (x1 - 65), .int 1, .int (T8.1 61)]) d_M_declare_131 (c14 G h n z (d - 1) hn (by omega)) k_M_remember ml_M_435.1 ml_M_435.2.1 ml_M_435.2.2.1 ml_M_435.2.2.2.1 ml_M_435.2.2.2.2 (by omega) mm_26 (by omega) (Nat.le_of_ble_eq_true rfl) ?_
        refine vv_aload_n (pc := 134) d_M_declare_134 rfl ?_
        refine ww_gi (pc := 135) 61 d_M_declare_135 fl_M_320 (by omega) rfl ?_
        obtain ⟨rfl, rfl⟩ := w
        exact vv_iret (pc := 138) d_M_declare_138 rfl
      · replace w := w.2 hc
        exact vv_sub [4, 5, 3, 2, 1, 0] rfl (w G h n z d hn hd)
  · replace w := w.2 hc
    refine vv_iconst (pc := 8) (v := 0) d_M_declare_8 rfl ?_
    obtain ⟨rfl, rfl⟩ := w
    exact vv_iret (pc := 9) d_M_declare_9 rfl
theorem c_M_declare {o : Option Value} {S' S : cp_S} {x1 : Int32} (w : JJ 10 m_M_declare o S' 0 [(1, .int x1)] S) : MC 10 m_M_declare [.int x1] S o S' := fun G h n z d hn hd => cp_C.of rfl (Nat.le_of_ble_eq_true rfl) (w G h n z d hn hd)
def wp_M_declare_51 (o : Option Value) (S' : cp_S) (S : cp_S) (x1 : Int32) (x2 : Int32) (x3 : Int32) (x4 : Int32) (x5 : Int32) : Prop := (((x4 : Int32) < 0 → (o = some (.int ((-100) - (S.1 59))) ∧ S' = ((va_up S.1 16 x3), S.2))) ∧ (¬ (x4 : Int32) < 0 → (o = some (.int ((-1) - x4)) ∧ S' = ((va_up S.1 16 x3), S.2))))
theorem b_M_declare_51 {o : Option Value} {S' S : cp_S} {x1 : Int32} {x2 : Int32} {x3 : Int32} {x4 : Int32} {x5 : Int32} (w : wp_M_declare_51 o S' S x1 x2 x3 x4 x5) : JJ 10 m_M_declare o S' 51 [(1, .int x1), (2, .int x2), (3, .int x3), (4, .int x4), (5, .int x5)] S := by
  unfold wp_M_declare_51 at w
  intro G h n z d hn hd
  refine vv_aload_n (pc := 51) d_M_declare_51 rfl ?_
  refine vv_iload_n (pc := 52) d_M_declare_52 rfl ?_
  refine ww_pi (pc := 53) 16 d_M_declare_53 fl_M_194 (by omega) rfl rfl rfl rfl ?_
  refine vv_iload (pc := 56) d_M_declare_56 rfl ?_
  refine vv_if_lt (pc := 58) (tgt := 68) d_M_declare_58 rfl (fun hc => ?_) (fun hc => ?_)
  · replace w := w.1 hc
    refine vv_bipush (pc := 68) (v := (-100)) d_M_declare_68 rfl ?_
    refine vv_aload_n (pc := 70) d_M_declare_70 rfl ?_
    refine ww_gi (pc := 71) 59 d_M_declare_71 fl_M_367 (by omega) rfl ?_
    refine vv_isub (pc := 74) d_M_declare_74 ?_
    obtain ⟨rfl, rfl⟩ := w
    exact vv_iret (pc := 75) d_M_declare_75 rfl
  · replace w := w.2 hc
    refine vv_iconst (pc := 61) (v := (-1)) d_M_declare_61 rfl ?_
    refine vv_iload (pc := 62) d_M_declare_62 rfl ?_
    refine vv_isub (pc := 64) d_M_declare_64 ?_
    refine vv_goto (pc := 65) (tgt := 75) d_M_declare_65 rfl ?_
    obtain ⟨rfl, rfl⟩ := w
    exact vv_iret (pc := 75) d_M_declare_75 rfl
def wp_M_isBound_0 (o : Option Value) (S' : cp_S) (S : cp_S) (x1 : Int32) (x2 : Int32) (x3 : Int32) : Prop := JJ 2 m_M_isBound o S' 6 [(1, .int x1), (2, .int x2), (3, .int x3), (4, .int 0), (5, .int 0)] S
theorem b_M_isBound_0 {o : Option Value} {S' S : cp_S} {x1 : Int32} {x2 : Int32} {x3 : Int32} (w : wp_M_isBound_0 o S' S x1 x2 x3) : JJ 2 m_M_isBound o S' 0 [(1, .int x1), (2, .int x2), (3, .int x3)] S := by
  unfold wp_M_isBound_0 at w
  intro G h n z d hn hd
  refine vv_iconst (pc := 0) (v := 0) d_M_isBound_0 rfl ?_
  refine vv_istore (pc := 1) d_M_isBound_1 (Nat.le_of_ble_eq_true rfl) ?_
  refine vv_iconst (pc := 3) (v := 0) d_M_isBound_3 rfl ?_
  refine vv_istore (pc := 4) d_M_isBound_4 (Nat.le_of_ble_eq_true rfl) ?_
  exact vv_sub [2, 3, 4, 5, 1, 0] rfl (w G h n z d hn hd)
theorem c_M_isBound {o : Option Value} {S' S : cp_S} {x1 : Int32} {x2 : Int32} {x3 : Int32} (w : JJ 2 m_M_isBound o S' 0 [(1, .int x1), (2, .int x2), (3, .int x3)] S) : MC 2 m_M_isBound [.int x1, .int x2, .int x3] S o S' := fun G h n z d hn hd => cp_C.of rfl (Nat.le_of_ble_eq_true rfl) (w G h n z d hn hd)
def wp_M_isBound_6 (o : Option Value) (S' : cp_S) (S : cp_S) (x1 : Int32) (x2 : Int32) (x3 : Int32) (x4 : Int32) (x5 : Int32) : Prop := ((x3 ≤ (x5 : Int32) → JJ 2 m_M_isBound o S' 49 [(1, .int x1), (2, .int x2), (3, .int x3), (4, .int x4), (5, .int x2)] S) ∧ (¬ x3 ≤ (x5 : Int32) → ((¬ (x4 : Int32) = 0 → JJ 2 m_M_isBound o S' 33 [(1, .int x1), (2, .int x2), (3, .int x3), (4, .int x4), (5, .int x5)] S) ∧ ((x4 : Int32) = 0 → vp_in x5 (cp_ml 71) ∧ vp_in x1 (cp_ml 40) ∧ ((¬ (((S.2 71) (Int32.toNatClampNeg x5)) : Int32) = ((S.2 40) (Int32.toNatClampNeg x1)) → JJ 2 m_M_isBound o S' 6 [(1, .int x1), (2, .int x2), (3, .int x3), (4, .int 0), (5, .int (x5 + 1))] S) ∧ ((((S.2 71) (Int32.toNatClampNeg x5)) : Int32) = ((S.2 40) (Int32.toNatClampNeg x1)) → JJ 2 m_M_isBound o S' 33 [(1, .int x1), (2, .int x2), (3, .int x3), (4, .int x4), (5, .int x5)] S))))))
theorem b_M_isBound_6 {o : Option Value} {S' S : cp_S} {x1 : Int32} {x2 : Int32} {x3 : Int32} {x4 : Int32} {x5 : Int32} (w : wp_M_isBound_6 o S' S x1 x2 x3 x4 x5) : JJ 2 m_M_isBound o S' 6 [(1, .int x1), (2, .int x2), (3, .int x3), (4, .int x4), (5, .int x5)] S := by
  unfold wp_M_isBound_6 at w
  intro G h n z d hn hd
  refine vv_iload (pc := 6) d_M_isBound_6 rfl ?_
  refine vv_iload_n (pc := 8) d_M_isBound_8 rfl ?_
  refine vv_icmp_ge (pc := 9) (tgt := 46) d_M_isBound_9 rfl (fun hc => ?_) (fun hc => ?_)
  · replace w := w.1 hc
    refine vv_iload_n (pc := 46) d_M_isBound_46 rfl ?_
    refine vv_istore (pc := 47) d_M_isBound_47 (Nat.le_of_ble_eq_true rfl) ?_
    exact vv_sub [1, 2, 3, 4, 5, 0] rfl (w G h n z d hn hd)
  · replace w := w.2 hc
    refine vv_iload (pc := 12) d_M_isBound_12 rfl ?_
    refine vv_if_ne (pc := 14) (tgt := 33) d_M_isBound_14 rfl (fun hc => ?_) (fun hc => ?_)
    · replace w := w.1 hc
      exact vv_sub [0, 1, 2, 3, 4, 5] rfl (w G h n z d hn hd)
    · replace w := w.2 hc
      refine vv_aload_n (pc := 17) d_M_isBound_17 rfl ?_
      refine ww_gr (pc := 18) 65 71 d_M_isBound_18 fl_M_142 (by omega) rfl (by decide) ?_
      refine vv_iload (pc := 21) d_M_isBound_21 rfl ?_
      obtain ⟨b1, w⟩ := w
      refine ww_ld (pc := 23) 71 d_M_isBound_23 (by omega) (by decide) b1 ?_
      refine vv_aload_n (pc := 24) d_M_isBound_24 rfl ?_
      refine ww_gr (pc := 25) 18 40 d_M_isBound_25 fl_M_49 (by omega) rfl (by decide) ?_
      refine vv_iload_n (pc := 28) d_M_isBound_28 rfl ?_
      obtain ⟨b2, w⟩ := w
      refine ww_ld (pc := 29) 40 d_M_isBound_29 (by omega) (by decide) b2 ?_
      refine vv_icmp_ne (pc := 30) (tgt := 37) d_M_isBound_30 rfl (fun hc => ?_) (fun hc => ?_)
      · replace w := w.1 hc
        refine vv_iconst (pc := 37) (v := 0) d_M_isBound_37 rfl ?_
        refine vv_istore (pc := 38) d_M_isBound_38 (Nat.le_of_ble_eq_true rfl) ?_
        refine vv_iinc (pc := 40) (v := (x5 + 1)) d_M_isBound_40 rfl rfl (Nat.le_of_ble_eq_true rfl) ?_
        refine vv_goto (pc := 43) (tgt := 6) d_M_isBound_43 rfl ?_
        exact vv_sub [2, 3, 4, 5, 1, 0] rfl (w G h n z d hn hd)
      · replace w := w.2 hc
        exact vv_sub [0, 1, 2, 3, 4, 5] rfl (w G h n z d hn hd)
def wp_M_isBound_33 (o : Option Value) (S' : cp_S) (S : cp_S) (x1 : Int32) (x2 : Int32) (x3 : Int32) (x4 : Int32) (x5 : Int32) : Prop := JJ 2 m_M_isBound o S' 6 [(1, .int x1), (2, .int x2), (3, .int x3), (4, .int 1), (5, .int (x5 + 1))] S
theorem b_M_isBound_33 {o : Option Value} {S' S : cp_S} {x1 : Int32} {x2 : Int32} {x3 : Int32} {x4 : Int32} {x5 : Int32} (w : wp_M_isBound_33 o S' S x1 x2 x3 x4 x5) : JJ 2 m_M_isBound o S' 33 [(1, .int x1), (2, .int x2), (3, .int x3), (4, .int x4), (5, .int x5)] S := by
  unfold wp_M_isBound_33 at w
  intro G h n z d hn hd
  refine vv_iconst (pc := 33) (v := 1) d_M_isBound_33 rfl ?_
  refine vv_goto (pc := 34) (tgt := 38) d_M_isBound_34 rfl ?_
  refine vv_istore (pc := 38) d_M_isBound_38 (Nat.le_of_ble_eq_true rfl) ?_
  refine vv_iinc (pc := 40) (v := (x5 + 1)) d_M_isBound_40 rfl rfl (Nat.le_of_ble_eq_true rfl) ?_
  refine vv_goto (pc := 43) (tgt := 6) d_M_isBound_43 rfl ?_
  exact vv_sub [2, 3, 4, 5, 1, 0] rfl (w G h n z d hn hd)
def wp_M_isBound_49 (o : Option Value) (S' : cp_S) (S : cp_S) (x1 : Int32) (x2 : Int32) (x3 : Int32) (x4 : Int32) (x5 : Int32) : Prop := ((x1 ≤ (x5 : Int32) → (o = some (.int x4) ∧ S' = S ∧ narrow .boolean (.int x4) = .int x4)) ∧ (¬ x1 ≤ (x5 : Int32) → vp_in x5 (cp_ml 39) ∧ ((¬ (((S.2 39) (Int32.toNatClampNeg x5)) : Int32) = 13 → JJ 2 m_M_isBound o S' 157 [(1, .int x1), (2, .int x2), (3, .int x3), (4, .int x4), (5, .int x5)] S) ∧ ((((S.2 39) (Int32.toNatClampNeg x5)) : Int32) = 13 → ∃ r4 T3, MC 1 m_M_behind [.int x5] S (some (.int r4)) T3 ∧ ((x1 < (r4 : Int32) → JJ 2 m_M_isBound o S' 95 [(1, .int x1), (2, .int x2), (3, .int x3), (4, .int x4), (5, .int x5), (6, .int r4)] T3) ∧ (¬ x1 < (r4 : Int32) → ∃ r7 T6, MC 1 m_M_behind [.int r4] T3 (some (.int r7)) T6 ∧ ((r7 ≤ (x1 : Int32) → JJ 2 m_M_isBound o S' 95 [(1, .int x1), (2, .int x2), (3, .int x3), (4, .int x4), (5, .int x5), (6, .int r4)] T6) ∧ (¬ r7 ≤ (x1 : Int32) → JJ 2 m_M_isBound o S' 101 [(1, .int x1), (2, .int x2), (3, .int x3), (4, .int x4), (5, .int x5), (6, .int r4), (7, .int 1), (8, .int 0)] T6))))))))
theorem b_M_isBound_49 {o : Option Value} {S' S : cp_S} {x1 : Int32} {x2 : Int32} {x3 : Int32} {x4 : Int32} {x5 : Int32} (w : wp_M_isBound_49 o S' S x1 x2 x3 x4 x5) : JJ 2 m_M_isBound o S' 49 [(1, .int x1), (2, .int x2), (3, .int x3), (4, .int x4), (5, .int x5)] S := by
  unfold wp_M_isBound_49 at w
  intro G h n z d hn hd
  refine vv_iload (pc := 49) d_M_isBound_49 rfl ?_
  refine vv_iload_n (pc := 51) d_M_isBound_51 rfl ?_
  refine vv_icmp_ge (pc := 52) (tgt := 163) d_M_isBound_52 rfl (fun hc => ?_) (fun hc => ?_)
  · replace w := w.1 hc
    refine vv_iload (pc := 163) d_M_isBound_163 rfl ?_
    obtain ⟨rfl, rfl, hx⟩ := w
    exact vv_zret (pc := 165) d_M_isBound_165 rfl hx
  · replace w := w.2 hc
    refine vv_aload_n (pc := 55) d_M_isBound_55 rfl ?_
    refine ww_gr (pc := 56) 17 39 d_M_isBound_56 fl_M_46 (by omega) rfl (by decide) ?_
    refine vv_iload (pc := 59) d_M_isBound_59 rfl ?_
    obtain ⟨b1, w⟩ := w
    refine ww_ld (pc := 61) 39 d_M_isBound_61 (by omega) (by decide) b1 ?_
    refine vv_bipush (pc := 62) (v := 13) d_M_isBound_62 rfl ?_
    refine vv_icmp_ne (pc := 64) (tgt := 157) d_M_isBound_64 rfl (fun hc => ?_) (fun hc => ?_)
    · replace w := w.1 hc
      exact vv_sub [0, 1, 2, 3, 4, 5] rfl (w G h n z d hn hd)
    · replace w := w.2 hc
      refine vv_aload_n (pc := 67) d_M_isBound_67 rfl ?_
      refine vv_iload (pc := 68) d_M_isBound_68 rfl ?_
      obtain ⟨r4, T3, c2, w⟩ := w
      refine vv_callV (pc := 70) (As := [.int x5]) d_M_isBound_70 (c2 G h n z (d - 1) hn (by omega)) k_M_behind ml_M_268.1 ml_M_268.2.1 ml_M_268.2.2.1 ml_M_268.2.2.2.1 ml_M_268.2.2.2.2 (by omega) mm_26 (by omega) (Nat.le_of_ble_eq_true rfl) ?_
      refine vv_istore (pc := 73) d_M_isBound_73 (Nat.le_of_ble_eq_true rfl) ?_
      refine vv_iload (pc := 75) d_M_isBound_75 rfl ?_
      refine vv_iload_n (pc := 77) d_M_isBound_77 rfl ?_
      refine vv_icmp_gt (pc := 78) (tgt := 95) d_M_isBound_78 rfl (fun hc => ?_) (fun hc => ?_)
      · replace w := w.1 hc
        exact vv_sub [1, 2, 3, 4, 5, 6, 0] rfl (w G h n z d hn hd)
      · replace w := w.2 hc
        refine vv_iload_n (pc := 81) d_M_isBound_81 rfl ?_
        refine vv_aload_n (pc := 82) d_M_isBound_82 rfl ?_
        refine vv_iload (pc := 83) d_M_isBound_83 rfl ?_
        obtain ⟨r7, T6, c5, w⟩ := w
        refine vv_callV (pc := 85) (As := [.int r4]) d_M_isBound_85 (c5 G h n z (d - 1) hn (by omega)) k_M_behind ml_M_268.1 ml_M_268.2.1 ml_M_268.2.2.1 ml_M_268.2.2.2.1 ml_M_268.2.2.2.2 (by omega) mm_26 (by omega) (Nat.le_of_ble_eq_true rfl) ?_
        refine vv_icmp_ge (pc := 88) (tgt := 95) d_M_isBound_88 rfl (fun hc => ?_) (fun hc => ?_)
        · replace w := w.1 hc
          exact vv_sub [1, 2, 3, 4, 5, 6, 0] rfl (w G h n z d hn hd)
        · replace w := w.2 hc
          refine vv_iconst (pc := 91) (v := 1) d_M_isBound_91 rfl ?_
          refine vv_goto (pc := 92) (tgt := 96) d_M_isBound_92 rfl ?_
          refine vv_istore (pc := 96) d_M_isBound_96 (Nat.le_of_ble_eq_true rfl) ?_
          refine vv_iconst (pc := 98) (v := 0) d_M_isBound_98 rfl ?_
          refine vv_istore (pc := 99) d_M_isBound_99 (Nat.le_of_ble_eq_true rfl) ?_
          exact vv_sub [3, 4, 5, 6, 7, 8, 2, 1, 0] rfl (w G h n z d hn hd)
def wp_M_isBound_95 (o : Option Value) (S' : cp_S) (S : cp_S) (x1 : Int32) (x2 : Int32) (x3 : Int32) (x4 : Int32) (x5 : Int32) (x6 : Int32) : Prop := JJ 2 m_M_isBound o S' 101 [(1, .int x1), (2, .int x2), (3, .int x3), (4, .int x4), (5, .int x5), (6, .int x6), (7, .int 0), (8, .int 0)] S
theorem b_M_isBound_95 {o : Option Value} {S' S : cp_S} {x1 : Int32} {x2 : Int32} {x3 : Int32} {x4 : Int32} {x5 : Int32} {x6 : Int32} (w : wp_M_isBound_95 o S' S x1 x2 x3 x4 x5 x6) : JJ 2 m_M_isBound o S' 95 [(1, .int x1), (2, .int x2), (3, .int x3), (4, .int x4), (5, .int x5), (6, .int x6)] S := by
  unfold wp_M_isBound_95 at w
  intro G h n z d hn hd
  refine vv_iconst (pc := 95) (v := 0) d_M_isBound_95 rfl ?_
  refine vv_istore (pc := 96) d_M_isBound_96 (Nat.le_of_ble_eq_true rfl) ?_
  refine vv_iconst (pc := 98) (v := 0) d_M_isBound_98 rfl ?_
  refine vv_istore (pc := 99) d_M_isBound_99 (Nat.le_of_ble_eq_true rfl) ?_
  exact vv_sub [2, 3, 4, 5, 6, 7, 8, 1, 0] rfl (w G h n z d hn hd)
def wp_M_isBound_101 (o : Option Value) (S' : cp_S) (S : cp_S) (x1 : Int32) (x2 : Int32) (x3 : Int32) (x4 : Int32) (x5 : Int32) (x6 : Int32) (x7 : Int32) (x8 : Int32) : Prop := vp_in x5 (cp_ml 41) ∧ ((((S.2 41) (Int32.toNatClampNeg x5)) ≤ (x8 : Int32) → JJ 2 m_M_isBound o S' 157 [(1, .int x1), (2, .int x2), (3, .int x3), (4, .int x4), (5, .int x5)] S) ∧ (¬ ((S.2 41) (Int32.toNatClampNeg x5)) ≤ (x8 : Int32) → (((x7 : Int32) = 0 → JJ 2 m_M_isBound o S' 157 [(1, .int x1), (2, .int x2), (3, .int x3), (4, .int x4), (5, .int x5)] S) ∧ (¬ (x7 : Int32) = 0 → ((¬ (x4 : Int32) = 0 → JJ 2 m_M_isBound o S' 144 [(1, .int x1), (2, .int x2), (3, .int x3), (4, .int x4), (5, .int x5), (6, .int x6), (7, .int x7), (8, .int x8)] S) ∧ ((x4 : Int32) = 0 → vp_in ((x5 + 1) + x8) (cp_ml 40) ∧ vp_in x1 (cp_ml 40) ∧ ((¬ (((S.2 40) (Int32.toNatClampNeg ((x5 + 1) + x8))) : Int32) = ((S.2 40) (Int32.toNatClampNeg x1)) → JJ 2 m_M_isBound o S' 101 [(1, .int x1), (2, .int x2), (3, .int x3), (4, .int 0), (5, .int x5), (6, .int x6), (7, .int x7), (8, .int (x8 + 1))] S) ∧ ((((S.2 40) (Int32.toNatClampNeg ((x5 + 1) + x8))) : Int32) = ((S.2 40) (Int32.toNatClampNeg x1)) → JJ 2 m_M_isBound o S' 144 [(1, .int x1), (2, .int x2), (3, .int x3), (4, .int x4), (5, .int x5), (6, .int x6), (7, .int x7), (8, .int x8)] S))))))))
theorem b_M_isBound_101 {o : Option Value} {S' S : cp_S} {x1 : Int32} {x2 : Int32} {x3 : Int32} {x4 : Int32} {x5 : Int32} {x6 : Int32} {x7 : Int32} {x8 : Int32} (w : wp_M_isBound_101 o S' S x1 x2 x3 x4 x5 x6 x7 x8) : JJ 2 m_M_isBound o S' 101 [(1, .int x1), (2, .int x2), (3, .int x3), (4, .int x4), (5, .int x5), (6, .int x6), (7, .int x7), (8, .int x8)] S := by
  unfold wp_M_isBound_101 at w
  intro G h n z d hn hd
  refine vv_iload (pc := 101) d_M_isBound_101 rfl ?_
  refine vv_aload_n (pc := 103) d_M_isBound_103 rfl ?_
  refine ww_gr (pc := 104) 19 41 d_M_isBound_104 fl_M_52 (by omega) rfl (by decide) ?_
  refine vv_iload (pc := 107) d_M_isBound_107 rfl ?_
  obtain ⟨b1, w⟩ := w
  refine ww_ld (pc := 109) 41 d_M_isBound_109 (by omega) (by decide) b1 ?_
  refine vv_icmp_ge (pc := 110) (tgt := 157) d_M_isBound_110 rfl (fun hc => ?_) (fun hc => ?_)
  · replace w := w.1 hc
    exact vv_sub [0, 1, 2, 3, 4, 5] rfl (w G h n z d hn hd)
  · replace w := w.2 hc
    refine vv_iload (pc := 113) d_M_isBound_113 rfl ?_
    refine vv_if_eq (pc := 115) (tgt := 157) d_M_isBound_115 rfl (fun hc => ?_) (fun hc => ?_)
    · replace w := w.1 hc
      exact vv_sub [0, 1, 2, 3, 4, 5] rfl (w G h n z d hn hd)
    · replace w := w.2 hc
      refine vv_iload (pc := 118) d_M_isBound_118 rfl ?_
      refine vv_if_ne (pc := 120) (tgt := 144) d_M_isBound_120 rfl (fun hc => ?_) (fun hc => ?_)
      · replace w := w.1 hc
        exact vv_sub [0, 1, 2, 3, 4, 5, 6, 7, 8] rfl (w G h n z d hn hd)
      · replace w := w.2 hc
        refine vv_aload_n (pc := 123) d_M_isBound_123 rfl ?_
        refine ww_gr (pc := 124) 18 40 d_M_isBound_124 fl_M_49 (by omega) rfl (by decide) ?_
        refine vv_iload (pc := 127) d_M_isBound_127 rfl ?_
        refine vv_iconst (pc := 129) (v := 1) d_M_isBound_129 rfl ?_
        refine vv_iadd (pc := 130) d_M_isBound_130 ?_
        refine vv_iload (pc := 131) d_M_isBound_131 rfl ?_
        refine vv_iadd (pc := 133) d_M_isBound_133 ?_
        obtain ⟨b2, w⟩ := w
        refine ww_ld (pc := 134) 40 d_M_isBound_134 (by omega) (by decide) b2 ?_
        refine vv_aload_n (pc := 135) d_M_isBound_135 rfl ?_
        refine ww_gr (pc := 136) 18 40 d_M_isBound_136 fl_M_49 (by omega) rfl (by decide) ?_
        refine vv_iload_n (pc := 139) d_M_isBound_139 rfl ?_
        obtain ⟨b3, w⟩ := w
        refine ww_ld (pc := 140) 40 d_M_isBound_140 (by omega) (by decide) b3 ?_
        refine vv_icmp_ne (pc := 141) (tgt := 148) d_M_isBound_141 rfl (fun hc => ?_) (fun hc => ?_)
        · replace w := w.1 hc
          refine vv_iconst (pc := 148) (v := 0) d_M_isBound_148 rfl ?_
          refine vv_istore (pc := 149) d_M_isBound_149 (Nat.le_of_ble_eq_true rfl) ?_
          refine vv_iinc (pc := 151) (v := (x8 + 1)) d_M_isBound_151 rfl rfl (Nat.le_of_ble_eq_true rfl) ?_
          refine vv_goto (pc := 154) (tgt := 101) d_M_isBound_154 rfl ?_
          exact vv_sub [2, 3, 4, 5, 1, 6, 7, 8, 0] rfl (w G h n z d hn hd)
        · replace w := w.2 hc
          exact vv_sub [0, 1, 2, 3, 4, 5, 6, 7, 8] rfl (w G h n z d hn hd)
def wp_M_isBound_144 (o : Option Value) (S' : cp_S) (S : cp_S) (x1 : Int32) (x2 : Int32) (x3 : Int32) (x4 : Int32) (x5 : Int32) (x6 : Int32) (x7 : Int32) (x8 : Int32) : Prop := JJ 2 m_M_isBound o S' 101 [(1, .int x1), (2, .int x2), (3, .int x3), (4, .int 1), (5, .int x5), (6, .int x6), (7, .int x7), (8, .int (x8 + 1))] S
theorem b_M_isBound_144 {o : Option Value} {S' S : cp_S} {x1 : Int32} {x2 : Int32} {x3 : Int32} {x4 : Int32} {x5 : Int32} {x6 : Int32} {x7 : Int32} {x8 : Int32} (w : wp_M_isBound_144 o S' S x1 x2 x3 x4 x5 x6 x7 x8) : JJ 2 m_M_isBound o S' 144 [(1, .int x1), (2, .int x2), (3, .int x3), (4, .int x4), (5, .int x5), (6, .int x6), (7, .int x7), (8, .int x8)] S := by
  unfold wp_M_isBound_144 at w
  intro G h n z d hn hd
  refine vv_iconst (pc := 144) (v := 1) d_M_isBound_144 rfl ?_
  refine vv_goto (pc := 145) (tgt := 149) d_M_isBound_145 rfl ?_
  refine vv_istore (pc := 149) d_M_isBound_149 (Nat.le_of_ble_eq_true rfl) ?_
  refine vv_iinc (pc := 151) (v := (x8 + 1)) d_M_isBound_151 rfl rfl (Nat.le_of_ble_eq_true rfl) ?_
  refine vv_goto (pc := 154) (tgt := 101) d_M_isBound_154 rfl ?_
  exact vv_sub [2, 3, 4, 5, 1, 6, 7, 8, 0] rfl (w G h n z d hn hd)
def wp_M_isBound_157 (o : Option Value) (S' : cp_S) (S : cp_S) (x1 : Int32) (x2 : Int32) (x3 : Int32) (x4 : Int32) (x5 : Int32) : Prop := JJ 2 m_M_isBound o S' 49 [(1, .int x1), (2, .int x2), (3, .int x3), (4, .int x4), (5, .int (x5 + 1))] S
theorem b_M_isBound_157 {o : Option Value} {S' S : cp_S} {x1 : Int32} {x2 : Int32} {x3 : Int32} {x4 : Int32} {x5 : Int32} (w : wp_M_isBound_157 o S' S x1 x2 x3 x4 x5) : JJ 2 m_M_isBound o S' 157 [(1, .int x1), (2, .int x2), (3, .int x3), (4, .int x4), (5, .int x5)] S := by
  unfold wp_M_isBound_157 at w
  intro G h n z d hn hd
  refine vv_iinc (pc := 157) (v := (x5 + 1)) d_M_isBound_157 rfl rfl (Nat.le_of_ble_eq_true rfl) ?_
  refine vv_goto (pc := 160) (tgt := 49) d_M_isBound_160 rfl ?_
  exact vv_sub [1, 2, 3, 4, 5, 0] rfl (w G h n z d hn hd)
def wp_M_isRightCode_0 (o : Option Value) (S' : cp_S) (S : cp_S) (x1 : Int32) (x2 : Int32) (x3 : Int32) : Prop := JJ 3 m_M_isRightCode o S' 3 [(1, .int x1), (2, .int x2), (3, .int x3), (4, .int x2)] S
theorem b_M_isRightCode_0 {o : Option Value} {S' S : cp_S} {x1 : Int32} {x2 : Int32} {x3 : Int32} (w : wp_M_isRightCode_0 o S' S x1 x2 x3) : JJ 3 m_M_isRightCode o S' 0 [(1, .int x1), (2, .int x2), (3, .int x3)] S := by
  unfold wp_M_isRightCode_0 at w
  intro G h n z d hn hd
  refine vv_iload_n (pc := 0) d_M_isRightCode_0 rfl ?_
  refine vv_istore (pc := 1) d_M_isRightCode_1 (Nat.le_of_ble_eq_true rfl) ?_
  exact vv_sub [1, 2, 3, 4, 0] rfl (w G h n z d hn hd)
theorem c_M_isRightCode {o : Option Value} {S' S : cp_S} {x1 : Int32} {x2 : Int32} {x3 : Int32} (w : JJ 3 m_M_isRightCode o S' 0 [(1, .int x1), (2, .int x2), (3, .int x3)] S) : MC 3 m_M_isRightCode [.int x1, .int x2, .int x3] S o S' := fun G h n z d hn hd => cp_C.of rfl (Nat.le_of_ble_eq_true rfl) (w G h n z d hn hd)
def wp_M_isRightCode_3 (o : Option Value) (S' : cp_S) (S : cp_S) (x1 : Int32) (x2 : Int32) (x3 : Int32) (x4 : Int32) : Prop := (((S.1 16) ≤ (x4 : Int32) → (o = some (.int 1) ∧ S' = S ∧ narrow .boolean (.int 1) = .int 1)) ∧ (¬ (S.1 16) ≤ (x4 : Int32) → vp_in x4 (cp_ml 40) ∧ vp_in x4 (cp_ml 39) ∧ ((¬ (((S.2 39) (Int32.toNatClampNeg x4)) : Int32) = 1 → vp_in x4 (cp_ml 39) ∧ ((¬ (((S.2 39) (Int32.toNatClampNeg x4)) : Int32) = 13 → vp_in x4 (cp_ml 39) ∧ ((¬ (((S.2 39) (Int32.toNatClampNeg x4)) : Int32) = 5 → JJ 3 m_M_isRightCode o S' 168 [(1, .int x1), (2, .int x2), (3, .int x3), (4, .int x4), (5, .int ((S.2 40) (Int32.toNatClampNeg x4))), (6, .int 1)] S) ∧ ((((S.2 39) (Int32.toNatClampNeg x4)) : Int32) = 5 → ((¬ (((S.2 40) (Int32.toNatClampNeg x4)) : Int32) = x1 → vp_in ((S.2 40) (Int32.toNatClampNeg x4)) (cp_ml 30) ∧ (((((S.2 30) (Int32.toNatClampNeg ((S.2 40) (Int32.toNatClampNeg x4)))) : Int32) = 0 → JJ 3 m_M_isRightCode o S' 165 [(1, .int x1), (2, .int x2), (3, .int x3), (4, .int x4), (5, .int ((S.2 40) (Int32.toNatClampNeg x4))), (6, .int 1)] S) ∧ (¬ (((S.2 30) (Int32.toNatClampNeg ((S.2 40) (Int32.toNatClampNeg x4)))) : Int32) = 0 → vp_in ((S.2 40) (Int32.toNatClampNeg x4)) (cp_ml 31) ∧ vp_in x4 (cp_ml 41) ∧ ((¬ (((S.2 31) (Int32.toNatClampNeg ((S.2 40) (Int32.toNatClampNeg x4)))) : Int32) = ((S.2 41) (Int32.toNatClampNeg x4)) → JJ 3 m_M_isRightCode o S' 165 [(1, .int x1), (2, .int x2), (3, .int x3), (4, .int x4), (5, .int ((S.2 40) (Int32.toNatClampNeg x4))), (6, .int 1)] S) ∧ ((((S.2 31) (Int32.toNatClampNeg ((S.2 40) (Int32.toNatClampNeg x4)))) : Int32) = ((S.2 41) (Int32.toNatClampNeg x4)) → JJ 3 m_M_isRightCode o S' 168 [(1, .int x1), (2, .int x2), (3, .int x3), (4, .int x4), (5, .int ((S.2 40) (Int32.toNatClampNeg x4))), (6, .int 1)] S))))) ∧ ((((S.2 40) (Int32.toNatClampNeg x4)) : Int32) = x1 → vp_in x4 (cp_ml 41) ∧ ((¬ (((S.2 41) (Int32.toNatClampNeg x4)) : Int32) = x3 → JJ 3 m_M_isRightCode o S' 168 [(1, .int x1), (2, .int x2), (3, .int x3), (4, .int x4), (5, .int ((S.2 40) (Int32.toNatClampNeg x4))), (6, .int 0)] S) ∧ ((((S.2 41) (Int32.toNatClampNeg x4)) : Int32) = x3 → JJ 3 m_M_isRightCode o S' 168 [(1, .int x1), (2, .int x2), (3, .int x3), (4, .int x4), (5, .int ((S.2 40) (Int32.toNatClampNeg x4))), (6, .int 1)] S))))))) ∧ ((((S.2 39) (Int32.toNatClampNeg x4)) : Int32) = 13 → vp_in ((S.2 40) (Int32.toNatClampNeg x4)) (cp_ml 30) ∧ ((¬ (((S.2 30) (Int32.toNatClampNeg ((S.2 40) (Int32.toNatClampNeg x4)))) : Int32) = 1 → JJ 3 m_M_isRightCode o S' 92 [(1, .int x1), (2, .int x2), (3, .int x3), (4, .int x4), (5, .int ((S.2 40) (Int32.toNatClampNeg x4))), (6, .int 1)] S) ∧ ((((S.2 30) (Int32.toNatClampNeg ((S.2 40) (Int32.toNatClampNeg x4)))) : Int32) = 1 → vp_in ((S.2 40) (Int32.toNatClampNeg x4)) (cp_ml 31) ∧ vp_in x4 (cp_ml 41) ∧ ((¬ (((S.2 31) (Int32.toNatClampNeg ((S.2 40) (Int32.toNatClampNeg x4)))) : Int32) = ((S.2 41) (Int32.toNatClampNeg x4)) → JJ 3 m_M_isRightCode o S' 92 [(1, .int x1), (2, .int x2), (3, .int x3), (4, .int x4), (5, .int ((S.2 40) (Int32.toNatClampNeg x4))), (6, .int 1)] S) ∧ ((((S.2 31) (Int32.toNatClampNeg ((S.2 40) (Int32.toNatClampNeg x4)))) : Int32) = ((S.2 41) (Int32.toNatClampNeg x4)) → JJ 3 m_M_isRightCode o S' 168 [(1, .int x1), (2, .int x2), (3, .int x3), (4, .int x4), (5, .int ((S.2 40) (Int32.toNatClampNeg x4))), (6, .int 1)] S))))))) ∧ ((((S.2 39) (Int32.toNatClampNeg x4)) : Int32) = 1 → ∃ r14 T13, MC 2 m_M_isBound [.int x4, .int x2, .int x3] S (some (.int r14)) T13 ∧ JJ 3 m_M_isRightCode o S' 168 [(1, .int x1), (2, .int x2), (3, .int x3), (4, .int x4), (5, .int ((S.2 40) (Int32.toNatClampNeg x4))), (6, .int r14)] T13))))
theorem b_M_isRightCode_3 {o : Option Value} {S' S : cp_S} {x1 : Int32} {x2 : Int32} {x3 : Int32} {x4 : Int32} (w : wp_M_isRightCode_3 o S' S x1 x2 x3 x4) : JJ 3 m_M_isRightCode o S' 3 [(1, .int x1), (2, .int x2), (3, .int x3), (4, .int x4)] S := by
  unfold wp_M_isRightCode_3 at w
  intro G h n z d hn hd
  refine vv_iload (pc := 3) d_M_isRightCode_3 rfl ?_
  refine vv_aload_n (pc := 5) d_M_isRightCode_5 rfl ?_
  refine ww_gi (pc := 6) 16 d_M_isRightCode_6 fl_M_194 (by omega) rfl ?_
  refine vv_icmp_ge (pc := 9) (tgt := 197) d_M_isRightCode_9 rfl (fun hc => ?_) (fun hc => ?_)
  · replace w := w.1 hc
    refine vv_iconst (pc := 197) (v := 1) d_M_isRightCode_197 rfl ?_
    obtain ⟨rfl, rfl, hx⟩ := w
    exact vv_zret (pc := 198) d_M_isRightCode_198 rfl hx
  · replace w := w.2 hc
    refine vv_aload_n (pc := 12) d_M_isRightCode_12 rfl ?_
    refine ww_gr (pc := 13) 18 40 d_M_isRightCode_13 fl_M_49 (by omega) rfl (by decide) ?_
    refine vv_iload (pc := 16) d_M_isRightCode_16 rfl ?_
    obtain ⟨b1, w⟩ := w
    refine ww_ld (pc := 18) 40 d_M_isRightCode_18 (by omega) (by decide) b1 ?_
    refine vv_istore (pc := 19) d_M_isRightCode_19 (Nat.le_of_ble_eq_true rfl) ?_
    refine vv_iconst (pc := 21) (v := 1) d_M_isRightCode_21 rfl ?_
    refine vv_istore (pc := 22) d_M_isRightCode_22 (Nat.le_of_ble_eq_true rfl) ?_
    refine vv_aload_n (pc := 24) d_M_isRightCode_24 rfl ?_
    refine ww_gr (pc := 25) 17 39 d_M_isRightCode_25 fl_M_46 (by omega) rfl (by decide) ?_
    refine vv_iload (pc := 28) d_M_isRightCode_28 rfl ?_
    obtain ⟨b2, w⟩ := w
    refine ww_ld (pc := 30) 39 d_M_isRightCode_30 (by omega) (by decide) b2 ?_
    refine vv_iconst (pc := 31) (v := 1) d_M_isRightCode_31 rfl ?_
    refine vv_icmp_ne (pc := 32) (tgt := 48) d_M_isRightCode_32 rfl (fun hc => ?_) (fun hc => ?_)
    · replace w := w.1 hc
      refine vv_aload_n (pc := 48) d_M_isRightCode_48 rfl ?_
      refine ww_gr (pc := 49) 17 39 d_M_isRightCode_49 fl_M_46 (by omega) rfl (by decide) ?_
      refine vv_iload (pc := 52) d_M_isRightCode_52 rfl ?_
      obtain ⟨b3, w⟩ := w
      refine ww_ld (pc := 54) 39 d_M_isRightCode_54 (by omega) (by decide) b3 ?_
      refine vv_bipush (pc := 55) (v := 13) d_M_isRightCode_55 rfl ?_
      refine vv_icmp_ne (pc := 57) (tgt := 98) d_M_isRightCode_57 rfl (fun hc => ?_) (fun hc => ?_)
      · replace w := w.1 hc
        refine vv_aload_n (pc := 98) d_M_isRightCode_98 rfl ?_
        refine ww_gr (pc := 99) 17 39 d_M_isRightCode_99 fl_M_46 (by omega) rfl (by decide) ?_
        refine vv_iload (pc := 102) d_M_isRightCode_102 rfl ?_
        obtain ⟨b4, w⟩ := w
        refine ww_ld (pc := 104) 39 d_M_isRightCode_104 (by omega) (by decide) b4 ?_
        refine vv_iconst (pc := 105) (v := 5) d_M_isRightCode_105 rfl ?_
        refine vv_icmp_ne (pc := 106) (tgt := 168) d_M_isRightCode_106 rfl (fun hc => ?_) (fun hc => ?_)
        · replace w := w.1 hc
          exact vv_sub [2, 3, 4, 5, 6, 1, 0] rfl (w G h n z d hn hd)
        · replace w := w.2 hc
          refine vv_iload (pc := 109) d_M_isRightCode_109 rfl ?_
          refine vv_iload_n (pc := 111) d_M_isRightCode_111 rfl ?_
          refine vv_icmp_ne (pc := 112) (tgt := 134) d_M_isRightCode_112 rfl (fun hc => ?_) (fun hc => ?_)
          · replace w := w.1 hc
            refine vv_aload_n (pc := 134) d_M_isRightCode_134 rfl ?_
            refine ww_gr (pc := 135) 6 30 d_M_isRightCode_135 fl_M_19 (by omega) rfl (by decide) ?_
            refine vv_iload (pc := 138) d_M_isRightCode_138 rfl ?_
            obtain ⟨b5, w⟩ := w
            refine ww_ld (pc := 140) 30 d_M_isRightCode_140 (by omega) (by decide) b5 ?_
            refine vv_if_eq (pc := 141) (tgt := 165) d_M_isRightCode_141 rfl (fun hc => ?_) (fun hc => ?_)
            · replace w := w.1 hc
              exact vv_sub [2, 3, 4, 5, 6, 1, 0] rfl (w G h n z d hn hd)
            · replace w := w.2 hc
              refine vv_aload_n (pc := 144) d_M_isRightCode_144 rfl ?_
              refine ww_gr (pc := 145) 7 31 d_M_isRightCode_145 fl_M_22 (by omega) rfl (by decide) ?_
              refine vv_iload (pc := 148) d_M_isRightCode_148 rfl ?_
              obtain ⟨b6, w⟩ := w
              refine ww_ld (pc := 150) 31 d_M_isRightCode_150 (by omega) (by decide) b6 ?_
              refine vv_aload_n (pc := 151) d_M_isRightCode_151 rfl ?_
              refine ww_gr (pc := 152) 19 41 d_M_isRightCode_152 fl_M_52 (by omega) rfl (by decide) ?_
              refine vv_iload (pc := 155) d_M_isRightCode_155 rfl ?_
              obtain ⟨b7, w⟩ := w
              refine ww_ld (pc := 157) 41 d_M_isRightCode_157 (by omega) (by decide) b7 ?_
              refine vv_icmp_ne (pc := 158) (tgt := 165) d_M_isRightCode_158 rfl (fun hc => ?_) (fun hc => ?_)
              · replace w := w.1 hc
                exact vv_sub [2, 3, 4, 5, 6, 1, 0] rfl (w G h n z d hn hd)
              · replace w := w.2 hc
                refine vv_iconst (pc := 161) (v := 1) d_M_isRightCode_161 rfl ?_
                refine vv_goto (pc := 162) (tgt := 166) d_M_isRightCode_162 rfl ?_
                refine vv_istore (pc := 166) d_M_isRightCode_166 (Nat.le_of_ble_eq_true rfl) ?_
                exact vv_sub [2, 3, 4, 5, 6, 1, 0] rfl (w G h n z d hn hd)
          · replace w := w.2 hc
            refine vv_aload_n (pc := 115) d_M_isRightCode_115 rfl ?_
            refine ww_gr (pc := 116) 19 41 d_M_isRightCode_116 fl_M_52 (by omega) rfl (by decide) ?_
            refine vv_iload (pc := 119) d_M_isRightCode_119 rfl ?_
            obtain ⟨b8, w⟩ := w
            refine ww_ld (pc := 121) 41 d_M_isRightCode_121 (by omega) (by decide) b8 ?_
            refine vv_iload_n (pc := 122) d_M_isRightCode_122 rfl ?_
            refine vv_icmp_ne (pc := 123) (tgt := 130) d_M_isRightCode_123 rfl (fun hc => ?_) (fun hc => ?_)
            · replace w := w.1 hc
              refine vv_iconst (pc := 130) (v := 0) d_M_isRightCode_130 rfl ?_
              refine vv_goto (pc := 131) (tgt := 166) d_M_isRightCode_131 rfl ?_
              refine vv_istore (pc := 166) d_M_isRightCode_166 (Nat.le_of_ble_eq_true rfl) ?_
              exact vv_sub [2, 3, 4, 5, 6, 1, 0] rfl (w G h n z d hn hd)
            · replace w := w.2 hc
              refine vv_iconst (pc := 126) (v := 1) d_M_isRightCode_126 rfl ?_
              refine vv_goto (pc := 127) (tgt := 166) d_M_isRightCode_127 rfl ?_
              refine vv_istore (pc := 166) d_M_isRightCode_166 (Nat.le_of_ble_eq_true rfl) ?_
              exact vv_sub [2, 3, 4, 5, 6, 1, 0] rfl (w G h n z d hn hd)
      · replace w := w.2 hc
        refine vv_aload_n (pc := 60) d_M_isRightCode_60 rfl ?_
        refine ww_gr (pc := 61) 6 30 d_M_isRightCode_61 fl_M_19 (by omega) rfl (by decide) ?_
        refine vv_iload (pc := 64) d_M_isRightCode_64 rfl ?_
        obtain ⟨b9, w⟩ := w
        refine ww_ld (pc := 66) 30 d_M_isRightCode_66 (by omega) (by decide) b9 ?_
        refine vv_iconst (pc := 67) (v := 1) d_M_isRightCode_67 rfl ?_
        refine vv_icmp_ne (pc := 68) (tgt := 92) d_M_isRightCode_68 rfl (fun hc => ?_) (fun hc => ?_)
        · replace w := w.1 hc
          exact vv_sub [2, 3, 4, 5, 6, 1, 0] rfl (w G h n z d hn hd)
        · replace w := w.2 hc
          refine vv_aload_n (pc := 71) d_M_isRightCode_71 rfl ?_
          refine ww_gr (pc := 72) 7 31 d_M_isRightCode_72 fl_M_22 (by omega) rfl (by decide) ?_
          refine vv_iload (pc := 75) d_M_isRightCode_75 rfl ?_
          obtain ⟨b10, w⟩ := w
          refine ww_ld (pc := 77) 31 d_M_isRightCode_77 (by omega) (by decide) b10 ?_
          refine vv_aload_n (pc := 78) d_M_isRightCode_78 rfl ?_
          refine ww_gr (pc := 79) 19 41 d_M_isRightCode_79 fl_M_52 (by omega) rfl (by decide) ?_
          refine vv_iload (pc := 82) d_M_isRightCode_82 rfl ?_
          obtain ⟨b11, w⟩ := w
          refine ww_ld (pc := 84) 41 d_M_isRightCode_84 (by omega) (by decide) b11 ?_
          refine vv_icmp_ne (pc := 85) (tgt := 92) d_M_isRightCode_85 rfl (fun hc => ?_) (fun hc => ?_)
          · replace w := w.1 hc
            exact vv_sub [2, 3, 4, 5, 6, 1, 0] rfl (w G h n z d hn hd)
          · replace w := w.2 hc
            refine vv_iconst (pc := 88) (v := 1) d_M_isRightCode_88 rfl ?_
            refine vv_goto (pc := 89) (tgt := 93) d_M_isRightCode_89 rfl ?_
            refine vv_istore (pc := 93) d_M_isRightCode_93 (Nat.le_of_ble_eq_true rfl) ?_
            refine vv_goto (pc := 95) (tgt := 168) d_M_isRightCode_95 rfl ?_
            exact vv_sub [2, 3, 4, 5, 6, 1, 0] rfl (w G h n z d hn hd)
    · replace w := w.2 hc
      refine vv_aload_n (pc := 35) d_M_isRightCode_35 rfl ?_
      refine vv_iload (pc := 36) d_M_isRightCode_36 rfl ?_
      refine vv_iload_n (pc := 38) d_M_isRightCode_38 rfl ?_
      refine vv_iload_n (pc := 39) d_M_isRightCode_39 rfl ?_
      obtain ⟨r14, T13, c12, w⟩ := w
      refine vv_callV (pc := 40) (As := [.int x4, .int x2, .int x3]) d_M_isRightCode_40 (c12 G h n z (d - 1) hn (by omega)) k_M_isBound ml_M_438.1 ml_M_438.2.1 ml_M_438.2.2.1 ml_M_438.2.2.2.1 ml_M_438.2.2.2.2 (by omega) mm_26 (by omega) (Nat.le_of_ble_eq_true rfl) ?_
      refine vv_istore (pc := 43) d_M_isRightCode_43 (Nat.le_of_ble_eq_true rfl) ?_
      refine vv_goto (pc := 45) (tgt := 168) d_M_isRightCode_45 rfl ?_
      exact vv_sub [2, 3, 4, 5, 6, 1, 0] rfl (w G h n z d hn hd)
def wp_M_isRightCode_92 (o : Option Value) (S' : cp_S) (S : cp_S) (x1 : Int32) (x2 : Int32) (x3 : Int32) (x4 : Int32) (x5 : Int32) (x6 : Int32) : Prop := JJ 3 m_M_isRightCode o S' 168 [(1, .int x1), (2, .int x2), (3, .int x3), (4, .int x4), (5, .int x5), (6, .int 0)] S
theorem b_M_isRightCode_92 {o : Option Value} {S' S : cp_S} {x1 : Int32} {x2 : Int32} {x3 : Int32} {x4 : Int32} {x5 : Int32} {x6 : Int32} (w : wp_M_isRightCode_92 o S' S x1 x2 x3 x4 x5 x6) : JJ 3 m_M_isRightCode o S' 92 [(1, .int x1), (2, .int x2), (3, .int x3), (4, .int x4), (5, .int x5), (6, .int x6)] S := by
  unfold wp_M_isRightCode_92 at w
  intro G h n z d hn hd
  refine vv_iconst (pc := 92) (v := 0) d_M_isRightCode_92 rfl ?_
  refine vv_istore (pc := 93) d_M_isRightCode_93 (Nat.le_of_ble_eq_true rfl) ?_
  refine vv_goto (pc := 95) (tgt := 168) d_M_isRightCode_95 rfl ?_
  exact vv_sub [1, 2, 3, 4, 5, 6, 0] rfl (w G h n z d hn hd)
def wp_M_isRightCode_165 (o : Option Value) (S' : cp_S) (S : cp_S) (x1 : Int32) (x2 : Int32) (x3 : Int32) (x4 : Int32) (x5 : Int32) (x6 : Int32) : Prop := JJ 3 m_M_isRightCode o S' 168 [(1, .int x1), (2, .int x2), (3, .int x3), (4, .int x4), (5, .int x5), (6, .int 0)] S
theorem b_M_isRightCode_165 {o : Option Value} {S' S : cp_S} {x1 : Int32} {x2 : Int32} {x3 : Int32} {x4 : Int32} {x5 : Int32} {x6 : Int32} (w : wp_M_isRightCode_165 o S' S x1 x2 x3 x4 x5 x6) : JJ 3 m_M_isRightCode o S' 165 [(1, .int x1), (2, .int x2), (3, .int x3), (4, .int x4), (5, .int x5), (6, .int x6)] S := by
  unfold wp_M_isRightCode_165 at w
  intro G h n z d hn hd
  refine vv_iconst (pc := 165) (v := 0) d_M_isRightCode_165 rfl ?_
  refine vv_istore (pc := 166) d_M_isRightCode_166 (Nat.le_of_ble_eq_true rfl) ?_
  exact vv_sub [1, 2, 3, 4, 5, 6, 0] rfl (w G h n z d hn hd)
def wp_M_isRightCode_168 (o : Option Value) (S' : cp_S) (S : cp_S) (x1 : Int32) (x2 : Int32) (x3 : Int32) (x4 : Int32) (x5 : Int32) (x6 : Int32) : Prop := ((¬ (x6 : Int32) = 0 → JJ 3 m_M_isRightCode o S' 3 [(1, .int x1), (2, .int x2), (3, .int x3), (4, .int (x4 + 1))] S) ∧ ((x6 : Int32) = 0 → vp_in (x4 - (S.1 20)) (cp_ml 42) ∧ (o = some (.int 0) ∧ S' = ((va_up S.1 59 ((S.2 42) (Int32.toNatClampNeg (x4 - (S.1 20))))), S.2) ∧ narrow .boolean (.int 0) = .int 0)))
theorem b_M_isRightCode_168 {o : Option Value} {S' S : cp_S} {x1 : Int32} {x2 : Int32} {x3 : Int32} {x4 : Int32} {x5 : Int32} {x6 : Int32} (w : wp_M_isRightCode_168 o S' S x1 x2 x3 x4 x5 x6) : JJ 3 m_M_isRightCode o S' 168 [(1, .int x1), (2, .int x2), (3, .int x3), (4, .int x4), (5, .int x5), (6, .int x6)] S := by
  unfold wp_M_isRightCode_168 at w
  intro G h n z d hn hd
  refine vv_iload (pc := 168) d_M_isRightCode_168 rfl ?_
  refine vv_if_ne (pc := 170) (tgt := 191) d_M_isRightCode_170 rfl (fun hc => ?_) (fun hc => ?_)
  · replace w := w.1 hc
    refine vv_iinc (pc := 191) (v := (x4 + 1)) d_M_isRightCode_191 rfl rfl (Nat.le_of_ble_eq_true rfl) ?_
    refine vv_goto (pc := 194) (tgt := 3) d_M_isRightCode_194 rfl ?_
    exact vv_sub [1, 2, 3, 4, 0] rfl (w G h n z d hn hd)
  · replace w := w.2 hc
    refine vv_aload_n (pc := 173) d_M_isRightCode_173 rfl ?_
    refine vv_aload_n (pc := 174) d_M_isRightCode_174 rfl ?_
    refine ww_gr (pc := 175) 21 42 d_M_isRightCode_175 fl_M_55 (by omega) rfl (by decide) ?_
    refine vv_iload (pc := 178) d_M_isRightCode_178 rfl ?_
    refine vv_aload_n (pc := 180) d_M_isRightCode_180 rfl ?_
    refine ww_gi (pc := 181) 20 d_M_isRightCode_181 fl_M_197 (by omega) rfl ?_
    refine vv_isub (pc := 184) d_M_isRightCode_184 ?_
    obtain ⟨b1, w⟩ := w
    refine ww_ld (pc := 185) 42 d_M_isRightCode_185 (by omega) (by decide) b1 ?_
    refine ww_pi (pc := 186) 59 d_M_isRightCode_186 fl_M_367 (by omega) rfl rfl rfl rfl ?_
    refine vv_iconst (pc := 189) (v := 0) d_M_isRightCode_189 rfl ?_
    obtain ⟨rfl, rfl, hx⟩ := w
    exact vv_zret (pc := 190) d_M_isRightCode_190 rfl hx
def wp_M_program_0 (o : Option Value) (S' : cp_S) (S : cp_S) (x1 : Int32) : Prop := ∃ r3 T2, MC 1 m_M_mayName [.int x1] S (some (.int r3)) T2 ∧ ((¬ (r3 : Int32) = 0 → ∃ r6 T5, MC 5 m_M_read [.int 209, .int 0, .int 0] T2 (some (.int r6)) T5 ∧ ((0 ≤ (r6 : Int32) → JJ 6 m_M_program o S' 53 [(1, .int x1), (2, .int (x1 - 65)), (3, .int (T2.1 16)), (4, .int r6), (5, .int (T5.1 34))] T5) ∧ (¬ 0 ≤ (r6 : Int32) → ∃ r9 T8, MC 3 m_M_isRightCode [.int (x1 - 65), .int (T2.1 16), .int (T5.1 34)] T5 (some (.int r9)) T8 ∧ ((¬ (r9 : Int32) = 0 → vp_in (x1 - 65) (cp_ml 32) ∧ vp_in (x1 - 65) (cp_ml 33) ∧ vp_in (x1 - 65) (cp_ml 34) ∧ vp_in (x1 - 65) (cp_ml 36) ∧ JJ 6 m_M_program o S' 112 [(1, .int x1), (2, .int (x1 - 65)), (3, .int (T2.1 16)), (4, .int r6), (5, .int (T5.1 34)), (6, .int 0)] (T8.1, (va_up (va_up (va_up (va_up T8.2 32 (upd (T8.2 32) (Int32.toNatClampNeg (x1 - 65)) (T2.1 16))) 33 (upd (T8.2 33) (Int32.toNatClampNeg (x1 - 65)) (T8.1 23))) 34 (upd (T8.2 34) (Int32.toNatClampNeg (x1 - 65)) 0)) 36 (upd (T8.2 36) (Int32.toNatClampNeg (x1 - 65)) (T2.1 16))))) ∧ ((r9 : Int32) = 0 → JJ 6 m_M_program o S' 53 [(1, .int x1), (2, .int (x1 - 65)), (3, .int (T2.1 16)), (4, .int r6), (5, .int (T5.1 34))] T8))))) ∧ ((r3 : Int32) = 0 → (o = some (.int 0) ∧ S' = T2)))
theorem b_M_program_0 {o : Option Value} {S' S : cp_S} {x1 : Int32} (w : wp_M_program_0 o S' S x1) : JJ 6 m_M_program o S' 0 [(1, .int x1)] S := by
  unfold wp_M_program_0 at w
  intro G h n z d hn hd
  refine vv_aload_n (pc := 0) d_M_program_0 rfl ?_
  refine vv_iload_n (pc := 1) d_M_program_1 rfl ?_
  obtain ⟨r3, T2, c1, w⟩ := w
  refine vv_callV (pc := 2) (As := [.int x1]) d_M_program_2 (c1 G h n z (d - 1) hn (by omega)) k_M_mayName ml_M_425.1 ml_M_425.2.1 ml_M_425.2.2.1 ml_M_425.2.2.2.1 ml_M_425.2.2.2.2 (by omega) mm_26 (by omega) (Nat.le_of_ble_eq_true rfl) ?_
  refine vv_if_ne (pc := 5) (tgt := 10) d_M_program_5 rfl (fun hc => ?_) (fun hc => ?_)
  · replace w := w.1 hc
    refine vv_iload_n (pc := 10) d_M_program_10 rfl ?_
    refine vv_bipush (pc := 11) (v := 65) d_M_program_11 rfl ?_
    refine vv_isub (pc := 13) d_M_program_13 ?_
    refine vv_istore_n (pc := 14) d_M_program_14 (Nat.le_of_ble_eq_true rfl) ?_
    refine vv_aload_n (pc := 15) d_M_program_15 rfl ?_
    refine ww_gi (pc := 16) 16 d_M_program_16 fl_M_194 (by omega) rfl ?_
    refine vv_istore_n (pc := 19) d_M_program_19 (Nat.le_of_ble_eq_true rfl) ?_
    refine vv_aload_n (pc := 20) d_M_program_20 rfl ?_
    refine vv_sipush (pc := 21) (v := 209) d_M_program_21 rfl ?_
    refine vv_iconst (pc := 24) (v := 0) d_M_program_24 rfl ?_
    refine vv_iconst (pc := 25) (v := 0) d_M_program_25 rfl ?_
    obtain ⟨r6, T5, c4, w⟩ := w
    refine vv_callV (pc := 26) (As := [.int 209, .int 0, .int 0]) d_M_program_26 (c4 G h n z (d - 1) hn (by omega)) k_M_read ml_M_429.1 ml_M_429.2.1 ml_M_429.2.2.1 ml_M_429.2.2.2.1 ml_M_429.2.2.2.2 (by omega) mm_26 (by omega) (Nat.le_of_ble_eq_true rfl) ?_
    refine vv_istore (pc := 29) d_M_program_29 (Nat.le_of_ble_eq_true rfl) ?_
    refine vv_aload_n (pc := 31) d_M_program_31 rfl ?_
    refine ww_gi (pc := 32) 34 d_M_program_32 fl_M_243 (by omega) rfl ?_
    refine vv_istore (pc := 35) d_M_program_35 (Nat.le_of_ble_eq_true rfl) ?_
    refine vv_iload (pc := 37) d_M_program_37 rfl ?_
    refine vv_if_ge (pc := 39) (tgt := 53) d_M_program_39 rfl (fun hc => ?_) (fun hc => ?_)
    · replace w := w.1 hc
      exact vv_sub [4, 5, 3, 2, 1, 0] rfl (w G h n z d hn hd)
    · replace w := w.2 hc
      refine vv_aload_n (pc := 42) d_M_program_42 rfl ?_
      refine vv_iload_n (pc := 43) d_M_program_43 rfl ?_
      refine vv_iload_n (pc := 44) d_M_program_44 rfl ?_
      refine vv_iload (pc := 45) d_M_program_45 rfl ?_
      obtain ⟨r9, T8, c7, w⟩ := w
      refine vv_callV (pc := 47) (As := [.int (x1 - 65), .int (T2.1 16), .int (T5.1 34)]) d_M_program_47 (c7 G h n z (d - 1) hn (by omega)) k_M_isRightCode ml_M_441.1 ml_M_441.2.1 ml_M_441.2.2.1 ml_M_441.2.2.2.1 ml_M_441.2.2.2.2 (by omega) mm_26 (by omega) (Nat.le_of_ble_eq_true rfl) ?_
      refine vv_if_ne (pc := 50) (tgt := 78) d_M_program_50 rfl (fun hc => ?_) (fun hc => ?_)
      · replace w := w.1 hc
        refine vv_aload_n (pc := 78) d_M_program_78 rfl ?_
        refine ww_gr (pc := 79) 8 32 d_M_program_79 fl_M_25 (by omega) rfl (by decide) ?_
        refine vv_iload_n (pc := 82) d_M_program_82 rfl ?_
        refine vv_iload_n (pc := 83) d_M_program_83 rfl ?_
        obtain ⟨b10, w⟩ := w
        refine ww_st (pc := 84) 32 d_M_program_84 (by omega) (by decide) b10 ?_
        refine vv_aload_n (pc := 85) d_M_program_85 rfl ?_
        refine ww_gr (pc := 86) 9 33 d_M_program_86 fl_M_28 (by omega) rfl (by decide) ?_
        refine vv_iload_n (pc := 89) d_M_program_89 rfl ?_
        refine vv_aload_n (pc := 90) d_M_program_90 rfl ?_
        refine ww_gi (pc := 91) 23 d_M_program_91 fl_M_253 (by omega) rfl ?_
        obtain ⟨b11, w⟩ := w
        refine ww_st (pc := 94) 33 d_M_program_94 (by omega) (by decide) b11 ?_
        refine vv_aload_n (pc := 95) d_M_program_95 rfl ?_
        refine ww_gr (pc := 96) 10 34 d_M_program_96 fl_M_31 (by omega) rfl (by decide) ?_
        refine vv_iload_n (pc := 99) d_M_program_99 rfl ?_
        refine vv_iconst (pc := 100) (v := 0) d_M_program_100 rfl ?_
        obtain ⟨b12, w⟩ := w
        refine ww_st (pc := 101) 34 d_M_program_101 (by omega) (by decide) b12 ?_
        refine vv_aload_n (pc := 102) d_M_program_102 rfl ?_
        refine ww_gr (pc := 103) 12 36 d_M_program_103 fl_M_37 (by omega) rfl (by decide) ?_
        refine vv_iload_n (pc := 106) d_M_program_106 rfl ?_
        refine vv_iload_n (pc := 107) d_M_program_107 rfl ?_
        obtain ⟨b13, w⟩ := w
        refine ww_st (pc := 108) 36 d_M_program_108 (by omega) (by decide) b13 ?_
        refine vv_iconst (pc := 109) (v := 0) d_M_program_109 rfl ?_
        refine vv_istore (pc := 110) d_M_program_110 (Nat.le_of_ble_eq_true rfl) ?_
        exact vv_sub [5, 6, 4, 3, 2, 1, 0] rfl (w G h n z d hn hd)
      · replace w := w.2 hc
        exact vv_sub [4, 5, 3, 2, 1, 0] rfl (w G h n z d hn hd)
  · replace w := w.2 hc
    refine vv_iconst (pc := 8) (v := 0) d_M_program_8 rfl ?_
    obtain ⟨rfl, rfl⟩ := w
    exact vv_iret (pc := 9) d_M_program_9 rfl
theorem c_M_program {o : Option Value} {S' S : cp_S} {x1 : Int32} (w : JJ 6 m_M_program o S' 0 [(1, .int x1)] S) : MC 6 m_M_program [.int x1] S o S' := fun G h n z d hn hd => cp_C.of rfl (Nat.le_of_ble_eq_true rfl) (w G h n z d hn hd)
def wp_M_program_53 (o : Option Value) (S' : cp_S) (S : cp_S) (x1 : Int32) (x2 : Int32) (x3 : Int32) (x4 : Int32) (x5 : Int32) : Prop := (((x4 : Int32) < 0 → (o = some (.int ((-100) - (S.1 59))) ∧ S' = ((va_up S.1 16 x3), S.2))) ∧ (¬ (x4 : Int32) < 0 → (o = some (.int ((-1) - x4)) ∧ S' = ((va_up S.1 16 x3), S.2))))
theorem b_M_program_53 {o : Option Value} {S' S : cp_S} {x1 : Int32} {x2 : Int32} {x3 : Int32} {x4 : Int32} {x5 : Int32} (w : wp_M_program_53 o S' S x1 x2 x3 x4 x5) : JJ 6 m_M_program o S' 53 [(1, .int x1), (2, .int x2), (3, .int x3), (4, .int x4), (5, .int x5)] S := by
  unfold wp_M_program_53 at w
  intro G h n z d hn hd
  refine vv_aload_n (pc := 53) d_M_program_53 rfl ?_
  refine vv_iload_n (pc := 54) d_M_program_54 rfl ?_
  refine ww_pi (pc := 55) 16 d_M_program_55 fl_M_194 (by omega) rfl rfl rfl rfl ?_
  refine vv_iload (pc := 58) d_M_program_58 rfl ?_
  refine vv_if_lt (pc := 60) (tgt := 70) d_M_program_60 rfl (fun hc => ?_) (fun hc => ?_)
  · replace w := w.1 hc
    refine vv_bipush (pc := 70) (v := (-100)) d_M_program_70 rfl ?_
    refine vv_aload_n (pc := 72) d_M_program_72 rfl ?_
    refine ww_gi (pc := 73) 59 d_M_program_73 fl_M_367 (by omega) rfl ?_
    refine vv_isub (pc := 76) d_M_program_76 ?_
    obtain ⟨rfl, rfl⟩ := w
    exact vv_iret (pc := 77) d_M_program_77 rfl
  · replace w := w.2 hc
    refine vv_iconst (pc := 63) (v := (-1)) d_M_program_63 rfl ?_
    refine vv_iload (pc := 64) d_M_program_64 rfl ?_
    refine vv_isub (pc := 66) d_M_program_66 ?_
    refine vv_goto (pc := 67) (tgt := 77) d_M_program_67 rfl ?_
    obtain ⟨rfl, rfl⟩ := w
    exact vv_iret (pc := 77) d_M_program_77 rfl
def wp_M_program_112 (o : Option Value) (S' : cp_S) (S : cp_S) (x1 : Int32) (x2 : Int32) (x3 : Int32) (x4 : Int32) (x5 : Int32) (x6 : Int32) : Prop := ((x5 ≤ (x6 : Int32) → ∃ T2, MC 0 m_M_remember [.int x2, .int 2, .int x5] S none T2 ∧ (o = some (.int x5) ∧ S' = T2)) ∧ (¬ x5 ≤ (x6 : Int32) → vp_in x6 (cp_ml 71) ∧ vp_in ((4 * x2) + x6) (cp_ml 37) ∧ JJ 6 m_M_program o S' 112 [(1, .int x1), (2, .int x2), (3, .int x3), (4, .int x4), (5, .int x5), (6, .int (x6 + 1))] (S.1, (va_up S.2 37 (upd (S.2 37) (Int32.toNatClampNeg ((4 * x2) + x6)) ((S.2 71) (Int32.toNatClampNeg x6)))))))
theorem b_M_program_112 {o : Option Value} {S' S : cp_S} {x1 : Int32} {x2 : Int32} {x3 : Int32} {x4 : Int32} {x5 : Int32} {x6 : Int32} (w : wp_M_program_112 o S' S x1 x2 x3 x4 x5 x6) : JJ 6 m_M_program o S' 112 [(1, .int x1), (2, .int x2), (3, .int x3), (4, .int x4), (5, .int x5), (6, .int x6)] S := by
  unfold wp_M_program_112 at w
  intro G h n z d hn hd
  refine vv_iload (pc := 112) d_M_program_112 rfl ?_
  refine vv_iload (pc := 114) d_M_program_114 rfl ?_
  refine vv_icmp_ge (pc := 116) (tgt := 143) d_M_program_116 rfl (fun hc => ?_) (fun hc => ?_)
  · replace w := w.1 hc
    refine vv_aload_n (pc := 143) d_M_program_143 rfl ?_
    refine vv_iload_n (pc := 144) d_M_program_144 rfl ?_
    refine vv_iconst (pc := 145) (v := 2) d_M_program_145 rfl ?_
    refine vv_iload (pc := 146) d_M_program_146 rfl ?_
    obtain ⟨T2, c1, w⟩ := w
    refine vv_callV (pc := 148) (As := [.int x2, .int 2, .int x5]) d_M_program_148 (c1 G h n z (d - 1) hn (by omega)) k_M_remember ml_M_435.1 ml_M_435.2.1 ml_M_435.2.2.1 ml_M_435.2.2.2.1 ml_M_435.2.2.2.2 (by omega) mm_26 (by omega) (Nat.le_of_ble_eq_true rfl) ?_
    refine vv_iload (pc := 151) d_M_program_151 rfl ?_
    obtain ⟨rfl, rfl⟩ := w
    exact vv_iret (pc := 153) d_M_program_153 rfl
  · replace w := w.2 hc
    refine vv_aload_n (pc := 119) d_M_program_119 rfl ?_
    refine ww_gr (pc := 120) 13 37 d_M_program_120 fl_M_40 (by omega) rfl (by decide) ?_
    refine vv_iconst (pc := 123) (v := 4) d_M_program_123 rfl ?_
    refine vv_iload_n (pc := 124) d_M_program_124 rfl ?_
    refine vv_imul (pc := 125) d_M_program_125 ?_
    refine vv_iload (pc := 126) d_M_program_126 rfl ?_
    refine vv_iadd (pc := 128) d_M_program_128 ?_
    refine vv_aload_n (pc := 129) d_M_program_129 rfl ?_
    refine ww_gr (pc := 130) 65 71 d_M_program_130 fl_M_142 (by omega) rfl (by decide) ?_
    refine vv_iload (pc := 133) d_M_program_133 rfl ?_
    obtain ⟨b3, w⟩ := w
    refine ww_ld (pc := 135) 71 d_M_program_135 (by omega) (by decide) b3 ?_
    obtain ⟨b4, w⟩ := w
    refine ww_st (pc := 136) 37 d_M_program_136 (by omega) (by decide) b4 ?_
    refine vv_iinc (pc := 137) (v := (x6 + 1)) d_M_program_137 rfl rfl (Nat.le_of_ble_eq_true rfl) ?_
    refine vv_goto (pc := 140) (tgt := 112) d_M_program_140 rfl ?_
    exact vv_sub [1, 2, 3, 4, 5, 6, 0] rfl (w G h n z d hn hd)
def wp_M_check_0 (o : Option Value) (S' : cp_S) (S : cp_S) : Prop := ∃ r3 T2, MC 5 m_M_read [.int 200, .int 2, .int 1] ((va_up (va_up (va_up S.1 0 0) 60 0) 79 0), S.2) (some (.int r3)) T2 ∧ ∃ T5, MC 0 m_M_nothing [] T2 none T5 ∧ ∃ T7, MC 0 m_M_noNames [] T5 none T7 ∧ (((r3 : Int32) < 0 → ∃ r10 T9, MC 7 m_M_typeOf [.int (S.1 16)] T7 (some (.int r10)) T9 ∧ ((¬ (r10 : Int32) = (-1) → ((¬ (r10 : Int32) = (-2) → vp_in 0 (cp_ml 29) ∧ (((0 : Int32) = 0 → ∃ r14 T13, MC 2 m_M_draw [.int r10] ((va_up (va_up (va_up (va_up T9.1 16 (S.1 16)) 80 0) 75 0) 74 0), (va_up T9.2 29 (upd (T9.2 29) (Int32.toNatClampNeg 0) 42))) (some (.int r14)) T13 ∧ ((¬ (r14 : Int32) = (-200) → (narrow (cp_ty 11 81) (.int (T13.1 74)) = .int (T13.1 74) ∧ fits (cp_ty 11 81) (.int (T13.1 74)) = true) ∧ JJ 8 m_M_check o S' 167 [(1, .int (S.1 16)), (2, .int r3), (3, .int r10), (4, .int r14), (5, .int 0)] ((va_up (va_up (va_up T13.1 79 1) 81 (T13.1 74)) 82 (T13.1 75)), T13.2)) ∧ ((r14 : Int32) = (-200) → (o = some (.int (-200)) ∧ S' = T13)))) ∧ (¬ (0 : Int32) = 0 → ((¬ (1 : Int32) = (-200) → JJ 8 m_M_check o S' 167 [(1, .int (S.1 16)), (2, .int r3), (3, .int r10), (4, .int 1), (5, .int 0)] ((va_up (va_up (va_up (va_up (va_up (va_up (va_up T9.1 16 (S.1 16)) 80 0) 75 0) 74 0) 79 1) 81 0) 82 0), (va_up T9.2 29 (upd (T9.2 29) (Int32.toNatClampNeg 0) 42)))) ∧ ((1 : Int32) = (-200) → (o = some (.int (-200)) ∧ S' = ((va_up (va_up (va_up (va_up T9.1 16 (S.1 16)) 80 0) 75 0) 74 0), (va_up T9.2 29 (upd (T9.2 29) (Int32.toNatClampNeg 0) 42))))))))) ∧ ((r10 : Int32) = (-2) → vp_in 0 (cp_ml 29) ∧ (((1 : Int32) = 0 → ∃ r19 T18, MC 2 m_M_draw [.int r10] ((va_up (va_up (va_up (va_up T9.1 16 (S.1 16)) 80 1) 75 0) 74 0), (va_up T9.2 29 (upd (T9.2 29) (Int32.toNatClampNeg 0) 42))) (some (.int r19)) T18 ∧ ((¬ (r19 : Int32) = (-200) → (narrow (cp_ty 11 81) (.int (T18.1 74)) = .int (T18.1 74) ∧ fits (cp_ty 11 81) (.int (T18.1 74)) = true) ∧ JJ 8 m_M_check o S' 167 [(1, .int (S.1 16)), (2, .int r3), (3, .int r10), (4, .int r19), (5, .int 0)] ((va_up (va_up (va_up T18.1 79 1) 81 (T18.1 74)) 82 (T18.1 75)), T18.2)) ∧ ((r19 : Int32) = (-200) → (o = some (.int (-200)) ∧ S' = T18)))) ∧ (¬ (1 : Int32) = 0 → ((¬ (1 : Int32) = (-200) → JJ 8 m_M_check o S' 167 [(1, .int (S.1 16)), (2, .int r3), (3, .int r10), (4, .int 1), (5, .int 0)] ((va_up (va_up (va_up (va_up (va_up (va_up (va_up T9.1 16 (S.1 16)) 80 1) 75 0) 74 0) 79 1) 81 0) 82 0), (va_up T9.2 29 (upd (T9.2 29) (Int32.toNatClampNeg 0) 42)))) ∧ ((1 : Int32) = (-200) → (o = some (.int (-200)) ∧ S' = ((va_up (va_up (va_up (va_up T9.1 16 (S.1 16)) 80 1) 75 0) 74 0), (va_up T9.2 29 (upd (T9.2 29) (Int32.toNatClampNeg 0) 42))))))))))) ∧ ((r10 : Int32) = (-1) → (((r3 : Int32) < 0 → (o = some (.int ((-100) - (T9.1 59))) ∧ S' = ((va_up T9.1 16 (S.1 16)), T9.2))) ∧ (¬ (r3 : Int32) < 0 → (o = some (.int ((-1) - r3)) ∧ S' = ((va_up T9.1 16 (S.1 16)), T9.2))))))) ∧ (¬ (r3 : Int32) < 0 → ((¬ ((-1) : Int32) = (-1) → ((¬ ((-1) : Int32) = (-2) → vp_in 0 (cp_ml 29) ∧ (((0 : Int32) = 0 → ∃ r24 T23, MC 2 m_M_draw [.int (-1)] ((va_up (va_up (va_up (va_up T7.1 16 (S.1 16)) 80 0) 75 0) 74 0), (va_up T7.2 29 (upd (T7.2 29) (Int32.toNatClampNeg 0) 42))) (some (.int r24)) T23 ∧ ((¬ (r24 : Int32) = (-200) → (narrow (cp_ty 11 81) (.int (T23.1 74)) = .int (T23.1 74) ∧ fits (cp_ty 11 81) (.int (T23.1 74)) = true) ∧ JJ 8 m_M_check o S' 167 [(1, .int (S.1 16)), (2, .int r3), (3, .int (-1)), (4, .int r24), (5, .int 0)] ((va_up (va_up (va_up T23.1 79 1) 81 (T23.1 74)) 82 (T23.1 75)), T23.2)) ∧ ((r24 : Int32) = (-200) → (o = some (.int (-200)) ∧ S' = T23)))) ∧ (¬ (0 : Int32) = 0 → ((¬ (1 : Int32) = (-200) → JJ 8 m_M_check o S' 167 [(1, .int (S.1 16)), (2, .int r3), (3, .int (-1)), (4, .int 1), (5, .int 0)] ((va_up (va_up (va_up (va_up (va_up (va_up (va_up T7.1 16 (S.1 16)) 80 0) 75 0) 74 0) 79 1) 81 0) 82 0), (va_up T7.2 29 (upd (T7.2 29) (Int32.toNatClampNeg 0) 42)))) ∧ ((1 : Int32) = (-200) → (o = some (.int (-200)) ∧ S' = ((va_up (va_up (va_up (va_up T7.1 16 (S.1 16)) 80 0) 75 0) 74 0), (va_up T7.2 29 (upd (T7.2 29) (Int32.toNatClampNeg 0) 42))))))))) ∧ (((-1) : Int32) = (-2) → vp_in 0 (cp_ml 29) ∧ (((1 : Int32) = 0 → ∃ r29 T28, MC 2 m_M_draw [.int (-1)] ((va_up (va_up (va_up (va_up T7.1 16 (S.1 16)) 80 1) 75 0) 74 0), (va_up T7.2 29 (upd (T7.2 29) (Int32.toNatClampNeg 0) 42))) (some (.int r29)) T28 ∧ ((¬ (r29 : Int32) = (-200) → (narrow (cp_ty 11 81) (.int (T28.1 74)) = .int (T28.1 74) ∧ fits (cp_ty 11 81) (.int (T28.1 74)) = true) ∧ JJ 8 m_M_check o S' 167 [(1, .int (S.1 16)), (2, .int r3), (3, .int (-1)), (4, .int r29), (5, .int 0)] ((va_up (va_up (va_up T28.1 79 1) 81 (T28.1 74)) 82 (T28.1 75)), T28.2)) ∧ ((r29 : Int32) = (-200) → (o = some (.int (-200)) ∧ S' = T28)))) ∧ (¬ (1 : Int32) = 0 → ((¬ (1 : Int32) = (-200) → JJ 8 m_M_check o S' 167 [(1, .int (S.1 16)), (2, .int r3), (3, .int (-1)), (4, .int 1), (5, .int 0)] ((va_up (va_up (va_up (va_up (va_up (va_up (va_up T7.1 16 (S.1 16)) 80 1) 75 0) 74 0) 79 1) 81 0) 82 0), (va_up T7.2 29 (upd (T7.2 29) (Int32.toNatClampNeg 0) 42)))) ∧ ((1 : Int32) = (-200) → (o = some (.int (-200)) ∧ S' = ((va_up (va_up (va_up (va_up T7.1 16 (S.1 16)) 80 1) 75 0) 74 0), (va_up T7.2 29 (upd (T7.2 29) (Int32.toNatClampNeg 0) 42))))))))))) ∧ (((-1) : Int32) = (-1) → (((r3 : Int32) < 0 → (o = some (.int ((-100) - (T7.1 59))) ∧ S' = ((va_up T7.1 16 (S.1 16)), T7.2))) ∧ (¬ (r3 : Int32) < 0 → (o = some (.int ((-1) - r3)) ∧ S' = ((va_up T7.1 16 (S.1 16)), T7.2))))))))
theorem b_M_check_0 {o : Option Value} {S' S : cp_S} (w : wp_M_check_0 o S' S) : JJ 8 m_M_check o S' 0 [] S := by
  unfold wp_M_check_0 at w
  intro G h n z d hn hd
  refine vv_aload_n (pc := 0) d_M_check_0 rfl ?_
  refine vv_iconst (pc := 1) (v := 0) d_M_check_1 rfl ?_
  refine ww_pi (pc := 2) 0 d_M_check_2 fl_M_184 (by omega) rfl rfl rfl rfl ?_
  refine vv_aload_n (pc := 5) d_M_check_5 rfl ?_
  refine vv_iconst (pc := 6) (v := 0) d_M_check_6 rfl ?_
  refine ww_pi (pc := 7) 60 d_M_check_7 fl_M_329 (by omega) rfl rfl rfl rfl ?_
  refine vv_aload_n (pc := 10) d_M_check_10 rfl ?_
  refine vv_iconst (pc := 11) (v := 0) d_M_check_11 rfl ?_
  refine ww_pi (pc := 12) 79 d_M_check_12 fl_M_444 (by omega) rfl rfl rfl rfl ?_
  refine vv_aload_n (pc := 15) d_M_check_15 rfl ?_
  refine ww_gi (pc := 16) 16 d_M_check_16 fl_M_194 (by omega) rfl ?_
  refine vv_istore_n (pc := 19) d_M_check_19 (Nat.le_of_ble_eq_true rfl) ?_
  refine vv_aload_n (pc := 20) d_M_check_20 rfl ?_
  refine vv_sipush (pc := 21) (v := 200) d_M_check_21 rfl ?_
  refine vv_iconst (pc := 24) (v := 2) d_M_check_24 rfl ?_
  refine vv_iconst (pc := 25) (v := 1) d_M_check_25 rfl ?_
  obtain ⟨r3, T2, c1, w⟩ := w
  refine vv_callV (pc := 26) (As := [.int 200, .int 2, .int 1]) d_M_check_26 (c1 G h n z (d - 1) hn (by omega)) k_M_read ml_M_429.1 ml_M_429.2.1 ml_M_429.2.2.1 ml_M_429.2.2.2.1 ml_M_429.2.2.2.2 (by omega) mm_26 (by omega) (Nat.le_of_ble_eq_true rfl) ?_
  refine vv_istore_n (pc := 29) d_M_check_29 (Nat.le_of_ble_eq_true rfl) ?_
  refine vv_aload_n (pc := 30) d_M_check_30 rfl ?_
  obtain ⟨T5, c4, w⟩ := w
  refine vv_callV (pc := 31) (As := []) d_M_check_31 (c4 G h n z (d - 1) hn (by omega)) k_M_nothing ml_M_410.1 ml_M_410.2.1 ml_M_410.2.2.1 ml_M_410.2.2.2.1 ml_M_410.2.2.2.2 (by omega) mm_26 (by omega) (Nat.le_of_ble_eq_true rfl) ?_
  refine vv_aload_n (pc := 34) d_M_check_34 rfl ?_
  obtain ⟨T7, c6, w⟩ := w
  refine vv_callV (pc := 35) (As := []) d_M_check_35 (c6 G h n z (d - 1) hn (by omega)) k_M_noNames ml_M_413.1 ml_M_413.2.1 ml_M_413.2.2.1 ml_M_413.2.2.2.1 ml_M_413.2.2.2.2 (by omega) mm_26 (by omega) (Nat.le_of_ble_eq_true rfl) ?_
  refine vv_iload_n (pc := 38) d_M_check_38 rfl ?_
  refine vv_if_lt (pc := 39) (tgt := 46) d_M_check_39 rfl (fun hc => ?_) (fun hc => ?_)
  · replace w := w.1 hc
    refine vv_aload_n (pc := 46) d_M_check_46 rfl ?_
    refine vv_iload_n (pc := 47) d_M_check_47 rfl ?_
    obtain ⟨r10, T9, c8, w⟩ := w
    refine vv_callV (pc := 48) (As := [.int (S.1 16)]) d_M_check_48 (c8 G h n z (d - 1) hn (by omega)) k_M_typeOf ml_M_407.1 ml_M_407.2.1 ml_M_407.2.2.1 ml_M_407.2.2.2.1 ml_M_407.2.2.2.2 (by omega) mm_26 (by omega) (Nat.le_of_ble_eq_true rfl) ?_
    refine vv_istore_n (pc := 51) d_M_check_51 (Nat.le_of_ble_eq_true rfl) ?_
    refine vv_aload_n (pc := 52) d_M_check_52 rfl ?_
    refine vv_iload_n (pc := 53) d_M_check_53 rfl ?_
    refine ww_pi (pc := 54) 16 d_M_check_54 fl_M_194 (by omega) rfl rfl rfl rfl ?_
    refine vv_iload_n (pc := 57) d_M_check_57 rfl ?_
    refine vv_iconst (pc := 58) (v := (-1)) d_M_check_58 rfl ?_
    refine vv_icmp_ne (pc := 59) (tgt := 80) d_M_check_59 rfl (fun hc => ?_) (fun hc => ?_)
    · replace w := w.1 hc
      refine vv_aload_n (pc := 80) d_M_check_80 rfl ?_
      refine vv_iload_n (pc := 81) d_M_check_81 rfl ?_
      refine vv_bipush (pc := 82) (v := (-2)) d_M_check_82 rfl ?_
      refine vv_icmp_ne (pc := 84) (tgt := 91) d_M_check_84 rfl (fun hc => ?_) (fun hc => ?_)
      · replace w := w.1 hc
        refine vv_iconst (pc := 91) (v := 0) d_M_check_91 rfl ?_
        refine ww_pi (pc := 92) 80 d_M_check_92 fl_M_447 (by omega) rfl rfl rfl rfl ?_
        refine vv_aload_n (pc := 95) d_M_check_95 rfl ?_
        refine vv_iconst (pc := 96) (v := 0) d_M_check_96 rfl ?_
        refine ww_pi (pc := 97) 75 d_M_check_97 fl_M_302 (by omega) rfl rfl rfl rfl ?_
        refine vv_aload_n (pc := 100) d_M_check_100 rfl ?_
        refine vv_iconst (pc := 101) (v := 0) d_M_check_101 rfl ?_
        refine ww_pi (pc := 102) 74 d_M_check_102 fl_M_305 (by omega) rfl rfl rfl rfl ?_
        refine vv_aload_n (pc := 105) d_M_check_105 rfl ?_
        refine ww_gr (pc := 106) 5 29 d_M_check_106 fl_M_16 (by omega) rfl (by decide) ?_
        refine vv_iconst (pc := 109) (v := 0) d_M_check_109 rfl ?_
        refine vv_bipush (pc := 110) (v := 42) d_M_check_110 rfl ?_
        obtain ⟨b11, w⟩ := w
        refine ww_st (pc := 112) 29 d_M_check_112 (by omega) (by decide) b11 ?_
        refine vv_aload_n (pc := 113) d_M_check_113 rfl ?_
        refine ww_gi (pc := 114) 80 d_M_check_114 fl_M_447 (by omega) rfl ?_
        refine vv_topi (y := 0) rfl ?_
        refine vv_if_eq (pc := 117) (tgt := 124) d_M_check_117 rfl (fun hc => ?_) (fun hc => ?_)
        · replace w := w.1 hc
          refine vv_aload_n (pc := 124) d_M_check_124 rfl ?_
          refine vv_iload_n (pc := 125) d_M_check_125 rfl ?_
          obtain ⟨r14, T13, c12, w⟩ := w
          refine vv_callV (pc := 126) (As := [.int r10]) d_M_check_126 (c12 G h n z (d - 1) hn (by omega)) k_M_draw ml_M_450.1 ml_M_450.2.1 ml_M_450.2.2.1 ml_M_450.2.2.2.1 ml_M_450.2.2.2.2 (by omega) mm_26 (by omega) (Nat.le_of_ble_eq_true rfl) ?_
          refine vv_istore (pc := 129) d_M_check_129 (Nat.le_of_ble_eq_true rfl) ?_
          refine vv_iload (pc := 131) d_M_check_131 rfl ?_
          refine vv_sipush (pc := 133) (v := (-200)) d_M_check_133 rfl ?_
          refine vv_icmp_ne (pc := 136) (tgt := 143) d_M_check_136 rfl (fun hc => ?_) (fun hc => ?_)
          · replace w := w.1 hc
            refine vv_aload_n (pc := 143) d_M_check_143 rfl ?_
            refine vv_iconst (pc := 144) (v := 1) d_M_check_144 rfl ?_
            refine ww_pi (pc := 145) 79 d_M_check_145 fl_M_444 (by omega) rfl rfl rfl rfl ?_
            refine vv_aload_n (pc := 148) d_M_check_148 rfl ?_
            refine vv_aload_n (pc := 149) d_M_check_149 rfl ?_
            refine ww_gi (pc := 150) 74 d_M_check_150 fl_M_305 (by omega) rfl ?_
            obtain ⟨⟨b15, b15f⟩, w⟩ := w
            refine ww_pi (pc := 153) 81 d_M_check_153 fl_M_453 (by omega) rfl rfl b15 b15f ?_
            refine vv_aload_n (pc := 156) d_M_check_156 rfl ?_
            refine vv_aload_n (pc := 157) d_M_check_157 rfl ?_
            refine ww_gi (pc := 158) 75 d_M_check_158 fl_M_302 (by omega) rfl ?_
            refine ww_pi (pc := 161) 82 d_M_check_161 fl_M_456 (by omega) rfl rfl rfl rfl ?_
            refine vv_iconst (pc := 164) (v := 0) d_M_check_164 rfl ?_
            refine vv_istore (pc := 165) d_M_check_165 (Nat.le_of_ble_eq_true rfl) ?_
            exact vv_sub [5, 4, 3, 2, 1, 0] rfl (w G h n z d hn hd)
          · replace w := w.2 hc
            refine vv_sipush (pc := 139) (v := (-200)) d_M_check_139 rfl ?_
            obtain ⟨rfl, rfl⟩ := w
            exact vv_iret (pc := 142) d_M_check_142 rfl
        · replace w := w.2 hc
          refine vv_iconst (pc := 120) (v := 1) d_M_check_120 rfl ?_
          refine vv_goto (pc := 121) (tgt := 129) d_M_check_121 rfl ?_
          refine vv_istore (pc := 129) d_M_check_129 (Nat.le_of_ble_eq_true rfl) ?_
          refine vv_iload (pc := 131) d_M_check_131 rfl ?_
          refine vv_sipush (pc := 133) (v := (-200)) d_M_check_133 rfl ?_
          refine vv_icmp_ne (pc := 136) (tgt := 143) d_M_check_136 rfl (fun hc => ?_) (fun hc => ?_)
          · replace w := w.1 hc
            refine vv_aload_n (pc := 143) d_M_check_143 rfl ?_
            refine vv_iconst (pc := 144) (v := 1) d_M_check_144 rfl ?_
            refine ww_pi (pc := 145) 79 d_M_check_145 fl_M_444 (by omega) rfl rfl rfl rfl ?_
            refine vv_aload_n (pc := 148) d_M_check_148 rfl ?_
            refine vv_aload_n (pc := 149) d_M_check_149 rfl ?_
            refine ww_gi (pc := 150) 74 d_M_check_150 fl_M_305 (by omega) rfl ?_
            refine vv_topi (y := 0) rfl ?_
            refine ww_pi (pc := 153) 81 d_M_check_153 fl_M_453 (by omega) rfl rfl rfl rfl ?_
            refine vv_aload_n (pc := 156) d_M_check_156 rfl ?_
            refine vv_aload_n (pc := 157) d_M_check_157 rfl ?_
            refine ww_gi (pc := 158) 75 d_M_check_158 fl_M_302 (by omega) rfl ?_
            refine vv_topi (y := 0) rfl ?_
            refine ww_pi (pc := 161) 82 d_M_check_161 fl_M_456 (by omega) rfl rfl rfl rfl ?_
            refine vv_iconst (pc := 164) (v := 0) d_M_check_164 rfl ?_
            refine vv_istore (pc := 165) d_M_check_165 (Nat.le_of_ble_eq_true rfl) ?_
            exact vv_sub [5, 4, 3, 2, 1, 0] rfl (w G h n z d hn hd)
          · replace w := w.2 hc
            refine vv_sipush (pc := 139) (v := (-200)) d_M_check_139 rfl ?_
            obtain ⟨rfl, rfl⟩ := w
            exact vv_iret (pc := 142) d_M_check_142 rfl
      · replace w := w.2 hc
        refine vv_iconst (pc := 87) (v := 1) d_M_check_87 rfl ?_
        refine vv_goto (pc := 88) (tgt := 92) d_M_check_88 rfl ?_
        refine ww_pi (pc := 92) 80 d_M_check_92 fl_M_447 (by omega) rfl rfl rfl rfl ?_
        refine vv_aload_n (pc := 95) d_M_check_95 rfl ?_
        refine vv_iconst (pc := 96) (v := 0) d_M_check_96 rfl ?_
        refine ww_pi (pc := 97) 75 d_M_check_97 fl_M_302 (by omega) rfl rfl rfl rfl ?_
        refine vv_aload_n (pc := 100) d_M_check_100 rfl ?_
        refine vv_iconst (pc := 101) (v := 0) d_M_check_101 rfl ?_
        refine ww_pi (pc := 102) 74 d_M_check_102 fl_M_305 (by omega) rfl rfl rfl rfl ?_
        refine vv_aload_n (pc := 105) d_M_check_105 rfl ?_
        refine ww_gr (pc := 106) 5 29 d_M_check_106 fl_M_16 (by omega) rfl (by decide) ?_
        refine vv_iconst (pc := 109) (v := 0) d_M_check_109 rfl ?_
        refine vv_bipush (pc := 110) (v := 42) d_M_check_110 rfl ?_
        obtain ⟨b16, w⟩ := w
        refine ww_st (pc := 112) 29 d_M_check_112 (by omega) (by decide) b16 ?_
        refine vv_aload_n (pc := 113) d_M_check_113 rfl ?_
        refine ww_gi (pc := 114) 80 d_M_check_114 fl_M_447 (by omega) rfl ?_
        refine vv_topi (y := 1) rfl ?_
        refine vv_if_eq (pc := 117) (tgt := 124) d_M_check_117 rfl (fun hc => ?_) (fun hc => ?_)
        · replace w := w.1 hc
          refine vv_aload_n (pc := 124) d_M_check_124 rfl ?_
          refine vv_iload_n (pc := 125) d_M_check_125 rfl ?_
          obtain ⟨r19, T18, c17, w⟩ := w
          refine vv_callV (pc := 126) (As := [.int r10]) d_M_check_126 (c17 G h n z (d - 1) hn (by omega)) k_M_draw ml_M_450.1 ml_M_450.2.1 ml_M_450.2.2.1 ml_M_450.2.2.2.1 ml_M_450.2.2.2.2 (by omega) mm_26 (by omega) (Nat.le_of_ble_eq_true rfl) ?_
          refine vv_istore (pc := 129) d_M_check_129 (Nat.le_of_ble_eq_true rfl) ?_
          refine vv_iload (pc := 131) d_M_check_131 rfl ?_
          refine vv_sipush (pc := 133) (v := (-200)) d_M_check_133 rfl ?_
          refine vv_icmp_ne (pc := 136) (tgt := 143) d_M_check_136 rfl (fun hc => ?_) (fun hc => ?_)
          · replace w := w.1 hc
            refine vv_aload_n (pc := 143) d_M_check_143 rfl ?_
            refine vv_iconst (pc := 144) (v := 1) d_M_check_144 rfl ?_
            refine ww_pi (pc := 145) 79 d_M_check_145 fl_M_444 (by omega) rfl rfl rfl rfl ?_
            refine vv_aload_n (pc := 148) d_M_check_148 rfl ?_
            refine vv_aload_n (pc := 149) d_M_check_149 rfl ?_
            refine ww_gi (pc := 150) 74 d_M_check_150 fl_M_305 (by omega) rfl ?_
            obtain ⟨⟨b20, b20f⟩, w⟩ := w
            refine ww_pi (pc := 153) 81 d_M_check_153 fl_M_453 (by omega) rfl rfl b20 b20f ?_
            refine vv_aload_n (pc := 156) d_M_check_156 rfl ?_
            refine vv_aload_n (pc := 157) d_M_check_157 rfl ?_
            refine ww_gi (pc := 158) 75 d_M_check_158 fl_M_302 (by omega) rfl ?_
            refine ww_pi (pc := 161) 82 d_M_check_161 fl_M_456 (by omega) rfl rfl rfl rfl ?_
            refine vv_iconst (pc := 164) (v := 0) d_M_check_164 rfl ?_
            refine vv_istore (pc := 165) d_M_check_165 (Nat.le_of_ble_eq_true rfl) ?_
            exact vv_sub [5, 4, 3, 2, 1, 0] rfl (w G h n z d hn hd)
          · replace w := w.2 hc
            refine vv_sipush (pc := 139) (v := (-200)) d_M_check_139 rfl ?_
            obtain ⟨rfl, rfl⟩ := w
            exact vv_iret (pc := 142) d_M_check_142 rfl
        · replace w := w.2 hc
          refine vv_iconst (pc := 120) (v := 1) d_M_check_120 rfl ?_
          refine vv_goto (pc := 121) (tgt := 129) d_M_check_121 rfl ?_
          refine vv_istore (pc := 129) d_M_check_129 (Nat.le_of_ble_eq_true rfl) ?_
          refine vv_iload (pc := 131) d_M_check_131 rfl ?_
          refine vv_sipush (pc := 133) (v := (-200)) d_M_check_133 rfl ?_
          refine vv_icmp_ne (pc := 136) (tgt := 143) d_M_check_136 rfl (fun hc => ?_) (fun hc => ?_)
          · replace w := w.1 hc
            refine vv_aload_n (pc := 143) d_M_check_143 rfl ?_
            refine vv_iconst (pc := 144) (v := 1) d_M_check_144 rfl ?_
            refine ww_pi (pc := 145) 79 d_M_check_145 fl_M_444 (by omega) rfl rfl rfl rfl ?_
            refine vv_aload_n (pc := 148) d_M_check_148 rfl ?_
            refine vv_aload_n (pc := 149) d_M_check_149 rfl ?_
            refine ww_gi (pc := 150) 74 d_M_check_150 fl_M_305 (by omega) rfl ?_
            refine vv_topi (y := 0) rfl ?_
            refine ww_pi (pc := 153) 81 d_M_check_153 fl_M_453 (by omega) rfl rfl rfl rfl ?_
            refine vv_aload_n (pc := 156) d_M_check_156 rfl ?_
            refine vv_aload_n (pc := 157) d_M_check_157 rfl ?_
            refine ww_gi (pc := 158) 75 d_M_check_158 fl_M_302 (by omega) rfl ?_
            refine vv_topi (y := 0) rfl ?_
            refine ww_pi (pc := 161) 82 d_M_check_161 fl_M_456 (by omega) rfl rfl rfl rfl ?_
            refine vv_iconst (pc := 164) (v := 0) d_M_check_164 rfl ?_
            refine vv_istore (pc := 165) d_M_check_165 (Nat.le_of_ble_eq_true rfl) ?_
            exact vv_sub [5, 4, 3, 2, 1, 0] rfl (w G h n z d hn hd)
          · replace w := w.2 hc
            refine vv_sipush (pc := 139) (v := (-200)) d_M_check_139 rfl ?_
            obtain ⟨rfl, rfl⟩ := w
            exact vv_iret (pc := 142) d_M_check_142 rfl
    · replace w := w.2 hc
      refine vv_iload_n (pc := 62) d_M_check_62 rfl ?_
      refine vv_if_lt (pc := 63) (tgt := 72) d_M_check_63 rfl (fun hc => ?_) (fun hc => ?_)
      · replace w := w.1 hc
        refine vv_bipush (pc := 72) (v := (-100)) d_M_check_72 rfl ?_
        refine vv_aload_n (pc := 74) d_M_check_74 rfl ?_
        refine ww_gi (pc := 75) 59 d_M_check_75 fl_M_367 (by omega) rfl ?_
        refine vv_isub (pc := 78) d_M_check_78 ?_
        obtain ⟨rfl, rfl⟩ := w
        exact vv_iret (pc := 79) d_M_check_79 rfl
      · replace w := w.2 hc
        refine vv_iconst (pc := 66) (v := (-1)) d_M_check_66 rfl ?_
        refine vv_iload_n (pc := 67) d_M_check_67 rfl ?_
        refine vv_isub (pc := 68) d_M_check_68 ?_
        refine vv_goto (pc := 69) (tgt := 79) d_M_check_69 rfl ?_
        obtain ⟨rfl, rfl⟩ := w
        exact vv_iret (pc := 79) d_M_check_79 rfl
  · replace w := w.2 hc
    refine vv_iconst (pc := 42) (v := (-1)) d_M_check_42 rfl ?_
    refine vv_goto (pc := 43) (tgt := 51) d_M_check_43 rfl ?_
    refine vv_istore_n (pc := 51) d_M_check_51 (Nat.le_of_ble_eq_true rfl) ?_
    refine vv_aload_n (pc := 52) d_M_check_52 rfl ?_
    refine vv_iload_n (pc := 53) d_M_check_53 rfl ?_
    refine ww_pi (pc := 54) 16 d_M_check_54 fl_M_194 (by omega) rfl rfl rfl rfl ?_
    refine vv_iload_n (pc := 57) d_M_check_57 rfl ?_
    refine vv_iconst (pc := 58) (v := (-1)) d_M_check_58 rfl ?_
    refine vv_icmp_ne (pc := 59) (tgt := 80) d_M_check_59 rfl (fun hc => ?_) (fun hc => ?_)
    · replace w := w.1 hc
      refine vv_aload_n (pc := 80) d_M_check_80 rfl ?_
      refine vv_iload_n (pc := 81) d_M_check_81 rfl ?_
      refine vv_bipush (pc := 82) (v := (-2)) d_M_check_82 rfl ?_
      refine vv_icmp_ne (pc := 84) (tgt := 91) d_M_check_84 rfl (fun hc => ?_) (fun hc => ?_)
      · replace w := w.1 hc
        refine vv_iconst (pc := 91) (v := 0) d_M_check_91 rfl ?_
        refine ww_pi (pc := 92) 80 d_M_check_92 fl_M_447 (by omega) rfl rfl rfl rfl ?_
        refine vv_aload_n (pc := 95) d_M_check_95 rfl ?_
        refine vv_iconst (pc := 96) (v := 0) d_M_check_96 rfl ?_
        refine ww_pi (pc := 97) 75 d_M_check_97 fl_M_302 (by omega) rfl rfl rfl rfl ?_
        refine vv_aload_n (pc := 100) d_M_check_100 rfl ?_
        refine vv_iconst (pc := 101) (v := 0) d_M_check_101 rfl ?_
        refine ww_pi (pc := 102) 74 d_M_check_102 fl_M_305 (by omega) rfl rfl rfl rfl ?_
        refine vv_aload_n (pc := 105) d_M_check_105 rfl ?_
        refine ww_gr (pc := 106) 5 29 d_M_check_106 fl_M_16 (by omega) rfl (by decide) ?_
        refine vv_iconst (pc := 109) (v := 0) d_M_check_109 rfl ?_
        refine vv_bipush (pc := 110) (v := 42) d_M_check_110 rfl ?_
        obtain ⟨b21, w⟩ := w
        refine ww_st (pc := 112) 29 d_M_check_112 (by omega) (by decide) b21 ?_
        refine vv_aload_n (pc := 113) d_M_check_113 rfl ?_
        refine ww_gi (pc := 114) 80 d_M_check_114 fl_M_447 (by omega) rfl ?_
        refine vv_topi (y := 0) rfl ?_
        refine vv_if_eq (pc := 117) (tgt := 124) d_M_check_117 rfl (fun hc => ?_) (fun hc => ?_)
        · replace w := w.1 hc
          refine vv_aload_n (pc := 124) d_M_check_124 rfl ?_
          refine vv_iload_n (pc := 125) d_M_check_125 rfl ?_
          obtain ⟨r24, T23, c22, w⟩ := w
          refine vv_callV (pc := 126) (As := [.int (-1)]) d_M_check_126 (c22 G h n z (d - 1) hn (by omega)) k_M_draw ml_M_450.1 ml_M_450.2.1 ml_M_450.2.2.1 ml_M_450.2.2.2.1 ml_M_450.2.2.2.2 (by omega) mm_26 (by omega) (Nat.le_of_ble_eq_true rfl) ?_
          refine vv_istore (pc := 129) d_M_check_129 (Nat.le_of_ble_eq_true rfl) ?_
          refine vv_iload (pc := 131) d_M_check_131 rfl ?_
          refine vv_sipush (pc := 133) (v := (-200)) d_M_check_133 rfl ?_
          refine vv_icmp_ne (pc := 136) (tgt := 143) d_M_check_136 rfl (fun hc => ?_) (fun hc => ?_)
          · replace w := w.1 hc
            refine vv_aload_n (pc := 143) d_M_check_143 rfl ?_
            refine vv_iconst (pc := 144) (v := 1) d_M_check_144 rfl ?_
            refine ww_pi (pc := 145) 79 d_M_check_145 fl_M_444 (by omega) rfl rfl rfl rfl ?_
            refine vv_aload_n (pc := 148) d_M_check_148 rfl ?_
            refine vv_aload_n (pc := 149) d_M_check_149 rfl ?_
            refine ww_gi (pc := 150) 74 d_M_check_150 fl_M_305 (by omega) rfl ?_
            obtain ⟨⟨b25, b25f⟩, w⟩ := w
            refine ww_pi (pc := 153) 81 d_M_check_153 fl_M_453 (by omega) rfl rfl b25 b25f ?_
            refine vv_aload_n (pc := 156) d_M_check_156 rfl ?_
            refine vv_aload_n (pc := 157) d_M_check_157 rfl ?_
            refine ww_gi (pc := 158) 75 d_M_check_158 fl_M_302 (by omega) rfl ?_
            refine ww_pi (pc := 161) 82 d_M_check_161 fl_M_456 (by omega) rfl rfl rfl rfl ?_
            refine vv_iconst (pc := 164) (v := 0) d_M_check_164 rfl ?_
            refine vv_istore (pc := 165) d_M_check_165 (Nat.le_of_ble_eq_true rfl) ?_
            exact vv_sub [5, 4, 3, 2, 1, 0] rfl (w G h n z d hn hd)
          · replace w := w.2 hc
            refine vv_sipush (pc := 139) (v := (-200)) d_M_check_139 rfl ?_
            obtain ⟨rfl, rfl⟩ := w
            exact vv_iret (pc := 142) d_M_check_142 rfl
        · replace w := w.2 hc
          refine vv_iconst (pc := 120) (v := 1) d_M_check_120 rfl ?_
          refine vv_goto (pc := 121) (tgt := 129) d_M_check_121 rfl ?_
          refine vv_istore (pc := 129) d_M_check_129 (Nat.le_of_ble_eq_true rfl) ?_
          refine vv_iload (pc := 131) d_M_check_131 rfl ?_
          refine vv_sipush (pc := 133) (v := (-200)) d_M_check_133 rfl ?_
          refine vv_icmp_ne (pc := 136) (tgt := 143) d_M_check_136 rfl (fun hc => ?_) (fun hc => ?_)
          · replace w := w.1 hc
            refine vv_aload_n (pc := 143) d_M_check_143 rfl ?_
            refine vv_iconst (pc := 144) (v := 1) d_M_check_144 rfl ?_
            refine ww_pi (pc := 145) 79 d_M_check_145 fl_M_444 (by omega) rfl rfl rfl rfl ?_
            refine vv_aload_n (pc := 148) d_M_check_148 rfl ?_
            refine vv_aload_n (pc := 149) d_M_check_149 rfl ?_
            refine ww_gi (pc := 150) 74 d_M_check_150 fl_M_305 (by omega) rfl ?_
            refine vv_topi (y := 0) rfl ?_
            refine ww_pi (pc := 153) 81 d_M_check_153 fl_M_453 (by omega) rfl rfl rfl rfl ?_
            refine vv_aload_n (pc := 156) d_M_check_156 rfl ?_
            refine vv_aload_n (pc := 157) d_M_check_157 rfl ?_
            refine ww_gi (pc := 158) 75 d_M_check_158 fl_M_302 (by omega) rfl ?_
            refine vv_topi (y := 0) rfl ?_
            refine ww_pi (pc := 161) 82 d_M_check_161 fl_M_456 (by omega) rfl rfl rfl rfl ?_
            refine vv_iconst (pc := 164) (v := 0) d_M_check_164 rfl ?_
            refine vv_istore (pc := 165) d_M_check_165 (Nat.le_of_ble_eq_true rfl) ?_
            exact vv_sub [5, 4, 3, 2, 1, 0] rfl (w G h n z d hn hd)
          · replace w := w.2 hc
            refine vv_sipush (pc := 139) (v := (-200)) d_M_check_139 rfl ?_
            obtain ⟨rfl, rfl⟩ := w
            exact vv_iret (pc := 142) d_M_check_142 rfl
      · replace w := w.2 hc
        refine vv_iconst (pc := 87) (v := 1) d_M_check_87 rfl ?_
        refine vv_goto (pc := 88) (tgt := 92) d_M_check_88 rfl ?_
        refine ww_pi (pc := 92) 80 d_M_check_92 fl_M_447 (by omega) rfl rfl rfl rfl ?_
        refine vv_aload_n (pc := 95) d_M_check_95 rfl ?_
        refine vv_iconst (pc := 96) (v := 0) d_M_check_96 rfl ?_
        refine ww_pi (pc := 97) 75 d_M_check_97 fl_M_302 (by omega) rfl rfl rfl rfl ?_
        refine vv_aload_n (pc := 100) d_M_check_100 rfl ?_
        refine vv_iconst (pc := 101) (v := 0) d_M_check_101 rfl ?_
        refine ww_pi (pc := 102) 74 d_M_check_102 fl_M_305 (by omega) rfl rfl rfl rfl ?_
        refine vv_aload_n (pc := 105) d_M_check_105 rfl ?_
        refine ww_gr (pc := 106) 5 29 d_M_check_106 fl_M_16 (by omega) rfl (by decide) ?_
        refine vv_iconst (pc := 109) (v := 0) d_M_check_109 rfl ?_
        refine vv_bipush (pc := 110) (v := 42) d_M_check_110 rfl ?_
        obtain ⟨b26, w⟩ := w
        refine ww_st (pc := 112) 29 d_M_check_112 (by omega) (by decide) b26 ?_
        refine vv_aload_n (pc := 113) d_M_check_113 rfl ?_
        refine ww_gi (pc := 114) 80 d_M_check_114 fl_M_447 (by omega) rfl ?_
        refine vv_topi (y := 1) rfl ?_
        refine vv_if_eq (pc := 117) (tgt := 124) d_M_check_117 rfl (fun hc => ?_) (fun hc => ?_)
        · replace w := w.1 hc
          refine vv_aload_n (pc := 124) d_M_check_124 rfl ?_
          refine vv_iload_n (pc := 125) d_M_check_125 rfl ?_
          obtain ⟨r29, T28, c27, w⟩ := w
          refine vv_callV (pc := 126) (As := [.int (-1)]) d_M_check_126 (c27 G h n z (d - 1) hn (by omega)) k_M_draw ml_M_450.1 ml_M_450.2.1 ml_M_450.2.2.1 ml_M_450.2.2.2.1 ml_M_450.2.2.2.2 (by omega) mm_26 (by omega) (Nat.le_of_ble_eq_true rfl) ?_
          refine vv_istore (pc := 129) d_M_check_129 (Nat.le_of_ble_eq_true rfl) ?_
          refine vv_iload (pc := 131) d_M_check_131 rfl ?_
          refine vv_sipush (pc := 133) (v := (-200)) d_M_check_133 rfl ?_
          refine vv_icmp_ne (pc := 136) (tgt := 143) d_M_check_136 rfl (fun hc => ?_) (fun hc => ?_)
          · replace w := w.1 hc
            refine vv_aload_n (pc := 143) d_M_check_143 rfl ?_
            refine vv_iconst (pc := 144) (v := 1) d_M_check_144 rfl ?_
            refine ww_pi (pc := 145) 79 d_M_check_145 fl_M_444 (by omega) rfl rfl rfl rfl ?_
            refine vv_aload_n (pc := 148) d_M_check_148 rfl ?_
            refine vv_aload_n (pc := 149) d_M_check_149 rfl ?_
            refine ww_gi (pc := 150) 74 d_M_check_150 fl_M_305 (by omega) rfl ?_
            obtain ⟨⟨b30, b30f⟩, w⟩ := w
            refine ww_pi (pc := 153) 81 d_M_check_153 fl_M_453 (by omega) rfl rfl b30 b30f ?_
            refine vv_aload_n (pc := 156) d_M_check_156 rfl ?_
            refine vv_aload_n (pc := 157) d_M_check_157 rfl ?_
            refine ww_gi (pc := 158) 75 d_M_check_158 fl_M_302 (by omega) rfl ?_
            refine ww_pi (pc := 161) 82 d_M_check_161 fl_M_456 (by omega) rfl rfl rfl rfl ?_
            refine vv_iconst (pc := 164) (v := 0) d_M_check_164 rfl ?_
            refine vv_istore (pc := 165) d_M_check_165 (Nat.le_of_ble_eq_true rfl) ?_
            exact vv_sub [5, 4, 3, 2, 1, 0] rfl (w G h n z d hn hd)
          · replace w := w.2 hc
            refine vv_sipush (pc := 139) (v := (-200)) d_M_check_139 rfl ?_
            obtain ⟨rfl, rfl⟩ := w
            exact vv_iret (pc := 142) d_M_check_142 rfl
        · replace w := w.2 hc
          refine vv_iconst (pc := 120) (v := 1) d_M_check_120 rfl ?_
          refine vv_goto (pc := 121) (tgt := 129) d_M_check_121 rfl ?_
          refine vv_istore (pc := 129) d_M_check_129 (Nat.le_of_ble_eq_true rfl) ?_
          refine vv_iload (pc := 131) d_M_check_131 rfl ?_
          refine vv_sipush (pc := 133) (v := (-200)) d_M_check_133 rfl ?_
          refine vv_icmp_ne (pc := 136) (tgt := 143) d_M_check_136 rfl (fun hc => ?_) (fun hc => ?_)
          · replace w := w.1 hc
            refine vv_aload_n (pc := 143) d_M_check_143 rfl ?_
            refine vv_iconst (pc := 144) (v := 1) d_M_check_144 rfl ?_
            refine ww_pi (pc := 145) 79 d_M_check_145 fl_M_444 (by omega) rfl rfl rfl rfl ?_
            refine vv_aload_n (pc := 148) d_M_check_148 rfl ?_
            refine vv_aload_n (pc := 149) d_M_check_149 rfl ?_
            refine ww_gi (pc := 150) 74 d_M_check_150 fl_M_305 (by omega) rfl ?_
            refine vv_topi (y := 0) rfl ?_
            refine ww_pi (pc := 153) 81 d_M_check_153 fl_M_453 (by omega) rfl rfl rfl rfl ?_
            refine vv_aload_n (pc := 156) d_M_check_156 rfl ?_
            refine vv_aload_n (pc := 157) d_M_check_157 rfl ?_
            refine ww_gi (pc := 158) 75 d_M_check_158 fl_M_302 (by omega) rfl ?_
            refine vv_topi (y := 0) rfl ?_
            refine ww_pi (pc := 161) 82 d_M_check_161 fl_M_456 (by omega) rfl rfl rfl rfl ?_
            refine vv_iconst (pc := 164) (v := 0) d_M_check_164 rfl ?_
            refine vv_istore (pc := 165) d_M_check_165 (Nat.le_of_ble_eq_true rfl) ?_
            exact vv_sub [5, 4, 3, 2, 1, 0] rfl (w G h n z d hn hd)
          · replace w := w.2 hc
            refine vv_sipush (pc := 139) (v := (-200)) d_M_check_139 rfl ?_
            obtain ⟨rfl, rfl⟩ := w
            exact vv_iret (pc := 142) d_M_check_142 rfl
    · replace w := w.2 hc
      refine vv_iload_n (pc := 62) d_M_check_62 rfl ?_
      refine vv_if_lt (pc := 63) (tgt := 72) d_M_check_63 rfl (fun hc => ?_) (fun hc => ?_)
      · replace w := w.1 hc
        refine vv_bipush (pc := 72) (v := (-100)) d_M_check_72 rfl ?_
        refine vv_aload_n (pc := 74) d_M_check_74 rfl ?_
        refine ww_gi (pc := 75) 59 d_M_check_75 fl_M_367 (by omega) rfl ?_
        refine vv_isub (pc := 78) d_M_check_78 ?_
        obtain ⟨rfl, rfl⟩ := w
        exact vv_iret (pc := 79) d_M_check_79 rfl
      · replace w := w.2 hc
        refine vv_iconst (pc := 66) (v := (-1)) d_M_check_66 rfl ?_
        refine vv_iload_n (pc := 67) d_M_check_67 rfl ?_
        refine vv_isub (pc := 68) d_M_check_68 ?_
        refine vv_goto (pc := 69) (tgt := 79) d_M_check_69 rfl ?_
        obtain ⟨rfl, rfl⟩ := w
        exact vv_iret (pc := 79) d_M_check_79 rfl
theorem c_M_check {o : Option Value} {S' S : cp_S} (w : JJ 8 m_M_check o S' 0 [] S) : MC 8 m_M_check [] S o S' := fun G h n z d hn hd => cp_C.of rfl (Nat.le_of_ble_eq_true rfl) (w G h n z d hn hd)
def wp_M_check_167 (o : Option Value) (S' : cp_S) (S : cp_S) (x1 : Int32) (x2 : Int32) (x3 : Int32) (x4 : Int32) (x5 : Int32) : Prop := (((S.1 75) ≤ (x5 : Int32) → ∃ r3 T2, MC 0 m_M_show [.int x4] S (some (.int r3)) T2 ∧ (o = some (.int r3) ∧ S' = T2)) ∧ (¬ (S.1 75) ≤ (x5 : Int32) → vp_in x5 (cp_ml 79) ∧ vp_in x5 (cp_ml 82) ∧ vp_in x5 (cp_ml 80) ∧ vp_in x5 (cp_ml 83) ∧ vp_in x5 (cp_ml 81) ∧ vp_in x5 (cp_ml 84) ∧ JJ 8 m_M_check o S' 167 [(1, .int x1), (2, .int x2), (3, .int x3), (4, .int x4), (5, .int (x5 + 1))] (S.1, (va_up (va_up (va_up S.2 82 (upd (S.2 82) (Int32.toNatClampNeg x5) ((S.2 79) (Int32.toNatClampNeg x5)))) 83 (upd (S.2 83) (Int32.toNatClampNeg x5) ((S.2 80) (Int32.toNatClampNeg x5)))) 84 (upd (S.2 84) (Int32.toNatClampNeg x5) ((S.2 81) (Int32.toNatClampNeg x5)))))))
theorem b_M_check_167 {o : Option Value} {S' S : cp_S} {x1 : Int32} {x2 : Int32} {x3 : Int32} {x4 : Int32} {x5 : Int32} (w : wp_M_check_167 o S' S x1 x2 x3 x4 x5) : JJ 8 m_M_check o S' 167 [(1, .int x1), (2, .int x2), (3, .int x3), (4, .int x4), (5, .int x5)] S := by
  unfold wp_M_check_167 at w
  intro G h n z d hn hd
  refine vv_iload (pc := 167) d_M_check_167 rfl ?_
  refine vv_aload_n (pc := 169) d_M_check_169 rfl ?_
  refine ww_gi (pc := 170) 75 d_M_check_170 fl_M_302 (by omega) rfl ?_
  refine vv_icmp_ge (pc := 173) (tgt := 224) d_M_check_173 rfl (fun hc => ?_) (fun hc => ?_)
  · replace w := w.1 hc
    refine vv_aload_n (pc := 224) d_M_check_224 rfl ?_
    refine vv_iload (pc := 225) d_M_check_225 rfl ?_
    obtain ⟨r3, T2, c1, w⟩ := w
    refine vv_callV (pc := 227) (As := [.int x4]) d_M_check_227 (c1 G h n z (d - 1) hn (by omega)) k_M_show ml_M_459.1 ml_M_459.2.1 ml_M_459.2.2.1 ml_M_459.2.2.2.1 ml_M_459.2.2.2.2 (by omega) mm_26 (by omega) (Nat.le_of_ble_eq_true rfl) ?_
    obtain ⟨rfl, rfl⟩ := w
    exact vv_iret (pc := 230) d_M_check_230 rfl
  · replace w := w.2 hc
    refine vv_aload_n (pc := 176) d_M_check_176 rfl ?_
    refine ww_gr (pc := 177) 83 82 d_M_check_177 fl_M_175 (by omega) rfl (by decide) ?_
    refine vv_iload (pc := 180) d_M_check_180 rfl ?_
    refine vv_aload_n (pc := 182) d_M_check_182 rfl ?_
    refine ww_gr (pc := 183) 76 79 d_M_check_183 fl_M_166 (by omega) rfl (by decide) ?_
    refine vv_iload (pc := 186) d_M_check_186 rfl ?_
    obtain ⟨b4, w⟩ := w
    refine ww_ld (pc := 188) 79 d_M_check_188 (by omega) (by decide) b4 ?_
    obtain ⟨b5, w⟩ := w
    refine ww_st (pc := 189) 82 d_M_check_189 (by omega) (by decide) b5 ?_
    refine vv_aload_n (pc := 190) d_M_check_190 rfl ?_
    refine ww_gr (pc := 191) 84 83 d_M_check_191 fl_M_178 (by omega) rfl (by decide) ?_
    refine vv_iload (pc := 194) d_M_check_194 rfl ?_
    refine vv_aload_n (pc := 196) d_M_check_196 rfl ?_
    refine ww_gr (pc := 197) 77 80 d_M_check_197 fl_M_169 (by omega) rfl (by decide) ?_
    refine vv_iload (pc := 200) d_M_check_200 rfl ?_
    obtain ⟨b6, w⟩ := w
    refine ww_ld (pc := 202) 80 d_M_check_202 (by omega) (by decide) b6 ?_
    obtain ⟨b7, w⟩ := w
    refine ww_st (pc := 203) 83 d_M_check_203 (by omega) (by decide) b7 ?_
    refine vv_aload_n (pc := 204) d_M_check_204 rfl ?_
    refine ww_gr (pc := 205) 85 84 d_M_check_205 fl_M_181 (by omega) rfl (by decide) ?_
    refine vv_iload (pc := 208) d_M_check_208 rfl ?_
    refine vv_aload_n (pc := 210) d_M_check_210 rfl ?_
    refine ww_gr (pc := 211) 78 81 d_M_check_211 fl_M_172 (by omega) rfl (by decide) ?_
    refine vv_iload (pc := 214) d_M_check_214 rfl ?_
    obtain ⟨b8, w⟩ := w
    refine ww_ld (pc := 216) 81 d_M_check_216 (by omega) (by decide) b8 ?_
    obtain ⟨b9, w⟩ := w
    refine ww_st (pc := 217) 84 d_M_check_217 (by omega) (by decide) b9 ?_
    refine vv_iinc (pc := 218) (v := (x5 + 1)) d_M_check_218 rfl rfl (Nat.le_of_ble_eq_true rfl) ?_
    refine vv_goto (pc := 221) (tgt := 167) d_M_check_221 rfl ?_
    exact vv_sub [1, 2, 3, 4, 5, 0] rfl (w G h n z d hn hd)
def wp_M_lemma_0 (o : Option Value) (S' : cp_S) (S : cp_S) (x1 : Int32) : Prop := ∃ r3 T2, MC 1 m_M_mayName [.int x1] S (some (.int r3)) T2 ∧ ((¬ ((T2.1 0) : Int32) = 1 → (((r3 : Int32) = 0 → (((2 : Int32) ≤ 0 → vp_in (x1 - 65) (cp_ml 32) ∧ vp_in (x1 - 65) (cp_ml 33) ∧ vp_in (x1 - 65) (cp_ml 34) ∧ ((((T2.1 80) : Int32) = 0 → vp_in (x1 - 65) (cp_ml 35) ∧ JJ 2 m_M_lemma o S' 110 [(1, .int x1), (2, .int r3), (3, .int (x1 - 65)), (4, .int 0)] ((va_up T2.1 0 2), (va_up (va_up (va_up (va_up T2.2 32 (upd (T2.2 32) (Int32.toNatClampNeg (x1 - 65)) (T2.1 16))) 33 (upd (T2.2 33) (Int32.toNatClampNeg (x1 - 65)) (T2.1 23))) 34 (upd (T2.2 34) (Int32.toNatClampNeg (x1 - 65)) 0)) 35 (upd (T2.2 35) (Int32.toNatClampNeg (x1 - 65)) (T2.1 16))))) ∧ (¬ ((T2.1 80) : Int32) = 0 → vp_in (x1 - 65) (cp_ml 35) ∧ JJ 2 m_M_lemma o S' 110 [(1, .int x1), (2, .int r3), (3, .int (x1 - 65)), (4, .int 0)] ((va_up T2.1 0 2), (va_up (va_up (va_up (va_up T2.2 32 (upd (T2.2 32) (Int32.toNatClampNeg (x1 - 65)) (T2.1 16))) 33 (upd (T2.2 33) (Int32.toNatClampNeg (x1 - 65)) (T2.1 23))) 34 (upd (T2.2 34) (Int32.toNatClampNeg (x1 - 65)) 0)) 35 (upd (T2.2 35) (Int32.toNatClampNeg (x1 - 65)) (-2))))))) ∧ (¬ (2 : Int32) ≤ 0 → (o = none ∧ S' = ((va_up T2.1 0 2), T2.2))))) ∧ (¬ (r3 : Int32) = 0 → ((((T2.1 79) : Int32) = 0 → (((2 : Int32) ≤ 0 → vp_in (x1 - 65) (cp_ml 32) ∧ vp_in (x1 - 65) (cp_ml 33) ∧ vp_in (x1 - 65) (cp_ml 34) ∧ ((((T2.1 80) : Int32) = 0 → vp_in (x1 - 65) (cp_ml 35) ∧ JJ 2 m_M_lemma o S' 110 [(1, .int x1), (2, .int r3), (3, .int (x1 - 65)), (4, .int 0)] ((va_up T2.1 0 2), (va_up (va_up (va_up (va_up T2.2 32 (upd (T2.2 32) (Int32.toNatClampNeg (x1 - 65)) (T2.1 16))) 33 (upd (T2.2 33) (Int32.toNatClampNeg (x1 - 65)) (T2.1 23))) 34 (upd (T2.2 34) (Int32.toNatClampNeg (x1 - 65)) 0)) 35 (upd (T2.2 35) (Int32.toNatClampNeg (x1 - 65)) (T2.1 16))))) ∧ (¬ ((T2.1 80) : Int32) = 0 → vp_in (x1 - 65) (cp_ml 35) ∧ JJ 2 m_M_lemma o S' 110 [(1, .int x1), (2, .int r3), (3, .int (x1 - 65)), (4, .int 0)] ((va_up T2.1 0 2), (va_up (va_up (va_up (va_up T2.2 32 (upd (T2.2 32) (Int32.toNatClampNeg (x1 - 65)) (T2.1 16))) 33 (upd (T2.2 33) (Int32.toNatClampNeg (x1 - 65)) (T2.1 23))) 34 (upd (T2.2 34) (Int32.toNatClampNeg (x1 - 65)) 0)) 35 (upd (T2.2 35) (Int32.toNatClampNeg (x1 - 65)) (-2))))))) ∧ (¬ (2 : Int32) ≤ 0 → (o = none ∧ S' = ((va_up T2.1 0 2), T2.2))))) ∧ (¬ ((T2.1 79) : Int32) = 0 → ((((T2.1 81) : Int32) = 0 → (((0 : Int32) ≤ 0 → vp_in (x1 - 65) (cp_ml 32) ∧ vp_in (x1 - 65) (cp_ml 33) ∧ vp_in (x1 - 65) (cp_ml 34) ∧ ((((T2.1 80) : Int32) = 0 → vp_in (x1 - 65) (cp_ml 35) ∧ JJ 2 m_M_lemma o S' 110 [(1, .int x1), (2, .int r3), (3, .int (x1 - 65)), (4, .int 0)] ((va_up T2.1 0 0), (va_up (va_up (va_up (va_up T2.2 32 (upd (T2.2 32) (Int32.toNatClampNeg (x1 - 65)) (T2.1 16))) 33 (upd (T2.2 33) (Int32.toNatClampNeg (x1 - 65)) (T2.1 23))) 34 (upd (T2.2 34) (Int32.toNatClampNeg (x1 - 65)) 0)) 35 (upd (T2.2 35) (Int32.toNatClampNeg (x1 - 65)) (T2.1 16))))) ∧ (¬ ((T2.1 80) : Int32) = 0 → vp_in (x1 - 65) (cp_ml 35) ∧ JJ 2 m_M_lemma o S' 110 [(1, .int x1), (2, .int r3), (3, .int (x1 - 65)), (4, .int 0)] ((va_up T2.1 0 0), (va_up (va_up (va_up (va_up T2.2 32 (upd (T2.2 32) (Int32.toNatClampNeg (x1 - 65)) (T2.1 16))) 33 (upd (T2.2 33) (Int32.toNatClampNeg (x1 - 65)) (T2.1 23))) 34 (upd (T2.2 34) (Int32.toNatClampNeg (x1 - 65)) 0)) 35 (upd (T2.2 35) (Int32.toNatClampNeg (x1 - 65)) (-2))))))) ∧ (¬ (0 : Int32) ≤ 0 → (o = none ∧ S' = ((va_up T2.1 0 0), T2.2))))) ∧ (¬ ((T2.1 81) : Int32) = 0 → (((2 : Int32) ≤ 0 → vp_in (x1 - 65) (cp_ml 32) ∧ vp_in (x1 - 65) (cp_ml 33) ∧ vp_in (x1 - 65) (cp_ml 34) ∧ ((((T2.1 80) : Int32) = 0 → vp_in (x1 - 65) (cp_ml 35) ∧ JJ 2 m_M_lemma o S' 110 [(1, .int x1), (2, .int r3), (3, .int (x1 - 65)), (4, .int 0)] ((va_up T2.1 0 2), (va_up (va_up (va_up (va_up T2.2 32 (upd (T2.2 32) (Int32.toNatClampNeg (x1 - 65)) (T2.1 16))) 33 (upd (T2.2 33) (Int32.toNatClampNeg (x1 - 65)) (T2.1 23))) 34 (upd (T2.2 34) (Int32.toNatClampNeg (x1 - 65)) 0)) 35 (upd (T2.2 35) (Int32.toNatClampNeg (x1 - 65)) (T2.1 16))))) ∧ (¬ ((T2.1 80) : Int32) = 0 → vp_in (x1 - 65) (cp_ml 35) ∧ JJ 2 m_M_lemma o S' 110 [(1, .int x1), (2, .int r3), (3, .int (x1 - 65)), (4, .int 0)] ((va_up T2.1 0 2), (va_up (va_up (va_up (va_up T2.2 32 (upd (T2.2 32) (Int32.toNatClampNeg (x1 - 65)) (T2.1 16))) 33 (upd (T2.2 33) (Int32.toNatClampNeg (x1 - 65)) (T2.1 23))) 34 (upd (T2.2 34) (Int32.toNatClampNeg (x1 - 65)) 0)) 35 (upd (T2.2 35) (Int32.toNatClampNeg (x1 - 65)) (-2))))))) ∧ (¬ (2 : Int32) ≤ 0 → (o = none ∧ S' = ((va_up T2.1 0 2), T2.2))))))))))) ∧ (((T2.1 0) : Int32) = 1 → (((1 : Int32) ≤ 0 → vp_in (x1 - 65) (cp_ml 32) ∧ vp_in (x1 - 65) (cp_ml 33) ∧ vp_in (x1 - 65) (cp_ml 34) ∧ ((((T2.1 80) : Int32) = 0 → vp_in (x1 - 65) (cp_ml 35) ∧ JJ 2 m_M_lemma o S' 110 [(1, .int x1), (2, .int r3), (3, .int (x1 - 65)), (4, .int 0)] ((va_up T2.1 0 1), (va_up (va_up (va_up (va_up T2.2 32 (upd (T2.2 32) (Int32.toNatClampNeg (x1 - 65)) (T2.1 16))) 33 (upd (T2.2 33) (Int32.toNatClampNeg (x1 - 65)) (T2.1 23))) 34 (upd (T2.2 34) (Int32.toNatClampNeg (x1 - 65)) 0)) 35 (upd (T2.2 35) (Int32.toNatClampNeg (x1 - 65)) (T2.1 16))))) ∧ (¬ ((T2.1 80) : Int32) = 0 → vp_in (x1 - 65) (cp_ml 35) ∧ JJ 2 m_M_lemma o S' 110 [(1, .int x1), (2, .int r3), (3, .int (x1 - 65)), (4, .int 0)] ((va_up T2.1 0 1), (va_up (va_up (va_up (va_up T2.2 32 (upd (T2.2 32) (Int32.toNatClampNeg (x1 - 65)) (T2.1 16))) 33 (upd (T2.2 33) (Int32.toNatClampNeg (x1 - 65)) (T2.1 23))) 34 (upd (T2.2 34) (Int32.toNatClampNeg (x1 - 65)) 0)) 35 (upd (T2.2 35) (Int32.toNatClampNeg (x1 - 65)) (-2))))))) ∧ (¬ (1 : Int32) ≤ 0 → (o = none ∧ S' = ((va_up T2.1 0 1), T2.2))))))
theorem b_M_lemma_0 {o : Option Value} {S' S : cp_S} {x1 : Int32} (w : wp_M_lemma_0 o S' S x1) : JJ 2 m_M_lemma o S' 0 [(1, .int x1)] S := by
  unfold wp_M_lemma_0 at w
  intro G h n z d hn hd
  refine vv_aload_n (pc := 0) d_M_lemma_0 rfl ?_
  refine vv_iload_n (pc := 1) d_M_lemma_1 rfl ?_
  obtain ⟨r3, T2, c1, w⟩ := w
  refine vv_callV (pc := 2) (As := [.int x1]) d_M_lemma_2 (c1 G h n z (d - 1) hn (by omega)) k_M_mayName ml_M_425.1 ml_M_425.2.1 ml_M_425.2.2.1 ml_M_425.2.2.2.1 ml_M_425.2.2.2.2 (by omega) mm_26 (by omega) (Nat.le_of_ble_eq_true rfl) ?_
  refine vv_istore_n (pc := 5) d_M_lemma_5 (Nat.le_of_ble_eq_true rfl) ?_
  refine vv_aload_n (pc := 6) d_M_lemma_6 rfl ?_
  refine vv_aload_n (pc := 7) d_M_lemma_7 rfl ?_
  refine ww_gi (pc := 8) 0 d_M_lemma_8 fl_M_184 (by omega) rfl ?_
  refine vv_iconst (pc := 11) (v := 1) d_M_lemma_11 rfl ?_
  refine vv_icmp_ne (pc := 12) (tgt := 19) d_M_lemma_12 rfl (fun hc => ?_) (fun hc => ?_)
  · replace w := w.1 hc
    refine vv_iload_n (pc := 19) d_M_lemma_19 rfl ?_
    refine vv_if_eq (pc := 20) (tgt := 37) d_M_lemma_20 rfl (fun hc => ?_) (fun hc => ?_)
    · replace w := w.1 hc
      refine vv_iconst (pc := 37) (v := 2) d_M_lemma_37 rfl ?_
      refine vv_goto (pc := 38) (tgt := 42) d_M_lemma_38 rfl ?_
      refine ww_pi (pc := 42) 0 d_M_lemma_42 fl_M_184 (by omega) rfl rfl rfl rfl ?_
      refine vv_aload_n (pc := 45) d_M_lemma_45 rfl ?_
      refine ww_gi (pc := 46) 0 d_M_lemma_46 fl_M_184 (by omega) rfl ?_
      refine vv_topi (y := 2) rfl ?_
      refine vv_if_le (pc := 49) (tgt := 53) d_M_lemma_49 rfl (fun hc => ?_) (fun hc => ?_)
      · replace w := w.1 hc
        refine vv_iload_n (pc := 53) d_M_lemma_53 rfl ?_
        refine vv_bipush (pc := 54) (v := 65) d_M_lemma_54 rfl ?_
        refine vv_isub (pc := 56) d_M_lemma_56 ?_
        refine vv_istore_n (pc := 57) d_M_lemma_57 (Nat.le_of_ble_eq_true rfl) ?_
        refine vv_aload_n (pc := 58) d_M_lemma_58 rfl ?_
        refine ww_gr (pc := 59) 8 32 d_M_lemma_59 fl_M_25 (by omega) rfl (by decide) ?_
        refine vv_iload_n (pc := 62) d_M_lemma_62 rfl ?_
        refine vv_aload_n (pc := 63) d_M_lemma_63 rfl ?_
        refine ww_gi (pc := 64) 16 d_M_lemma_64 fl_M_194 (by omega) rfl ?_
        obtain ⟨b4, w⟩ := w
        refine ww_st (pc := 67) 32 d_M_lemma_67 (by omega) (by decide) b4 ?_
        refine vv_aload_n (pc := 68) d_M_lemma_68 rfl ?_
        refine ww_gr (pc := 69) 9 33 d_M_lemma_69 fl_M_28 (by omega) rfl (by decide) ?_
        refine vv_iload_n (pc := 72) d_M_lemma_72 rfl ?_
        refine vv_aload_n (pc := 73) d_M_lemma_73 rfl ?_
        refine ww_gi (pc := 74) 23 d_M_lemma_74 fl_M_253 (by omega) rfl ?_
        obtain ⟨b5, w⟩ := w
        refine ww_st (pc := 77) 33 d_M_lemma_77 (by omega) (by decide) b5 ?_
        refine vv_aload_n (pc := 78) d_M_lemma_78 rfl ?_
        refine ww_gr (pc := 79) 10 34 d_M_lemma_79 fl_M_31 (by omega) rfl (by decide) ?_
        refine vv_iload_n (pc := 82) d_M_lemma_82 rfl ?_
        refine vv_iconst (pc := 83) (v := 0) d_M_lemma_83 rfl ?_
        obtain ⟨b6, w⟩ := w
        refine ww_st (pc := 84) 34 d_M_lemma_84 (by omega) (by decide) b6 ?_
        refine vv_aload_n (pc := 85) d_M_lemma_85 rfl ?_
        refine ww_gr (pc := 86) 11 35 d_M_lemma_86 fl_M_34 (by omega) rfl (by decide) ?_
        refine vv_iload_n (pc := 89) d_M_lemma_89 rfl ?_
        refine vv_aload_n (pc := 90) d_M_lemma_90 rfl ?_
        refine ww_gi (pc := 91) 80 d_M_lemma_91 fl_M_447 (by omega) rfl ?_
        refine vv_if_eq (pc := 94) (tgt := 102) d_M_lemma_94 rfl (fun hc => ?_) (fun hc => ?_)
        · replace w := w.1 hc
          refine vv_aload_n (pc := 102) d_M_lemma_102 rfl ?_
          refine ww_gi (pc := 103) 16 d_M_lemma_103 fl_M_194 (by omega) rfl ?_
          obtain ⟨b7, w⟩ := w
          refine ww_st (pc := 106) 35 d_M_lemma_106 (by omega) (by decide) b7 ?_
          refine vv_iconst (pc := 107) (v := 0) d_M_lemma_107 rfl ?_
          refine vv_istore (pc := 108) d_M_lemma_108 (Nat.le_of_ble_eq_true rfl) ?_
          exact vv_sub [3, 4, 2, 1, 0] rfl (w G h n z d hn hd)
        · replace w := w.2 hc
          refine vv_bipush (pc := 97) (v := (-2)) d_M_lemma_97 rfl ?_
          refine vv_goto (pc := 99) (tgt := 106) d_M_lemma_99 rfl ?_
          obtain ⟨b8, w⟩ := w
          refine ww_st (pc := 106) 35 d_M_lemma_106 (by omega) (by decide) b8 ?_
          refine vv_iconst (pc := 107) (v := 0) d_M_lemma_107 rfl ?_
          refine vv_istore (pc := 108) d_M_lemma_108 (Nat.le_of_ble_eq_true rfl) ?_
          exact vv_sub [3, 4, 2, 1, 0] rfl (w G h n z d hn hd)
      · replace w := w.2 hc
        obtain ⟨rfl, rfl⟩ := w
        exact vv_vret (pc := 52) d_M_lemma_52 rfl
    · replace w := w.2 hc
      refine vv_aload_n (pc := 23) d_M_lemma_23 rfl ?_
      refine ww_gi (pc := 24) 79 d_M_lemma_24 fl_M_444 (by omega) rfl ?_
      refine vv_if_eq (pc := 27) (tgt := 37) d_M_lemma_27 rfl (fun hc => ?_) (fun hc => ?_)
      · replace w := w.1 hc
        refine vv_iconst (pc := 37) (v := 2) d_M_lemma_37 rfl ?_
        refine vv_goto (pc := 38) (tgt := 42) d_M_lemma_38 rfl ?_
        refine ww_pi (pc := 42) 0 d_M_lemma_42 fl_M_184 (by omega) rfl rfl rfl rfl ?_
        refine vv_aload_n (pc := 45) d_M_lemma_45 rfl ?_
        refine ww_gi (pc := 46) 0 d_M_lemma_46 fl_M_184 (by omega) rfl ?_
        refine vv_topi (y := 2) rfl ?_
        refine vv_if_le (pc := 49) (tgt := 53) d_M_lemma_49 rfl (fun hc => ?_) (fun hc => ?_)
        · replace w := w.1 hc
          refine vv_iload_n (pc := 53) d_M_lemma_53 rfl ?_
          refine vv_bipush (pc := 54) (v := 65) d_M_lemma_54 rfl ?_
          refine vv_isub (pc := 56) d_M_lemma_56 ?_
          refine vv_istore_n (pc := 57) d_M_lemma_57 (Nat.le_of_ble_eq_true rfl) ?_
          refine vv_aload_n (pc := 58) d_M_lemma_58 rfl ?_
          refine ww_gr (pc := 59) 8 32 d_M_lemma_59 fl_M_25 (by omega) rfl (by decide) ?_
          refine vv_iload_n (pc := 62) d_M_lemma_62 rfl ?_
          refine vv_aload_n (pc := 63) d_M_lemma_63 rfl ?_
          refine ww_gi (pc := 64) 16 d_M_lemma_64 fl_M_194 (by omega) rfl ?_
          obtain ⟨b9, w⟩ := w
          refine ww_st (pc := 67) 32 d_M_lemma_67 (by omega) (by decide) b9 ?_
          refine vv_aload_n (pc := 68) d_M_lemma_68 rfl ?_
          refine ww_gr (pc := 69) 9 33 d_M_lemma_69 fl_M_28 (by omega) rfl (by decide) ?_
          refine vv_iload_n (pc := 72) d_M_lemma_72 rfl ?_
          refine vv_aload_n (pc := 73) d_M_lemma_73 rfl ?_
          refine ww_gi (pc := 74) 23 d_M_lemma_74 fl_M_253 (by omega) rfl ?_
          obtain ⟨b10, w⟩ := w
          refine ww_st (pc := 77) 33 d_M_lemma_77 (by omega) (by decide) b10 ?_
          refine vv_aload_n (pc := 78) d_M_lemma_78 rfl ?_
          refine ww_gr (pc := 79) 10 34 d_M_lemma_79 fl_M_31 (by omega) rfl (by decide) ?_
          refine vv_iload_n (pc := 82) d_M_lemma_82 rfl ?_
          refine vv_iconst (pc := 83) (v := 0) d_M_lemma_83 rfl ?_
          obtain ⟨b11, w⟩ := w
          refine ww_st (pc := 84) 34 d_M_lemma_84 (by omega) (by decide) b11 ?_
          refine vv_aload_n (pc := 85) d_M_lemma_85 rfl ?_
          refine ww_gr (pc := 86) 11 35 d_M_lemma_86 fl_M_34 (by omega) rfl (by decide) ?_
          refine vv_iload_n (pc := 89) d_M_lemma_89 rfl ?_
          refine vv_aload_n (pc := 90) d_M_lemma_90 rfl ?_
          refine ww_gi (pc := 91) 80 d_M_lemma_91 fl_M_447 (by omega) rfl ?_
          refine vv_if_eq (pc := 94) (tgt := 102) d_M_lemma_94 rfl (fun hc => ?_) (fun hc => ?_)
          · replace w := w.1 hc
            refine vv_aload_n (pc := 102) d_M_lemma_102 rfl ?_
            refine ww_gi (pc := 103) 16 d_M_lemma_103 fl_M_194 (by omega) rfl ?_
            obtain ⟨b12, w⟩ := w
            refine ww_st (pc := 106) 35 d_M_lemma_106 (by omega) (by decide) b12 ?_
            refine vv_iconst (pc := 107) (v := 0) d_M_lemma_107 rfl ?_
            refine vv_istore (pc := 108) d_M_lemma_108 (Nat.le_of_ble_eq_true rfl) ?_
            exact vv_sub [3, 4, 2, 1, 0] rfl (w G h n z d hn hd)
          · replace w := w.2 hc
            refine vv_bipush (pc := 97) (v := (-2)) d_M_lemma_97 rfl ?_
            refine vv_goto (pc := 99) (tgt := 106) d_M_lemma_99 rfl ?_
            obtain ⟨b13, w⟩ := w
            refine ww_st (pc := 106) 35 d_M_lemma_106 (by omega) (by decide) b13 ?_
            refine vv_iconst (pc := 107) (v := 0) d_M_lemma_107 rfl ?_
            refine vv_istore (pc := 108) d_M_lemma_108 (Nat.le_of_ble_eq_true rfl) ?_
            exact vv_sub [3, 4, 2, 1, 0] rfl (w G h n z d hn hd)
        · replace w := w.2 hc
          obtain ⟨rfl, rfl⟩ := w
          exact vv_vret (pc := 52) d_M_lemma_52 rfl
      · replace w := w.2 hc
        refine vv_aload_n (pc := 30) d_M_lemma_30 rfl ?_
        refine ww_gi (pc := 31) 81 d_M_lemma_31 fl_M_453 (by omega) rfl ?_
        refine vv_if_eq (pc := 34) (tgt := 41) d_M_lemma_34 rfl (fun hc => ?_) (fun hc => ?_)
        · replace w := w.1 hc
          refine vv_iconst (pc := 41) (v := 0) d_M_lemma_41 rfl ?_
          refine ww_pi (pc := 42) 0 d_M_lemma_42 fl_M_184 (by omega) rfl rfl rfl rfl ?_
          refine vv_aload_n (pc := 45) d_M_lemma_45 rfl ?_
          refine ww_gi (pc := 46) 0 d_M_lemma_46 fl_M_184 (by omega) rfl ?_
          refine vv_topi (y := 0) rfl ?_
          refine vv_if_le (pc := 49) (tgt := 53) d_M_lemma_49 rfl (fun hc => ?_) (fun hc => ?_)
          · replace w := w.1 hc
            refine vv_iload_n (pc := 53) d_M_lemma_53 rfl ?_
            refine vv_bipush (pc := 54) (v := 65) d_M_lemma_54 rfl ?_
            refine vv_isub (pc := 56) d_M_lemma_56 ?_
            refine vv_istore_n (pc := 57) d_M_lemma_57 (Nat.le_of_ble_eq_true rfl) ?_
            refine vv_aload_n (pc := 58) d_M_lemma_58 rfl ?_
            refine ww_gr (pc := 59) 8 32 d_M_lemma_59 fl_M_25 (by omega) rfl (by decide) ?_
            refine vv_iload_n (pc := 62) d_M_lemma_62 rfl ?_
            refine vv_aload_n (pc := 63) d_M_lemma_63 rfl ?_
            refine ww_gi (pc := 64) 16 d_M_lemma_64 fl_M_194 (by omega) rfl ?_
            obtain ⟨b14, w⟩ := w
            refine ww_st (pc := 67) 32 d_M_lemma_67 (by omega) (by decide) b14 ?_
            refine vv_aload_n (pc := 68) d_M_lemma_68 rfl ?_
            refine ww_gr (pc := 69) 9 33 d_M_lemma_69 fl_M_28 (by omega) rfl (by decide) ?_
            refine vv_iload_n (pc := 72) d_M_lemma_72 rfl ?_
            refine vv_aload_n (pc := 73) d_M_lemma_73 rfl ?_
            refine ww_gi (pc := 74) 23 d_M_lemma_74 fl_M_253 (by omega) rfl ?_
            obtain ⟨b15, w⟩ := w
            refine ww_st (pc := 77) 33 d_M_lemma_77 (by omega) (by decide) b15 ?_
            refine vv_aload_n (pc := 78) d_M_lemma_78 rfl ?_
            refine ww_gr (pc := 79) 10 34 d_M_lemma_79 fl_M_31 (by omega) rfl (by decide) ?_
            refine vv_iload_n (pc := 82) d_M_lemma_82 rfl ?_
            refine vv_iconst (pc := 83) (v := 0) d_M_lemma_83 rfl ?_
            obtain ⟨b16, w⟩ := w
            refine ww_st (pc := 84) 34 d_M_lemma_84 (by omega) (by decide) b16 ?_
            refine vv_aload_n (pc := 85) d_M_lemma_85 rfl ?_
            refine ww_gr (pc := 86) 11 35 d_M_lemma_86 fl_M_34 (by omega) rfl (by decide) ?_
            refine vv_iload_n (pc := 89) d_M_lemma_89 rfl ?_
            refine vv_aload_n (pc := 90) d_M_lemma_90 rfl ?_
            refine ww_gi (pc := 91) 80 d_M_lemma_91 fl_M_447 (by omega) rfl ?_
            refine vv_if_eq (pc := 94) (tgt := 102) d_M_lemma_94 rfl (fun hc => ?_) (fun hc => ?_)
            · replace w := w.1 hc
              refine vv_aload_n (pc := 102) d_M_lemma_102 rfl ?_
              refine ww_gi (pc := 103) 16 d_M_lemma_103 fl_M_194 (by omega) rfl ?_
              obtain ⟨b17, w⟩ := w
              refine ww_st (pc := 106) 35 d_M_lemma_106 (by omega) (by decide) b17 ?_
              refine vv_iconst (pc := 107) (v := 0) d_M_lemma_107 rfl ?_
              refine vv_istore (pc := 108) d_M_lemma_108 (Nat.le_of_ble_eq_true rfl) ?_
              exact vv_sub [3, 4, 2, 1, 0] rfl (w G h n z d hn hd)
            · replace w := w.2 hc
              refine vv_bipush (pc := 97) (v := (-2)) d_M_lemma_97 rfl ?_
              refine vv_goto (pc := 99) (tgt := 106) d_M_lemma_99 rfl ?_
              obtain ⟨b18, w⟩ := w
              refine ww_st (pc := 106) 35 d_M_lemma_106 (by omega) (by decide) b18 ?_
              refine vv_iconst (pc := 107) (v := 0) d_M_lemma_107 rfl ?_
              refine vv_istore (pc := 108) d_M_lemma_108 (Nat.le_of_ble_eq_true rfl) ?_
              exact vv_sub [3, 4, 2, 1, 0] rfl (w G h n z d hn hd)
          · replace w := w.2 hc
            obtain ⟨rfl, rfl⟩ := w
            exact vv_vret (pc := 52) d_M_lemma_52 rfl
        · replace w := w.2 hc
          refine vv_iconst (pc := 37) (v := 2) d_M_lemma_37 rfl ?_
          refine vv_goto (pc := 38) (tgt := 42) d_M_lemma_38 rfl ?_
          refine ww_pi (pc := 42) 0 d_M_lemma_42 fl_M_184 (by omega) rfl rfl rfl rfl ?_
          refine vv_aload_n (pc := 45) d_M_lemma_45 rfl ?_
          refine ww_gi (pc := 46) 0 d_M_lemma_46 fl_M_184 (by omega) rfl ?_
          refine vv_topi (y := 2) rfl ?_
          refine vv_if_le (pc := 49) (tgt := 53) d_M_lemma_49 rfl (fun hc => ?_) (fun hc => ?_)
          · replace w := w.1 hc
            refine vv_iload_n (pc := 53) d_M_lemma_53 rfl ?_
            refine vv_bipush (pc := 54) (v := 65) d_M_lemma_54 rfl ?_
            refine vv_isub (pc := 56) d_M_lemma_56 ?_
            refine vv_istore_n (pc := 57) d_M_lemma_57 (Nat.le_of_ble_eq_true rfl) ?_
            refine vv_aload_n (pc := 58) d_M_lemma_58 rfl ?_
            refine ww_gr (pc := 59) 8 32 d_M_lemma_59 fl_M_25 (by omega) rfl (by decide) ?_
            refine vv_iload_n (pc := 62) d_M_lemma_62 rfl ?_
            refine vv_aload_n (pc := 63) d_M_lemma_63 rfl ?_
            refine ww_gi (pc := 64) 16 d_M_lemma_64 fl_M_194 (by omega) rfl ?_
            obtain ⟨b19, w⟩ := w
            refine ww_st (pc := 67) 32 d_M_lemma_67 (by omega) (by decide) b19 ?_
            refine vv_aload_n (pc := 68) d_M_lemma_68 rfl ?_
            refine ww_gr (pc := 69) 9 33 d_M_lemma_69 fl_M_28 (by omega) rfl (by decide) ?_
            refine vv_iload_n (pc := 72) d_M_lemma_72 rfl ?_
            refine vv_aload_n (pc := 73) d_M_lemma_73 rfl ?_
            refine ww_gi (pc := 74) 23 d_M_lemma_74 fl_M_253 (by omega) rfl ?_
            obtain ⟨b20, w⟩ := w
            refine ww_st (pc := 77) 33 d_M_lemma_77 (by omega) (by decide) b20 ?_
            refine vv_aload_n (pc := 78) d_M_lemma_78 rfl ?_
            refine ww_gr (pc := 79) 10 34 d_M_lemma_79 fl_M_31 (by omega) rfl (by decide) ?_
            refine vv_iload_n (pc := 82) d_M_lemma_82 rfl ?_
            refine vv_iconst (pc := 83) (v := 0) d_M_lemma_83 rfl ?_
            obtain ⟨b21, w⟩ := w
            refine ww_st (pc := 84) 34 d_M_lemma_84 (by omega) (by decide) b21 ?_
            refine vv_aload_n (pc := 85) d_M_lemma_85 rfl ?_
            refine ww_gr (pc := 86) 11 35 d_M_lemma_86 fl_M_34 (by omega) rfl (by decide) ?_
            refine vv_iload_n (pc := 89) d_M_lemma_89 rfl ?_
            refine vv_aload_n (pc := 90) d_M_lemma_90 rfl ?_
            refine ww_gi (pc := 91) 80 d_M_lemma_91 fl_M_447 (by omega) rfl ?_
            refine vv_if_eq (pc := 94) (tgt := 102) d_M_lemma_94 rfl (fun hc => ?_) (fun hc => ?_)
            · replace w := w.1 hc
              refine vv_aload_n (pc := 102) d_M_lemma_102 rfl ?_
              refine ww_gi (pc := 103) 16 d_M_lemma_103 fl_M_194 (by omega) rfl ?_
              obtain ⟨b22, w⟩ := w
              refine ww_st (pc := 106) 35 d_M_lemma_106 (by omega) (by decide) b22 ?_
              refine vv_iconst (pc := 107) (v := 0) d_M_lemma_107 rfl ?_
              refine vv_istore (pc := 108) d_M_lemma_108 (Nat.le_of_ble_eq_true rfl) ?_
              exact vv_sub [3, 4, 2, 1, 0] rfl (w G h n z d hn hd)
            · replace w := w.2 hc
              refine vv_bipush (pc := 97) (v := (-2)) d_M_lemma_97 rfl ?_
              refine vv_goto (pc := 99) (tgt := 106) d_M_lemma_99 rfl ?_
              obtain ⟨b23, w⟩ := w
              refine ww_st (pc := 106) 35 d_M_lemma_106 (by omega) (by decide) b23 ?_
              refine vv_iconst (pc := 107) (v := 0) d_M_lemma_107 rfl ?_
              refine vv_istore (pc := 108) d_M_lemma_108 (Nat.le_of_ble_eq_true rfl) ?_
              exact vv_sub [3, 4, 2, 1, 0] rfl (w G h n z d hn hd)
          · replace w := w.2 hc
            obtain ⟨rfl, rfl⟩ := w
            exact vv_vret (pc := 52) d_M_lemma_52 rfl
  · replace w := w.2 hc
    refine vv_iconst (pc := 15) (v := 1) d_M_lemma_15 rfl ?_
    refine vv_goto (pc := 16) (tgt := 42) d_M_lemma_16 rfl ?_
    refine ww_pi (pc := 42) 0 d_M_lemma_42 fl_M_184 (by omega) rfl rfl rfl rfl ?_
    refine vv_aload_n (pc := 45) d_M_lemma_45 rfl ?_
    refine ww_gi (pc := 46) 0 d_M_lemma_46 fl_M_184 (by omega) rfl ?_
    refine vv_topi (y := 1) rfl ?_
    refine vv_if_le (pc := 49) (tgt := 53) d_M_lemma_49 rfl (fun hc => ?_) (fun hc => ?_)
    · replace w := w.1 hc
      refine vv_iload_n (pc := 53) d_M_lemma_53 rfl ?_
      refine vv_bipush (pc := 54) (v := 65) d_M_lemma_54 rfl ?_
      refine vv_isub (pc := 56) d_M_lemma_56 ?_
      refine vv_istore_n (pc := 57) d_M_lemma_57 (Nat.le_of_ble_eq_true rfl) ?_
      refine vv_aload_n (pc := 58) d_M_lemma_58 rfl ?_
      refine ww_gr (pc := 59) 8 32 d_M_lemma_59 fl_M_25 (by omega) rfl (by decide) ?_
      refine vv_iload_n (pc := 62) d_M_lemma_62 rfl ?_
      refine vv_aload_n (pc := 63) d_M_lemma_63 rfl ?_
      refine ww_gi (pc := 64) 16 d_M_lemma_64 fl_M_194 (by omega) rfl ?_
      obtain ⟨b24, w⟩ := w
      refine ww_st (pc := 67) 32 d_M_lemma_67 (by omega) (by decide) b24 ?_
      refine vv_aload_n (pc := 68) d_M_lemma_68 rfl ?_
      refine ww_gr (pc := 69) 9 33 d_M_lemma_69 fl_M_28 (by omega) rfl (by decide) ?_
      refine vv_iload_n (pc := 72) d_M_lemma_72 rfl ?_
      refine vv_aload_n (pc := 73) d_M_lemma_73 rfl ?_
      refine ww_gi (pc := 74) 23 d_M_lemma_74 fl_M_253 (by omega) rfl ?_
      obtain ⟨b25, w⟩ := w
      refine ww_st (pc := 77) 33 d_M_lemma_77 (by omega) (by decide) b25 ?_
      refine vv_aload_n (pc := 78) d_M_lemma_78 rfl ?_
      refine ww_gr (pc := 79) 10 34 d_M_lemma_79 fl_M_31 (by omega) rfl (by decide) ?_
      refine vv_iload_n (pc := 82) d_M_lemma_82 rfl ?_
      refine vv_iconst (pc := 83) (v := 0) d_M_lemma_83 rfl ?_
      obtain ⟨b26, w⟩ := w
      refine ww_st (pc := 84) 34 d_M_lemma_84 (by omega) (by decide) b26 ?_
      refine vv_aload_n (pc := 85) d_M_lemma_85 rfl ?_
      refine ww_gr (pc := 86) 11 35 d_M_lemma_86 fl_M_34 (by omega) rfl (by decide) ?_
      refine vv_iload_n (pc := 89) d_M_lemma_89 rfl ?_
      refine vv_aload_n (pc := 90) d_M_lemma_90 rfl ?_
      refine ww_gi (pc := 91) 80 d_M_lemma_91 fl_M_447 (by omega) rfl ?_
      refine vv_if_eq (pc := 94) (tgt := 102) d_M_lemma_94 rfl (fun hc => ?_) (fun hc => ?_)
      · replace w := w.1 hc
        refine vv_aload_n (pc := 102) d_M_lemma_102 rfl ?_
        refine ww_gi (pc := 103) 16 d_M_lemma_103 fl_M_194 (by omega) rfl ?_
        obtain ⟨b27, w⟩ := w
        refine ww_st (pc := 106) 35 d_M_lemma_106 (by omega) (by decide) b27 ?_
        refine vv_iconst (pc := 107) (v := 0) d_M_lemma_107 rfl ?_
        refine vv_istore (pc := 108) d_M_lemma_108 (Nat.le_of_ble_eq_true rfl) ?_
        exact vv_sub [3, 4, 2, 1, 0] rfl (w G h n z d hn hd)
      · replace w := w.2 hc
        refine vv_bipush (pc := 97) (v := (-2)) d_M_lemma_97 rfl ?_
        refine vv_goto (pc := 99) (tgt := 106) d_M_lemma_99 rfl ?_
        obtain ⟨b28, w⟩ := w
        refine ww_st (pc := 106) 35 d_M_lemma_106 (by omega) (by decide) b28 ?_
        refine vv_iconst (pc := 107) (v := 0) d_M_lemma_107 rfl ?_
        refine vv_istore (pc := 108) d_M_lemma_108 (Nat.le_of_ble_eq_true rfl) ?_
        exact vv_sub [3, 4, 2, 1, 0] rfl (w G h n z d hn hd)
    · replace w := w.2 hc
      obtain ⟨rfl, rfl⟩ := w
      exact vv_vret (pc := 52) d_M_lemma_52 rfl
theorem c_M_lemma {o : Option Value} {S' S : cp_S} {x1 : Int32} (w : JJ 2 m_M_lemma o S' 0 [(1, .int x1)] S) : MC 2 m_M_lemma [.int x1] S o S' := fun G h n z d hn hd => cp_C.of rfl (Nat.le_of_ble_eq_true rfl) (w G h n z d hn hd)
def wp_M_lemma_110 (o : Option Value) (S' : cp_S) (S : cp_S) (x1 : Int32) (x2 : Int32) (x3 : Int32) (x4 : Int32) : Prop := (((S.1 82) ≤ (x4 : Int32) → ∃ T2, MC 0 m_M_remember [.int x3, .int 1, .int 0] S none T2 ∧ (o = none ∧ S' = T2)) ∧ (¬ (S.1 82) ≤ (x4 : Int32) → ((¬ ((S.1 80) : Int32) = 0 → ∃ T4, MC 0 m_M_remember [.int x3, .int 1, .int 0] S none T4 ∧ (o = none ∧ S' = T4)) ∧ (((S.1 80) : Int32) = 0 → vp_in x4 (cp_ml 82) ∧ vp_in x4 (cp_ml 83) ∧ ∃ r9 T8, MC 0 m_M_node [.int ((S.2 82) (Int32.toNatClampNeg x4)), .int ((S.2 83) (Int32.toNatClampNeg x4)), .int 0] S (some (.int r9)) T8 ∧ vp_in x4 (cp_ml 84) ∧ vp_in r9 (cp_ml 41) ∧ JJ 2 m_M_lemma o S' 110 [(1, .int x1), (2, .int x2), (3, .int x3), (4, .int (x4 + 1))] (T8.1, (va_up T8.2 41 (upd (T8.2 41) (Int32.toNatClampNeg r9) ((T8.2 84) (Int32.toNatClampNeg x4)))))))))
theorem b_M_lemma_110 {o : Option Value} {S' S : cp_S} {x1 : Int32} {x2 : Int32} {x3 : Int32} {x4 : Int32} (w : wp_M_lemma_110 o S' S x1 x2 x3 x4) : JJ 2 m_M_lemma o S' 110 [(1, .int x1), (2, .int x2), (3, .int x3), (4, .int x4)] S := by
  unfold wp_M_lemma_110 at w
  intro G h n z d hn hd
  refine vv_iload (pc := 110) d_M_lemma_110 rfl ?_
  refine vv_aload_n (pc := 112) d_M_lemma_112 rfl ?_
  refine ww_gi (pc := 113) 82 d_M_lemma_113 fl_M_456 (by omega) rfl ?_
  refine vv_icmp_ge (pc := 116) (tgt := 163) d_M_lemma_116 rfl (fun hc => ?_) (fun hc => ?_)
  · replace w := w.1 hc
    refine vv_aload_n (pc := 163) d_M_lemma_163 rfl ?_
    refine vv_iload_n (pc := 164) d_M_lemma_164 rfl ?_
    refine vv_iconst (pc := 165) (v := 1) d_M_lemma_165 rfl ?_
    refine vv_iconst (pc := 166) (v := 0) d_M_lemma_166 rfl ?_
    obtain ⟨T2, c1, w⟩ := w
    refine vv_callV (pc := 167) (As := [.int x3, .int 1, .int 0]) d_M_lemma_167 (c1 G h n z (d - 1) hn (by omega)) k_M_remember ml_M_435.1 ml_M_435.2.1 ml_M_435.2.2.1 ml_M_435.2.2.2.1 ml_M_435.2.2.2.2 (by omega) mm_26 (by omega) (Nat.le_of_ble_eq_true rfl) ?_
    obtain ⟨rfl, rfl⟩ := w
    exact vv_vret (pc := 170) d_M_lemma_170 rfl
  · replace w := w.2 hc
    refine vv_aload_n (pc := 119) d_M_lemma_119 rfl ?_
    refine ww_gi (pc := 120) 80 d_M_lemma_120 fl_M_447 (by omega) rfl ?_
    refine vv_if_ne (pc := 123) (tgt := 163) d_M_lemma_123 rfl (fun hc => ?_) (fun hc => ?_)
    · replace w := w.1 hc
      refine vv_aload_n (pc := 163) d_M_lemma_163 rfl ?_
      refine vv_iload_n (pc := 164) d_M_lemma_164 rfl ?_
      refine vv_iconst (pc := 165) (v := 1) d_M_lemma_165 rfl ?_
      refine vv_iconst (pc := 166) (v := 0) d_M_lemma_166 rfl ?_
      obtain ⟨T4, c3, w⟩ := w
      refine vv_callV (pc := 167) (As := [.int x3, .int 1, .int 0]) d_M_lemma_167 (c3 G h n z (d - 1) hn (by omega)) k_M_remember ml_M_435.1 ml_M_435.2.1 ml_M_435.2.2.1 ml_M_435.2.2.2.1 ml_M_435.2.2.2.2 (by omega) mm_26 (by omega) (Nat.le_of_ble_eq_true rfl) ?_
      obtain ⟨rfl, rfl⟩ := w
      exact vv_vret (pc := 170) d_M_lemma_170 rfl
    · replace w := w.2 hc
      refine vv_aload_n (pc := 126) d_M_lemma_126 rfl ?_
      refine ww_gr (pc := 127) 19 41 d_M_lemma_127 fl_M_52 (by omega) rfl (by decide) ?_
      refine vv_aload_n (pc := 130) d_M_lemma_130 rfl ?_
      refine vv_aload_n (pc := 131) d_M_lemma_131 rfl ?_
      refine ww_gr (pc := 132) 83 82 d_M_lemma_132 fl_M_175 (by omega) rfl (by decide) ?_
      refine vv_iload (pc := 135) d_M_lemma_135 rfl ?_
      obtain ⟨b5, w⟩ := w
      refine ww_ld (pc := 137) 82 d_M_lemma_137 (by omega) (by decide) b5 ?_
      refine vv_aload_n (pc := 138) d_M_lemma_138 rfl ?_
      refine ww_gr (pc := 139) 84 83 d_M_lemma_139 fl_M_178 (by omega) rfl (by decide) ?_
      refine vv_iload (pc := 142) d_M_lemma_142 rfl ?_
      obtain ⟨b6, w⟩ := w
      refine ww_ld (pc := 144) 83 d_M_lemma_144 (by omega) (by decide) b6 ?_
      refine vv_iconst (pc := 145) (v := 0) d_M_lemma_145 rfl ?_
      obtain ⟨r9, T8, c7, w⟩ := w
      refine vv_callV (pc := 146) (As := [.int ((S.2 82) (Int32.toNatClampNeg x4)), .int ((S.2 83) (Int32.toNatClampNeg x4)), .int 0]) d_M_lemma_146 (c7 G h n z (d - 1) hn (by omega)) k_M_node ml_M_211.1 ml_M_211.2.1 ml_M_211.2.2.1 ml_M_211.2.2.2.1 ml_M_211.2.2.2.2 (by omega) mm_26 (by omega) (Nat.le_of_ble_eq_true rfl) ?_
      refine vv_aload_n (pc := 149) d_M_lemma_149 rfl ?_
      refine ww_gr (pc := 150) 85 84 d_M_lemma_150 fl_M_181 (by omega) rfl (by decide) ?_
      refine vv_iload (pc := 153) d_M_lemma_153 rfl ?_
      obtain ⟨b10, w⟩ := w
      refine ww_ld (pc := 155) 84 d_M_lemma_155 (by omega) (by decide) b10 ?_
      obtain ⟨b11, w⟩ := w
      refine ww_st (pc := 156) 41 d_M_lemma_156 (by omega) (by decide) b11 ?_
      refine vv_iinc (pc := 157) (v := (x4 + 1)) d_M_lemma_157 rfl rfl (Nat.le_of_ble_eq_true rfl) ?_
      refine vv_goto (pc := 160) (tgt := 110) d_M_lemma_160 rfl ?_
      exact vv_sub [1, 2, 3, 4, 0] rfl (w G h n z d hn hd)
def wp_M_retract_0 (o : Option Value) (S' : cp_S) (S : cp_S) : Prop := ((¬ ((S.1 14) : Int32) = 0 → (((0 : Int32) ≤ 0 → vp_in ((S.1 14) - 1) (cp_ml 38) ∧ vp_in ((S.2 38) (Int32.toNatClampNeg ((S.1 14) - 1))) (cp_ml 30) ∧ vp_in ((S.2 38) (Int32.toNatClampNeg ((S.1 14) - 1))) (cp_ml 32) ∧ vp_in ((S.2 38) (Int32.toNatClampNeg ((S.1 14) - 1))) (cp_ml 33) ∧ (o = some (.int (Int32.toUInt32 (65 + ((S.2 38) (Int32.toNatClampNeg ((S.1 14) - 1)))) % 65536).toInt32) ∧ S' = ((va_up (va_up (va_up (va_up (va_up S.1 0 0) 14 ((S.1 14) - 1)) 16 ((S.2 32) (Int32.toNatClampNeg ((S.2 38) (Int32.toNatClampNeg ((S.1 14) - 1)))))) 23 ((S.2 33) (Int32.toNatClampNeg ((S.2 38) (Int32.toNatClampNeg ((S.1 14) - 1)))))) 79 0), (va_up S.2 30 (upd (S.2 30) (Int32.toNatClampNeg ((S.2 38) (Int32.toNatClampNeg ((S.1 14) - 1)))) 0))) ∧ narrow .char (.int (Int32.toUInt32 (65 + ((S.2 38) (Int32.toNatClampNeg ((S.1 14) - 1)))) % 65536).toInt32) = .int (Int32.toUInt32 (65 + ((S.2 38) (Int32.toNatClampNeg ((S.1 14) - 1)))) % 65536).toInt32)) ∧ (¬ (0 : Int32) ≤ 0 → (o = some (.int 0) ∧ S' = ((va_up S.1 0 0), S.2) ∧ narrow .char (.int 0) = .int 0)))) ∧ (((S.1 14) : Int32) = 0 → (((1 : Int32) ≤ 0 → vp_in ((S.1 14) - 1) (cp_ml 38) ∧ vp_in ((S.2 38) (Int32.toNatClampNeg ((S.1 14) - 1))) (cp_ml 30) ∧ vp_in ((S.2 38) (Int32.toNatClampNeg ((S.1 14) - 1))) (cp_ml 32) ∧ vp_in ((S.2 38) (Int32.toNatClampNeg ((S.1 14) - 1))) (cp_ml 33) ∧ (o = some (.int (Int32.toUInt32 (65 + ((S.2 38) (Int32.toNatClampNeg ((S.1 14) - 1)))) % 65536).toInt32) ∧ S' = ((va_up (va_up (va_up (va_up (va_up S.1 0 1) 14 ((S.1 14) - 1)) 16 ((S.2 32) (Int32.toNatClampNeg ((S.2 38) (Int32.toNatClampNeg ((S.1 14) - 1)))))) 23 ((S.2 33) (Int32.toNatClampNeg ((S.2 38) (Int32.toNatClampNeg ((S.1 14) - 1)))))) 79 0), (va_up S.2 30 (upd (S.2 30) (Int32.toNatClampNeg ((S.2 38) (Int32.toNatClampNeg ((S.1 14) - 1)))) 0))) ∧ narrow .char (.int (Int32.toUInt32 (65 + ((S.2 38) (Int32.toNatClampNeg ((S.1 14) - 1)))) % 65536).toInt32) = .int (Int32.toUInt32 (65 + ((S.2 38) (Int32.toNatClampNeg ((S.1 14) - 1)))) % 65536).toInt32)) ∧ (¬ (1 : Int32) ≤ 0 → (o = some (.int 0) ∧ S' = ((va_up S.1 0 1), S.2) ∧ narrow .char (.int 0) = .int 0)))))
theorem b_M_retract_0 {o : Option Value} {S' S : cp_S} (w : wp_M_retract_0 o S' S) : JJ 0 m_M_retract o S' 0 [] S := by
  unfold wp_M_retract_0 at w
  intro G h n z d hn hd
  refine vv_aload_n (pc := 0) d_M_retract_0 rfl ?_
  refine vv_aload_n (pc := 1) d_M_retract_1 rfl ?_
  refine ww_gi (pc := 2) 14 d_M_retract_2 fl_M_422 (by omega) rfl ?_
  refine vv_if_ne (pc := 5) (tgt := 12) d_M_retract_5 rfl (fun hc => ?_) (fun hc => ?_)
  · replace w := w.1 hc
    refine vv_iconst (pc := 12) (v := 0) d_M_retract_12 rfl ?_
    refine ww_pi (pc := 13) 0 d_M_retract_13 fl_M_184 (by omega) rfl rfl rfl rfl ?_
    refine vv_aload_n (pc := 16) d_M_retract_16 rfl ?_
    refine ww_gi (pc := 17) 0 d_M_retract_17 fl_M_184 (by omega) rfl ?_
    refine vv_topi (y := 0) rfl ?_
    refine vv_if_le (pc := 20) (tgt := 25) d_M_retract_20 rfl (fun hc => ?_) (fun hc => ?_)
    · replace w := w.1 hc
      refine vv_aload_n (pc := 25) d_M_retract_25 rfl ?_
      refine vv_dup (pc := 26) d_M_retract_26 rfl ?_
      refine ww_gi (pc := 27) 14 d_M_retract_27 fl_M_422 (by omega) rfl ?_
      refine vv_iconst (pc := 30) (v := 1) d_M_retract_30 rfl ?_
      refine vv_isub (pc := 31) d_M_retract_31 ?_
      refine ww_pi (pc := 32) 14 d_M_retract_32 fl_M_422 (by omega) rfl rfl rfl rfl ?_
      refine vv_aload_n (pc := 35) d_M_retract_35 rfl ?_
      refine ww_gr (pc := 36) 15 38 d_M_retract_36 fl_M_43 (by omega) rfl (by decide) ?_
      refine vv_aload_n (pc := 39) d_M_retract_39 rfl ?_
      refine ww_gi (pc := 40) 14 d_M_retract_40 fl_M_422 (by omega) rfl ?_
      refine vv_topi (y := ((S.1 14) - 1)) rfl ?_
      obtain ⟨b1, w⟩ := w
      refine ww_ld (pc := 43) 38 d_M_retract_43 (by omega) (by decide) b1 ?_
      refine vv_istore_n (pc := 44) d_M_retract_44 (Nat.le_of_ble_eq_true rfl) ?_
      refine vv_aload_n (pc := 45) d_M_retract_45 rfl ?_
      refine ww_gr (pc := 46) 6 30 d_M_retract_46 fl_M_19 (by omega) rfl (by decide) ?_
      refine vv_iload_n (pc := 49) d_M_retract_49 rfl ?_
      refine vv_iconst (pc := 50) (v := 0) d_M_retract_50 rfl ?_
      obtain ⟨b2, w⟩ := w
      refine ww_st (pc := 51) 30 d_M_retract_51 (by omega) (by decide) b2 ?_
      refine vv_aload_n (pc := 52) d_M_retract_52 rfl ?_
      refine vv_aload_n (pc := 53) d_M_retract_53 rfl ?_
      refine ww_gr (pc := 54) 8 32 d_M_retract_54 fl_M_25 (by omega) rfl (by decide) ?_
      refine vv_iload_n (pc := 57) d_M_retract_57 rfl ?_
      obtain ⟨b3, w⟩ := w
      refine ww_ld (pc := 58) 32 d_M_retract_58 (by omega) (by decide) b3 ?_
      refine ww_pi (pc := 59) 16 d_M_retract_59 fl_M_194 (by omega) rfl rfl rfl rfl ?_
      refine vv_aload_n (pc := 62) d_M_retract_62 rfl ?_
      refine vv_aload_n (pc := 63) d_M_retract_63 rfl ?_
      refine ww_gr (pc := 64) 9 33 d_M_retract_64 fl_M_28 (by omega) rfl (by decide) ?_
      refine vv_iload_n (pc := 67) d_M_retract_67 rfl ?_
      obtain ⟨b4, w⟩ := w
      refine ww_ld (pc := 68) 33 d_M_retract_68 (by omega) (by decide) b4 ?_
      refine ww_pi (pc := 69) 23 d_M_retract_69 fl_M_253 (by omega) rfl rfl rfl rfl ?_
      refine vv_aload_n (pc := 72) d_M_retract_72 rfl ?_
      refine vv_iconst (pc := 73) (v := 0) d_M_retract_73 rfl ?_
      refine ww_pi (pc := 74) 79 d_M_retract_74 fl_M_444 (by omega) rfl rfl rfl rfl ?_
      refine vv_bipush (pc := 77) (v := 65) d_M_retract_77 rfl ?_
      refine vv_iload_n (pc := 79) d_M_retract_79 rfl ?_
      refine vv_iadd (pc := 80) d_M_retract_80 ?_
      refine vv_i2c (pc := 81) d_M_retract_81 ?_
      obtain ⟨rfl, rfl, hx⟩ := w
      exact vv_zret (pc := 82) d_M_retract_82 rfl hx
    · replace w := w.2 hc
      refine vv_iconst (pc := 23) (v := 0) d_M_retract_23 rfl ?_
      obtain ⟨rfl, rfl, hx⟩ := w
      exact vv_zret (pc := 24) d_M_retract_24 rfl hx
  · replace w := w.2 hc
    refine vv_iconst (pc := 8) (v := 1) d_M_retract_8 rfl ?_
    refine vv_goto (pc := 9) (tgt := 13) d_M_retract_9 rfl ?_
    refine ww_pi (pc := 13) 0 d_M_retract_13 fl_M_184 (by omega) rfl rfl rfl rfl ?_
    refine vv_aload_n (pc := 16) d_M_retract_16 rfl ?_
    refine ww_gi (pc := 17) 0 d_M_retract_17 fl_M_184 (by omega) rfl ?_
    refine vv_topi (y := 1) rfl ?_
    refine vv_if_le (pc := 20) (tgt := 25) d_M_retract_20 rfl (fun hc => ?_) (fun hc => ?_)
    · replace w := w.1 hc
      refine vv_aload_n (pc := 25) d_M_retract_25 rfl ?_
      refine vv_dup (pc := 26) d_M_retract_26 rfl ?_
      refine ww_gi (pc := 27) 14 d_M_retract_27 fl_M_422 (by omega) rfl ?_
      refine vv_iconst (pc := 30) (v := 1) d_M_retract_30 rfl ?_
      refine vv_isub (pc := 31) d_M_retract_31 ?_
      refine ww_pi (pc := 32) 14 d_M_retract_32 fl_M_422 (by omega) rfl rfl rfl rfl ?_
      refine vv_aload_n (pc := 35) d_M_retract_35 rfl ?_
      refine ww_gr (pc := 36) 15 38 d_M_retract_36 fl_M_43 (by omega) rfl (by decide) ?_
      refine vv_aload_n (pc := 39) d_M_retract_39 rfl ?_
      refine ww_gi (pc := 40) 14 d_M_retract_40 fl_M_422 (by omega) rfl ?_
      refine vv_topi (y := ((S.1 14) - 1)) rfl ?_
      obtain ⟨b5, w⟩ := w
      refine ww_ld (pc := 43) 38 d_M_retract_43 (by omega) (by decide) b5 ?_
      refine vv_istore_n (pc := 44) d_M_retract_44 (Nat.le_of_ble_eq_true rfl) ?_
      refine vv_aload_n (pc := 45) d_M_retract_45 rfl ?_
      refine ww_gr (pc := 46) 6 30 d_M_retract_46 fl_M_19 (by omega) rfl (by decide) ?_
      refine vv_iload_n (pc := 49) d_M_retract_49 rfl ?_
      refine vv_iconst (pc := 50) (v := 0) d_M_retract_50 rfl ?_
      obtain ⟨b6, w⟩ := w
      refine ww_st (pc := 51) 30 d_M_retract_51 (by omega) (by decide) b6 ?_
      refine vv_aload_n (pc := 52) d_M_retract_52 rfl ?_
      refine vv_aload_n (pc := 53) d_M_retract_53 rfl ?_
      refine ww_gr (pc := 54) 8 32 d_M_retract_54 fl_M_25 (by omega) rfl (by decide) ?_
      refine vv_iload_n (pc := 57) d_M_retract_57 rfl ?_
      obtain ⟨b7, w⟩ := w
      refine ww_ld (pc := 58) 32 d_M_retract_58 (by omega) (by decide) b7 ?_
      refine ww_pi (pc := 59) 16 d_M_retract_59 fl_M_194 (by omega) rfl rfl rfl rfl ?_
      refine vv_aload_n (pc := 62) d_M_retract_62 rfl ?_
      refine vv_aload_n (pc := 63) d_M_retract_63 rfl ?_
      refine ww_gr (pc := 64) 9 33 d_M_retract_64 fl_M_28 (by omega) rfl (by decide) ?_
      refine vv_iload_n (pc := 67) d_M_retract_67 rfl ?_
      obtain ⟨b8, w⟩ := w
      refine ww_ld (pc := 68) 33 d_M_retract_68 (by omega) (by decide) b8 ?_
      refine ww_pi (pc := 69) 23 d_M_retract_69 fl_M_253 (by omega) rfl rfl rfl rfl ?_
      refine vv_aload_n (pc := 72) d_M_retract_72 rfl ?_
      refine vv_iconst (pc := 73) (v := 0) d_M_retract_73 rfl ?_
      refine ww_pi (pc := 74) 79 d_M_retract_74 fl_M_444 (by omega) rfl rfl rfl rfl ?_
      refine vv_bipush (pc := 77) (v := 65) d_M_retract_77 rfl ?_
      refine vv_iload_n (pc := 79) d_M_retract_79 rfl ?_
      refine vv_iadd (pc := 80) d_M_retract_80 ?_
      refine vv_i2c (pc := 81) d_M_retract_81 ?_
      obtain ⟨rfl, rfl, hx⟩ := w
      exact vv_zret (pc := 82) d_M_retract_82 rfl hx
    · replace w := w.2 hc
      refine vv_iconst (pc := 23) (v := 0) d_M_retract_23 rfl ?_
      obtain ⟨rfl, rfl, hx⟩ := w
      exact vv_zret (pc := 24) d_M_retract_24 rfl hx
theorem c_M_retract {o : Option Value} {S' S : cp_S} (w : JJ 0 m_M_retract o S' 0 [] S) : MC 0 m_M_retract [] S o S' := fun G h n z d hn hd => cp_C.of rfl (Nat.le_of_ble_eq_true rfl) (w G h n z d hn hd)
def wp_M_run_0 (o : Option Value) (S' : cp_S) (S : cp_S) (x1 : Int32) : Prop := ∃ r2, SC m_M_isLetter [.int x1] (some (.int r2)) ∧ (((r2 : Int32) = 0 → (((1 : Int32) ≤ 0 → ∃ r5 T4, MC 5 m_M_read [.int 218, .int 0, .int 0] ((va_up (va_up S.1 0 1) 60 0), S.2) (some (.int r5)) T4 ∧ ∃ T7, MC 0 m_M_nothing [] T4 none T7 ∧ ∃ T9, MC 0 m_M_noNames [] T7 none T9 ∧ ((0 ≤ (r5 : Int32) → JJ 8 m_M_run o S' 103 [(1, .int x1), (2, .int (x1 - 65)), (3, .int (S.1 16)), (4, .int r5), (5, .int (T4.1 34))] ((va_up T9.1 59 0), T9.2)) ∧ (¬ 0 ≤ (r5 : Int32) → vp_in (x1 - 65) (cp_ml 31) ∧ ((¬ ((T4.1 34) : Int32) = ((T9.2 31) (Int32.toNatClampNeg (x1 - 65))) → JJ 8 m_M_run o S' 103 [(1, .int x1), (2, .int (x1 - 65)), (3, .int (S.1 16)), (4, .int r5), (5, .int (T4.1 34))] ((va_up T9.1 59 0), T9.2)) ∧ (((T4.1 34) : Int32) = ((T9.2 31) (Int32.toNatClampNeg (x1 - 65))) → JJ 8 m_M_run o S' 112 [(1, .int x1), (2, .int (x1 - 65)), (3, .int (S.1 16)), (4, .int r5), (5, .int (T4.1 34)), (6, .int 1), (7, .int (S.1 16)), (8, .int 0)] ((va_up T9.1 59 0), T9.2)))))) ∧ (¬ (1 : Int32) ≤ 0 → (o = some (.int 0) ∧ S' = ((va_up S.1 0 1), S.2))))) ∧ (¬ (r2 : Int32) = 0 → vp_in (x1 - 65) (cp_ml 30) ∧ (((((S.2 30) (Int32.toNatClampNeg (x1 - 65))) : Int32) = 2 → (((0 : Int32) ≤ 0 → ∃ r14 T13, MC 5 m_M_read [.int 218, .int 0, .int 0] ((va_up (va_up S.1 0 0) 60 0), S.2) (some (.int r14)) T13 ∧ ∃ T16, MC 0 m_M_nothing [] T13 none T16 ∧ ∃ T18, MC 0 m_M_noNames [] T16 none T18 ∧ ((0 ≤ (r14 : Int32) → JJ 8 m_M_run o S' 103 [(1, .int x1), (2, .int (x1 - 65)), (3, .int (S.1 16)), (4, .int r14), (5, .int (T13.1 34))] ((va_up T18.1 59 0), T18.2)) ∧ (¬ 0 ≤ (r14 : Int32) → vp_in (x1 - 65) (cp_ml 31) ∧ ((¬ ((T13.1 34) : Int32) = ((T18.2 31) (Int32.toNatClampNeg (x1 - 65))) → JJ 8 m_M_run o S' 103 [(1, .int x1), (2, .int (x1 - 65)), (3, .int (S.1 16)), (4, .int r14), (5, .int (T13.1 34))] ((va_up T18.1 59 0), T18.2)) ∧ (((T13.1 34) : Int32) = ((T18.2 31) (Int32.toNatClampNeg (x1 - 65))) → JJ 8 m_M_run o S' 112 [(1, .int x1), (2, .int (x1 - 65)), (3, .int (S.1 16)), (4, .int r14), (5, .int (T13.1 34)), (6, .int 1), (7, .int (S.1 16)), (8, .int 0)] ((va_up T18.1 59 0), T18.2)))))) ∧ (¬ (0 : Int32) ≤ 0 → (o = some (.int 0) ∧ S' = ((va_up S.1 0 0), S.2))))) ∧ (¬ (((S.2 30) (Int32.toNatClampNeg (x1 - 65))) : Int32) = 2 → (((1 : Int32) ≤ 0 → ∃ r22 T21, MC 5 m_M_read [.int 218, .int 0, .int 0] ((va_up (va_up S.1 0 1) 60 0), S.2) (some (.int r22)) T21 ∧ ∃ T24, MC 0 m_M_nothing [] T21 none T24 ∧ ∃ T26, MC 0 m_M_noNames [] T24 none T26 ∧ ((0 ≤ (r22 : Int32) → JJ 8 m_M_run o S' 103 [(1, .int x1), (2, .int (x1 - 65)), (3, .int (S.1 16)), (4, .int r22), (5, .int (T21.1 34))] ((va_up T26.1 59 0), T26.2)) ∧ (¬ 0 ≤ (r22 : Int32) → vp_in (x1 - 65) (cp_ml 31) ∧ ((¬ ((T21.1 34) : Int32) = ((T26.2 31) (Int32.toNatClampNeg (x1 - 65))) → JJ 8 m_M_run o S' 103 [(1, .int x1), (2, .int (x1 - 65)), (3, .int (S.1 16)), (4, .int r22), (5, .int (T21.1 34))] ((va_up T26.1 59 0), T26.2)) ∧ (((T21.1 34) : Int32) = ((T26.2 31) (Int32.toNatClampNeg (x1 - 65))) → JJ 8 m_M_run o S' 112 [(1, .int x1), (2, .int (x1 - 65)), (3, .int (S.1 16)), (4, .int r22), (5, .int (T21.1 34)), (6, .int 1), (7, .int (S.1 16)), (8, .int 0)] ((va_up T26.1 59 0), T26.2)))))) ∧ (¬ (1 : Int32) ≤ 0 → (o = some (.int 0) ∧ S' = ((va_up S.1 0 1), S.2))))))))
theorem b_M_run_0 {o : Option Value} {S' S : cp_S} {x1 : Int32} (w : wp_M_run_0 o S' S x1) : JJ 8 m_M_run o S' 0 [(1, .int x1)] S := by
  unfold wp_M_run_0 at w
  intro G h n z d hn hd
  refine vv_aload_n (pc := 0) d_M_run_0 rfl ?_
  refine vv_iload_n (pc := 1) d_M_run_1 rfl ?_
  obtain ⟨r2, c1, w⟩ := w
  refine vv_callS (pc := 2) (As := [.int x1]) d_M_run_2 (c1 G (mm G h S) n z (d - 1)) k_M_isLetter ml_M_215.1 ml_M_215.2 (by omega) (Nat.le_of_ble_eq_true rfl) ?_
  refine vv_if_eq (pc := 5) (tgt := 21) d_M_run_5 rfl (fun hc => ?_) (fun hc => ?_)
  · replace w := w.1 hc
    refine vv_iconst (pc := 21) (v := 1) d_M_run_21 rfl ?_
    refine vv_goto (pc := 22) (tgt := 26) d_M_run_22 rfl ?_
    refine ww_pi (pc := 26) 0 d_M_run_26 fl_M_184 (by omega) rfl rfl rfl rfl ?_
    refine vv_aload_n (pc := 29) d_M_run_29 rfl ?_
    refine ww_gi (pc := 30) 0 d_M_run_30 fl_M_184 (by omega) rfl ?_
    refine vv_topi (y := 1) rfl ?_
    refine vv_if_le (pc := 33) (tgt := 38) d_M_run_33 rfl (fun hc => ?_) (fun hc => ?_)
    · replace w := w.1 hc
      refine vv_iload_n (pc := 38) d_M_run_38 rfl ?_
      refine vv_bipush (pc := 39) (v := 65) d_M_run_39 rfl ?_
      refine vv_isub (pc := 41) d_M_run_41 ?_
      refine vv_istore_n (pc := 42) d_M_run_42 (Nat.le_of_ble_eq_true rfl) ?_
      refine vv_aload_n (pc := 43) d_M_run_43 rfl ?_
      refine vv_iconst (pc := 44) (v := 0) d_M_run_44 rfl ?_
      refine ww_pi (pc := 45) 60 d_M_run_45 fl_M_329 (by omega) rfl rfl rfl rfl ?_
      refine vv_aload_n (pc := 48) d_M_run_48 rfl ?_
      refine ww_gi (pc := 49) 16 d_M_run_49 fl_M_194 (by omega) rfl ?_
      refine vv_istore_n (pc := 52) d_M_run_52 (Nat.le_of_ble_eq_true rfl) ?_
      refine vv_aload_n (pc := 53) d_M_run_53 rfl ?_
      refine vv_sipush (pc := 54) (v := 218) d_M_run_54 rfl ?_
      refine vv_iconst (pc := 57) (v := 0) d_M_run_57 rfl ?_
      refine vv_iconst (pc := 58) (v := 0) d_M_run_58 rfl ?_
      obtain ⟨r5, T4, c3, w⟩ := w
      refine vv_callV (pc := 59) (As := [.int 218, .int 0, .int 0]) d_M_run_59 (c3 G h n z (d - 1) hn (by omega)) k_M_read ml_M_429.1 ml_M_429.2.1 ml_M_429.2.2.1 ml_M_429.2.2.2.1 ml_M_429.2.2.2.2 (by omega) mm_26 (by omega) (Nat.le_of_ble_eq_true rfl) ?_
      refine vv_istore (pc := 62) d_M_run_62 (Nat.le_of_ble_eq_true rfl) ?_
      refine vv_aload_n (pc := 64) d_M_run_64 rfl ?_
      refine ww_gi (pc := 65) 34 d_M_run_65 fl_M_243 (by omega) rfl ?_
      refine vv_istore (pc := 68) d_M_run_68 (Nat.le_of_ble_eq_true rfl) ?_
      refine vv_aload_n (pc := 70) d_M_run_70 rfl ?_
      obtain ⟨T7, c6, w⟩ := w
      refine vv_callV (pc := 71) (As := []) d_M_run_71 (c6 G h n z (d - 1) hn (by omega)) k_M_nothing ml_M_410.1 ml_M_410.2.1 ml_M_410.2.2.1 ml_M_410.2.2.2.1 ml_M_410.2.2.2.2 (by omega) mm_26 (by omega) (Nat.le_of_ble_eq_true rfl) ?_
      refine vv_aload_n (pc := 74) d_M_run_74 rfl ?_
      obtain ⟨T9, c8, w⟩ := w
      refine vv_callV (pc := 75) (As := []) d_M_run_75 (c8 G h n z (d - 1) hn (by omega)) k_M_noNames ml_M_413.1 ml_M_413.2.1 ml_M_413.2.2.1 ml_M_413.2.2.2.1 ml_M_413.2.2.2.2 (by omega) mm_26 (by omega) (Nat.le_of_ble_eq_true rfl) ?_
      refine vv_aload_n (pc := 78) d_M_run_78 rfl ?_
      refine vv_iconst (pc := 79) (v := 0) d_M_run_79 rfl ?_
      refine ww_pi (pc := 80) 59 d_M_run_80 fl_M_367 (by omega) rfl rfl rfl rfl ?_
      refine vv_iload (pc := 83) d_M_run_83 rfl ?_
      refine vv_if_ge (pc := 85) (tgt := 103) d_M_run_85 rfl (fun hc => ?_) (fun hc => ?_)
      · replace w := w.1 hc
        exact vv_sub [4, 5, 3, 2, 1, 0] rfl (w G h n z d hn hd)
      · replace w := w.2 hc
        refine vv_iload (pc := 88) d_M_run_88 rfl ?_
        refine vv_aload_n (pc := 90) d_M_run_90 rfl ?_
        refine ww_gr (pc := 91) 7 31 d_M_run_91 fl_M_22 (by omega) rfl (by decide) ?_
        refine vv_iload_n (pc := 94) d_M_run_94 rfl ?_
        obtain ⟨b10, w⟩ := w
        refine ww_ld (pc := 95) 31 d_M_run_95 (by omega) (by decide) b10 ?_
        refine vv_icmp_ne (pc := 96) (tgt := 103) d_M_run_96 rfl (fun hc => ?_) (fun hc => ?_)
        · replace w := w.1 hc
          exact vv_sub [4, 5, 3, 2, 1, 0] rfl (w G h n z d hn hd)
        · replace w := w.2 hc
          refine vv_iconst (pc := 99) (v := 1) d_M_run_99 rfl ?_
          refine vv_goto (pc := 100) (tgt := 104) d_M_run_100 rfl ?_
          refine vv_istore (pc := 104) d_M_run_104 (Nat.le_of_ble_eq_true rfl) ?_
          refine vv_iload_n (pc := 106) d_M_run_106 rfl ?_
          refine vv_istore (pc := 107) d_M_run_107 (Nat.le_of_ble_eq_true rfl) ?_
          refine vv_iconst (pc := 109) (v := 0) d_M_run_109 rfl ?_
          refine vv_istore (pc := 110) d_M_run_110 (Nat.le_of_ble_eq_true rfl) ?_
          exact vv_sub [7, 8, 6, 5, 4, 3, 2, 1, 0] rfl (w G h n z d hn hd)
    · replace w := w.2 hc
      refine vv_iconst (pc := 36) (v := 0) d_M_run_36 rfl ?_
      obtain ⟨rfl, rfl⟩ := w
      exact vv_iret (pc := 37) d_M_run_37 rfl
  · replace w := w.2 hc
    refine vv_aload_n (pc := 8) d_M_run_8 rfl ?_
    refine ww_gr (pc := 9) 6 30 d_M_run_9 fl_M_19 (by omega) rfl (by decide) ?_
    refine vv_iload_n (pc := 12) d_M_run_12 rfl ?_
    refine vv_bipush (pc := 13) (v := 65) d_M_run_13 rfl ?_
    refine vv_isub (pc := 15) d_M_run_15 ?_
    obtain ⟨b11, w⟩ := w
    refine ww_ld (pc := 16) 30 d_M_run_16 (by omega) (by decide) b11 ?_
    refine vv_iconst (pc := 17) (v := 2) d_M_run_17 rfl ?_
    refine vv_icmp_eq (pc := 18) (tgt := 25) d_M_run_18 rfl (fun hc => ?_) (fun hc => ?_)
    · replace w := w.1 hc
      refine vv_iconst (pc := 25) (v := 0) d_M_run_25 rfl ?_
      refine ww_pi (pc := 26) 0 d_M_run_26 fl_M_184 (by omega) rfl rfl rfl rfl ?_
      refine vv_aload_n (pc := 29) d_M_run_29 rfl ?_
      refine ww_gi (pc := 30) 0 d_M_run_30 fl_M_184 (by omega) rfl ?_
      refine vv_topi (y := 0) rfl ?_
      refine vv_if_le (pc := 33) (tgt := 38) d_M_run_33 rfl (fun hc => ?_) (fun hc => ?_)
      · replace w := w.1 hc
        refine vv_iload_n (pc := 38) d_M_run_38 rfl ?_
        refine vv_bipush (pc := 39) (v := 65) d_M_run_39 rfl ?_
        refine vv_isub (pc := 41) d_M_run_41 ?_
        refine vv_istore_n (pc := 42) d_M_run_42 (Nat.le_of_ble_eq_true rfl) ?_
        refine vv_aload_n (pc := 43) d_M_run_43 rfl ?_
        refine vv_iconst (pc := 44) (v := 0) d_M_run_44 rfl ?_
        refine ww_pi (pc := 45) 60 d_M_run_45 fl_M_329 (by omega) rfl rfl rfl rfl ?_
        refine vv_aload_n (pc := 48) d_M_run_48 rfl ?_
        refine ww_gi (pc := 49) 16 d_M_run_49 fl_M_194 (by omega) rfl ?_
        refine vv_istore_n (pc := 52) d_M_run_52 (Nat.le_of_ble_eq_true rfl) ?_
        refine vv_aload_n (pc := 53) d_M_run_53 rfl ?_
        refine vv_sipush (pc := 54) (v := 218) d_M_run_54 rfl ?_
        refine vv_iconst (pc := 57) (v := 0) d_M_run_57 rfl ?_
        refine vv_iconst (pc := 58) (v := 0) d_M_run_58 rfl ?_
        obtain ⟨r14, T13, c12, w⟩ := w
        refine vv_callV (pc := 59) (As := [.int 218, .int 0, .int 0]) d_M_run_59 (c12 G h n z (d - 1) hn (by omega)) k_M_read ml_M_429.1 ml_M_429.2.1 ml_M_429.2.2.1 ml_M_429.2.2.2.1 ml_M_429.2.2.2.2 (by omega) mm_26 (by omega) (Nat.le_of_ble_eq_true rfl) ?_
        refine vv_istore (pc := 62) d_M_run_62 (Nat.le_of_ble_eq_true rfl) ?_
        refine vv_aload_n (pc := 64) d_M_run_64 rfl ?_
        refine ww_gi (pc := 65) 34 d_M_run_65 fl_M_243 (by omega) rfl ?_
        refine vv_istore (pc := 68) d_M_run_68 (Nat.le_of_ble_eq_true rfl) ?_
        refine vv_aload_n (pc := 70) d_M_run_70 rfl ?_
        obtain ⟨T16, c15, w⟩ := w
        refine vv_callV (pc := 71) (As := []) d_M_run_71 (c15 G h n z (d - 1) hn (by omega)) k_M_nothing ml_M_410.1 ml_M_410.2.1 ml_M_410.2.2.1 ml_M_410.2.2.2.1 ml_M_410.2.2.2.2 (by omega) mm_26 (by omega) (Nat.le_of_ble_eq_true rfl) ?_
        refine vv_aload_n (pc := 74) d_M_run_74 rfl ?_
        obtain ⟨T18, c17, w⟩ := w
        refine vv_callV (pc := 75) (As := []) d_M_run_75 (c17 G h n z (d - 1) hn (by omega)) k_M_noNames ml_M_413.1 ml_M_413.2.1 ml_M_413.2.2.1 ml_M_413.2.2.2.1 ml_M_413.2.2.2.2 (by omega) mm_26 (by omega) (Nat.le_of_ble_eq_true rfl) ?_
        refine vv_aload_n (pc := 78) d_M_run_78 rfl ?_
        refine vv_iconst (pc := 79) (v := 0) d_M_run_79 rfl ?_
        refine ww_pi (pc := 80) 59 d_M_run_80 fl_M_367 (by omega) rfl rfl rfl rfl ?_
        refine vv_iload (pc := 83) d_M_run_83 rfl ?_
        refine vv_if_ge (pc := 85) (tgt := 103) d_M_run_85 rfl (fun hc => ?_) (fun hc => ?_)
        · replace w := w.1 hc
          exact vv_sub [4, 5, 3, 2, 1, 0] rfl (w G h n z d hn hd)
        · replace w := w.2 hc
          refine vv_iload (pc := 88) d_M_run_88 rfl ?_
          refine vv_aload_n (pc := 90) d_M_run_90 rfl ?_
          refine ww_gr (pc := 91) 7 31 d_M_run_91 fl_M_22 (by omega) rfl (by decide) ?_
          refine vv_iload_n (pc := 94) d_M_run_94 rfl ?_
          obtain ⟨b19, w⟩ := w
          refine ww_ld (pc := 95) 31 d_M_run_95 (by omega) (by decide) b19 ?_
          refine vv_icmp_ne (pc := 96) (tgt := 103) d_M_run_96 rfl (fun hc => ?_) (fun hc => ?_)
          · replace w := w.1 hc
            exact vv_sub [4, 5, 3, 2, 1, 0] rfl (w G h n z d hn hd)
          · replace w := w.2 hc
            refine vv_iconst (pc := 99) (v := 1) d_M_run_99 rfl ?_
            refine vv_goto (pc := 100) (tgt := 104) d_M_run_100 rfl ?_
            refine vv_istore (pc := 104) d_M_run_104 (Nat.le_of_ble_eq_true rfl) ?_
            refine vv_iload_n (pc := 106) d_M_run_106 rfl ?_
            refine vv_istore (pc := 107) d_M_run_107 (Nat.le_of_ble_eq_true rfl) ?_
            refine vv_iconst (pc := 109) (v := 0) d_M_run_109 rfl ?_
            refine vv_istore (pc := 110) d_M_run_110 (Nat.le_of_ble_eq_true rfl) ?_
            exact vv_sub [7, 8, 6, 5, 4, 3, 2, 1, 0] rfl (w G h n z d hn hd)
      · replace w := w.2 hc
        refine vv_iconst (pc := 36) (v := 0) d_M_run_36 rfl ?_
        obtain ⟨rfl, rfl⟩ := w
        exact vv_iret (pc := 37) d_M_run_37 rfl
    · replace w := w.2 hc
      refine vv_iconst (pc := 21) (v := 1) d_M_run_21 rfl ?_
      refine vv_goto (pc := 22) (tgt := 26) d_M_run_22 rfl ?_
      refine ww_pi (pc := 26) 0 d_M_run_26 fl_M_184 (by omega) rfl rfl rfl rfl ?_
      refine vv_aload_n (pc := 29) d_M_run_29 rfl ?_
      refine ww_gi (pc := 30) 0 d_M_run_30 fl_M_184 (by omega) rfl ?_
      refine vv_topi (y := 1) rfl ?_
      refine vv_if_le (pc := 33) (tgt := 38) d_M_run_33 rfl (fun hc => ?_) (fun hc => ?_)
      · replace w := w.1 hc
        refine vv_iload_n (pc := 38) d_M_run_38 rfl ?_
        refine vv_bipush (pc := 39) (v := 65) d_M_run_39 rfl ?_
        refine vv_isub (pc := 41) d_M_run_41 ?_
        refine vv_istore_n (pc := 42) d_M_run_42 (Nat.le_of_ble_eq_true rfl) ?_
        refine vv_aload_n (pc := 43) d_M_run_43 rfl ?_
        refine vv_iconst (pc := 44) (v := 0) d_M_run_44 rfl ?_
        refine ww_pi (pc := 45) 60 d_M_run_45 fl_M_329 (by omega) rfl rfl rfl rfl ?_
        refine vv_aload_n (pc := 48) d_M_run_48 rfl ?_
        refine ww_gi (pc := 49) 16 d_M_run_49 fl_M_194 (by omega) rfl ?_
        refine vv_istore_n (pc := 52) d_M_run_52 (Nat.le_of_ble_eq_true rfl) ?_
        refine vv_aload_n (pc := 53) d_M_run_53 rfl ?_
        refine vv_sipush (pc := 54) (v := 218) d_M_run_54 rfl ?_
        refine vv_iconst (pc := 57) (v := 0) d_M_run_57 rfl ?_
        refine vv_iconst (pc := 58) (v := 0) d_M_run_58 rfl ?_
        obtain ⟨r22, T21, c20, w⟩ := w
        refine vv_callV (pc := 59) (As := [.int 218, .int 0, .int 0]) d_M_run_59 (c20 G h n z (d - 1) hn (by omega)) k_M_read ml_M_429.1 ml_M_429.2.1 ml_M_429.2.2.1 ml_M_429.2.2.2.1 ml_M_429.2.2.2.2 (by omega) mm_26 (by omega) (Nat.le_of_ble_eq_true rfl) ?_
        refine vv_istore (pc := 62) d_M_run_62 (Nat.le_of_ble_eq_true rfl) ?_
        refine vv_aload_n (pc := 64) d_M_run_64 rfl ?_
        refine ww_gi (pc := 65) 34 d_M_run_65 fl_M_243 (by omega) rfl ?_
        refine vv_istore (pc := 68) d_M_run_68 (Nat.le_of_ble_eq_true rfl) ?_
        refine vv_aload_n (pc := 70) d_M_run_70 rfl ?_
        obtain ⟨T24, c23, w⟩ := w
        refine vv_callV (pc := 71) (As := []) d_M_run_71 (c23 G h n z (d - 1) hn (by omega)) k_M_nothing ml_M_410.1 ml_M_410.2.1 ml_M_410.2.2.1 ml_M_410.2.2.2.1 ml_M_410.2.2.2.2 (by omega) mm_26 (by omega) (Nat.le_of_ble_eq_true rfl) ?_
        refine vv_aload_n (pc := 74) d_M_run_74 rfl ?_
        obtain ⟨T26, c25, w⟩ := w
        refine vv_callV (pc := 75) (As := []) d_M_run_75 (c25 G h n z (d - 1) hn (by omega)) k_M_noNames ml_M_413.1 ml_M_413.2.1 ml_M_413.2.2.1 ml_M_413.2.2.2.1 ml_M_413.2.2.2.2 (by omega) mm_26 (by omega) (Nat.le_of_ble_eq_true rfl) ?_
        refine vv_aload_n (pc := 78) d_M_run_78 rfl ?_
        refine vv_iconst (pc := 79) (v := 0) d_M_run_79 rfl ?_
        refine ww_pi (pc := 80) 59 d_M_run_80 fl_M_367 (by omega) rfl rfl rfl rfl ?_
        refine vv_iload (pc := 83) d_M_run_83 rfl ?_
        refine vv_if_ge (pc := 85) (tgt := 103) d_M_run_85 rfl (fun hc => ?_) (fun hc => ?_)
        · replace w := w.1 hc
          exact vv_sub [4, 5, 3, 2, 1, 0] rfl (w G h n z d hn hd)
        · replace w := w.2 hc
          refine vv_iload (pc := 88) d_M_run_88 rfl ?_
          refine vv_aload_n (pc := 90) d_M_run_90 rfl ?_
          refine ww_gr (pc := 91) 7 31 d_M_run_91 fl_M_22 (by omega) rfl (by decide) ?_
          refine vv_iload_n (pc := 94) d_M_run_94 rfl ?_
          obtain ⟨b27, w⟩ := w
          refine ww_ld (pc := 95) 31 d_M_run_95 (by omega) (by decide) b27 ?_
          refine vv_icmp_ne (pc := 96) (tgt := 103) d_M_run_96 rfl (fun hc => ?_) (fun hc => ?_)
          · replace w := w.1 hc
            exact vv_sub [4, 5, 3, 2, 1, 0] rfl (w G h n z d hn hd)
          · replace w := w.2 hc
            refine vv_iconst (pc := 99) (v := 1) d_M_run_99 rfl ?_
            refine vv_goto (pc := 100) (tgt := 104) d_M_run_100 rfl ?_
            refine vv_istore (pc := 104) d_M_run_104 (Nat.le_of_ble_eq_true rfl) ?_
            refine vv_iload_n (pc := 106) d_M_run_106 rfl ?_
            refine vv_istore (pc := 107) d_M_run_107 (Nat.le_of_ble_eq_true rfl) ?_
            refine vv_iconst (pc := 109) (v := 0) d_M_run_109 rfl ?_
            refine vv_istore (pc := 110) d_M_run_110 (Nat.le_of_ble_eq_true rfl) ?_
            exact vv_sub [7, 8, 6, 5, 4, 3, 2, 1, 0] rfl (w G h n z d hn hd)
      · replace w := w.2 hc
        refine vv_iconst (pc := 36) (v := 0) d_M_run_36 rfl ?_
        obtain ⟨rfl, rfl⟩ := w
        exact vv_iret (pc := 37) d_M_run_37 rfl
theorem c_M_run {o : Option Value} {S' S : cp_S} {x1 : Int32} (w : JJ 8 m_M_run o S' 0 [(1, .int x1)] S) : MC 8 m_M_run [.int x1] S o S' := fun G h n z d hn hd => cp_C.of rfl (Nat.le_of_ble_eq_true rfl) (w G h n z d hn hd)
def wp_M_run_103 (o : Option Value) (S' : cp_S) (S : cp_S) (x1 : Int32) (x2 : Int32) (x3 : Int32) (x4 : Int32) (x5 : Int32) : Prop := JJ 8 m_M_run o S' 112 [(1, .int x1), (2, .int x2), (3, .int x3), (4, .int x4), (5, .int x5), (6, .int 0), (7, .int x3), (8, .int 0)] S
theorem b_M_run_103 {o : Option Value} {S' S : cp_S} {x1 : Int32} {x2 : Int32} {x3 : Int32} {x4 : Int32} {x5 : Int32} (w : wp_M_run_103 o S' S x1 x2 x3 x4 x5) : JJ 8 m_M_run o S' 103 [(1, .int x1), (2, .int x2), (3, .int x3), (4, .int x4), (5, .int x5)] S := by
  unfold wp_M_run_103 at w
  intro G h n z d hn hd
  refine vv_iconst (pc := 103) (v := 0) d_M_run_103 rfl ?_
  refine vv_istore (pc := 104) d_M_run_104 (Nat.le_of_ble_eq_true rfl) ?_
  refine vv_iload_n (pc := 106) d_M_run_106 rfl ?_
  refine vv_istore (pc := 107) d_M_run_107 (Nat.le_of_ble_eq_true rfl) ?_
  refine vv_iconst (pc := 109) (v := 0) d_M_run_109 rfl ?_
  refine vv_istore (pc := 110) d_M_run_110 (Nat.le_of_ble_eq_true rfl) ?_
  exact vv_sub [3, 4, 5, 6, 7, 8, 2, 1, 0] rfl (w G h n z d hn hd)
def wp_M_run_112 (o : Option Value) (S' : cp_S) (S : cp_S) (x1 : Int32) (x2 : Int32) (x3 : Int32) (x4 : Int32) (x5 : Int32) (x6 : Int32) (x7 : Int32) (x8 : Int32) : Prop := ((x5 ≤ (x8 : Int32) → JJ 8 m_M_run o S' 165 [(1, .int x1), (2, .int x2), (3, .int x3), (4, .int x4), (5, .int x5), (6, .int x6), (7, .int x7), (8, .int x8)] S) ∧ (¬ x5 ≤ (x8 : Int32) → (((x6 : Int32) = 0 → JJ 8 m_M_run o S' 165 [(1, .int x1), (2, .int x2), (3, .int x3), (4, .int x4), (5, .int x5), (6, .int x6), (7, .int x7), (8, .int x8)] S) ∧ (¬ (x6 : Int32) = 0 → ∃ r3 T2, MC 7 m_M_typeOf [.int x7] S (some (.int r3)) T2 ∧ (((r3 : Int32) = (-1) → (((0 : Int32) = 0 → JJ 8 m_M_run o S' 112 [(1, .int x1), (2, .int x2), (3, .int x3), (4, .int x4), (5, .int x5), (6, .int 0), (7, .int x7), (8, .int (x8 + 1))] T2) ∧ (¬ (0 : Int32) = 0 → ∃ r6 T5, MC 1 m_M_behind [.int x7] T2 (some (.int r6)) T5 ∧ JJ 8 m_M_run o S' 112 [(1, .int x1), (2, .int x2), (3, .int x3), (4, .int x4), (5, .int x5), (6, .int 0), (7, .int r6), (8, .int (x8 + 1))] T5))) ∧ (¬ (r3 : Int32) = (-1) → (((1 : Int32) = 0 → JJ 8 m_M_run o S' 112 [(1, .int x1), (2, .int x2), (3, .int x3), (4, .int x4), (5, .int x5), (6, .int 1), (7, .int x7), (8, .int (x8 + 1))] T2) ∧ (¬ (1 : Int32) = 0 → ∃ r9 T8, MC 1 m_M_behind [.int x7] T2 (some (.int r9)) T8 ∧ JJ 8 m_M_run o S' 112 [(1, .int x1), (2, .int x2), (3, .int x3), (4, .int x4), (5, .int x5), (6, .int 1), (7, .int r9), (8, .int (x8 + 1))] T8))))))))
theorem b_M_run_112 {o : Option Value} {S' S : cp_S} {x1 : Int32} {x2 : Int32} {x3 : Int32} {x4 : Int32} {x5 : Int32} {x6 : Int32} {x7 : Int32} {x8 : Int32} (w : wp_M_run_112 o S' S x1 x2 x3 x4 x5 x6 x7 x8) : JJ 8 m_M_run o S' 112 [(1, .int x1), (2, .int x2), (3, .int x3), (4, .int x4), (5, .int x5), (6, .int x6), (7, .int x7), (8, .int x8)] S := by
  unfold wp_M_run_112 at w
  intro G h n z d hn hd
  refine vv_iload (pc := 112) d_M_run_112 rfl ?_
  refine vv_iload (pc := 114) d_M_run_114 rfl ?_
  refine vv_icmp_ge (pc := 116) (tgt := 165) d_M_run_116 rfl (fun hc => ?_) (fun hc => ?_)
  · replace w := w.1 hc
    exact vv_sub [0, 1, 2, 3, 4, 5, 6, 7, 8] rfl (w G h n z d hn hd)
  · replace w := w.2 hc
    refine vv_iload (pc := 119) d_M_run_119 rfl ?_
    refine vv_if_eq (pc := 121) (tgt := 165) d_M_run_121 rfl (fun hc => ?_) (fun hc => ?_)
    · replace w := w.1 hc
      exact vv_sub [0, 1, 2, 3, 4, 5, 6, 7, 8] rfl (w G h n z d hn hd)
    · replace w := w.2 hc
      refine vv_aload_n (pc := 124) d_M_run_124 rfl ?_
      refine vv_iload (pc := 125) d_M_run_125 rfl ?_
      obtain ⟨r3, T2, c1, w⟩ := w
      refine vv_callV (pc := 127) (As := [.int x7]) d_M_run_127 (c1 G h n z (d - 1) hn (by omega)) k_M_typeOf ml_M_407.1 ml_M_407.2.1 ml_M_407.2.2.1 ml_M_407.2.2.2.1 ml_M_407.2.2.2.2 (by omega) mm_26 (by omega) (Nat.le_of_ble_eq_true rfl) ?_
      refine vv_iconst (pc := 130) (v := (-1)) d_M_run_130 rfl ?_
      refine vv_icmp_eq (pc := 131) (tgt := 138) d_M_run_131 rfl (fun hc => ?_) (fun hc => ?_)
      · replace w := w.1 hc
        refine vv_iconst (pc := 138) (v := 0) d_M_run_138 rfl ?_
        refine vv_istore (pc := 139) d_M_run_139 (Nat.le_of_ble_eq_true rfl) ?_
        refine vv_iload (pc := 141) d_M_run_141 rfl ?_
        refine vv_if_eq (pc := 143) (tgt := 155) d_M_run_143 rfl (fun hc => ?_) (fun hc => ?_)
        · replace w := w.1 hc
          refine vv_iload (pc := 155) d_M_run_155 rfl ?_
          refine vv_istore (pc := 157) d_M_run_157 (Nat.le_of_ble_eq_true rfl) ?_
          refine vv_iinc (pc := 159) (v := (x8 + 1)) d_M_run_159 rfl rfl (Nat.le_of_ble_eq_true rfl) ?_
          refine vv_goto (pc := 162) (tgt := 112) d_M_run_162 rfl ?_
          exact vv_sub [3, 4, 5, 6, 7, 8, 2, 1, 0] rfl (w G h n z d hn hd)
        · replace w := w.2 hc
          refine vv_aload_n (pc := 146) d_M_run_146 rfl ?_
          refine vv_iload (pc := 147) d_M_run_147 rfl ?_
          obtain ⟨r6, T5, c4, w⟩ := w
          refine vv_callV (pc := 149) (As := [.int x7]) d_M_run_149 (c4 G h n z (d - 1) hn (by omega)) k_M_behind ml_M_268.1 ml_M_268.2.1 ml_M_268.2.2.1 ml_M_268.2.2.2.1 ml_M_268.2.2.2.2 (by omega) mm_26 (by omega) (Nat.le_of_ble_eq_true rfl) ?_
          refine vv_goto (pc := 152) (tgt := 157) d_M_run_152 rfl ?_
          refine vv_istore (pc := 157) d_M_run_157 (Nat.le_of_ble_eq_true rfl) ?_
          refine vv_iinc (pc := 159) (v := (x8 + 1)) d_M_run_159 rfl rfl (Nat.le_of_ble_eq_true rfl) ?_
          refine vv_goto (pc := 162) (tgt := 112) d_M_run_162 rfl ?_
          exact vv_sub [3, 4, 5, 6, 7, 8, 2, 1, 0] rfl (w G h n z d hn hd)
      · replace w := w.2 hc
        refine vv_iconst (pc := 134) (v := 1) d_M_run_134 rfl ?_
        refine vv_goto (pc := 135) (tgt := 139) d_M_run_135 rfl ?_
        refine vv_istore (pc := 139) d_M_run_139 (Nat.le_of_ble_eq_true rfl) ?_
        refine vv_iload (pc := 141) d_M_run_141 rfl ?_
        refine vv_if_eq (pc := 143) (tgt := 155) d_M_run_143 rfl (fun hc => ?_) (fun hc => ?_)
        · replace w := w.1 hc
          refine vv_iload (pc := 155) d_M_run_155 rfl ?_
          refine vv_istore (pc := 157) d_M_run_157 (Nat.le_of_ble_eq_true rfl) ?_
          refine vv_iinc (pc := 159) (v := (x8 + 1)) d_M_run_159 rfl rfl (Nat.le_of_ble_eq_true rfl) ?_
          refine vv_goto (pc := 162) (tgt := 112) d_M_run_162 rfl ?_
          exact vv_sub [3, 4, 5, 6, 7, 8, 2, 1, 0] rfl (w G h n z d hn hd)
        · replace w := w.2 hc
          refine vv_aload_n (pc := 146) d_M_run_146 rfl ?_
          refine vv_iload (pc := 147) d_M_run_147 rfl ?_
          obtain ⟨r9, T8, c7, w⟩ := w
          refine vv_callV (pc := 149) (As := [.int x7]) d_M_run_149 (c7 G h n z (d - 1) hn (by omega)) k_M_behind ml_M_268.1 ml_M_268.2.1 ml_M_268.2.2.1 ml_M_268.2.2.2.1 ml_M_268.2.2.2.2 (by omega) mm_26 (by omega) (Nat.le_of_ble_eq_true rfl) ?_
          refine vv_goto (pc := 152) (tgt := 157) d_M_run_152 rfl ?_
          refine vv_istore (pc := 157) d_M_run_157 (Nat.le_of_ble_eq_true rfl) ?_
          refine vv_iinc (pc := 159) (v := (x8 + 1)) d_M_run_159 rfl rfl (Nat.le_of_ble_eq_true rfl) ?_
          refine vv_goto (pc := 162) (tgt := 112) d_M_run_162 rfl ?_
          exact vv_sub [3, 4, 5, 6, 7, 8, 2, 1, 0] rfl (w G h n z d hn hd)
def wp_M_run_165 (o : Option Value) (S' : cp_S) (S : cp_S) (x1 : Int32) (x2 : Int32) (x3 : Int32) (x4 : Int32) (x5 : Int32) (x6 : Int32) (x7 : Int32) (x8 : Int32) : Prop := JJ 8 m_M_run o S' 171 [(1, .int x1), (2, .int x2), (3, .int x3), (4, .int x4), (5, .int x5), (6, .int x6), (7, .int x3), (8, .int 0)] S
theorem b_M_run_165 {o : Option Value} {S' S : cp_S} {x1 : Int32} {x2 : Int32} {x3 : Int32} {x4 : Int32} {x5 : Int32} {x6 : Int32} {x7 : Int32} {x8 : Int32} (w : wp_M_run_165 o S' S x1 x2 x3 x4 x5 x6 x7 x8) : JJ 8 m_M_run o S' 165 [(1, .int x1), (2, .int x2), (3, .int x3), (4, .int x4), (5, .int x5), (6, .int x6), (7, .int x7), (8, .int x8)] S := by
  unfold wp_M_run_165 at w
  intro G h n z d hn hd
  refine vv_iload_n (pc := 165) d_M_run_165 rfl ?_
  refine vv_istore (pc := 166) d_M_run_166 (Nat.le_of_ble_eq_true rfl) ?_
  refine vv_iconst (pc := 168) (v := 0) d_M_run_168 rfl ?_
  refine vv_istore (pc := 169) d_M_run_169 (Nat.le_of_ble_eq_true rfl) ?_
  exact vv_sub [2, 3, 4, 5, 6, 7, 8, 1, 0] rfl (w G h n z d hn hd)
def wp_M_run_171 (o : Option Value) (S' : cp_S) (S : cp_S) (x1 : Int32) (x2 : Int32) (x3 : Int32) (x4 : Int32) (x5 : Int32) (x6 : Int32) (x7 : Int32) (x8 : Int32) : Prop := ((x5 ≤ (x8 : Int32) → JJ 8 m_M_run o S' 211 [(1, .int x1), (2, .int x2), (3, .int x3), (4, .int x4), (5, .int x5), (6, .int x6), (7, .int x7), (8, .int x8)] S) ∧ (¬ x5 ≤ (x8 : Int32) → (((x6 : Int32) = 0 → JJ 8 m_M_run o S' 211 [(1, .int x1), (2, .int x2), (3, .int x3), (4, .int x4), (5, .int x5), (6, .int x6), (7, .int x7), (8, .int x8)] S) ∧ (¬ (x6 : Int32) = 0 → ∃ r3 T2, MC 2 m_M_valueOf [.int x7, .int 0] S (some (.int r3)) T2 ∧ vp_in x8 (cp_ml 71) ∧ ∃ r7 T6, MC 1 m_M_behind [.int x7] (T2.1, (va_up T2.2 71 (upd (T2.2 71) (Int32.toNatClampNeg x8) r3))) (some (.int r7)) T6 ∧ JJ 8 m_M_run o S' 171 [(1, .int x1), (2, .int x2), (3, .int x3), (4, .int x4), (5, .int x5), (6, .int x6), (7, .int r7), (8, .int (x8 + 1))] T6))))
theorem b_M_run_171 {o : Option Value} {S' S : cp_S} {x1 : Int32} {x2 : Int32} {x3 : Int32} {x4 : Int32} {x5 : Int32} {x6 : Int32} {x7 : Int32} {x8 : Int32} (w : wp_M_run_171 o S' S x1 x2 x3 x4 x5 x6 x7 x8) : JJ 8 m_M_run o S' 171 [(1, .int x1), (2, .int x2), (3, .int x3), (4, .int x4), (5, .int x5), (6, .int x6), (7, .int x7), (8, .int x8)] S := by
  unfold wp_M_run_171 at w
  intro G h n z d hn hd
  refine vv_iload (pc := 171) d_M_run_171 rfl ?_
  refine vv_iload (pc := 173) d_M_run_173 rfl ?_
  refine vv_icmp_ge (pc := 175) (tgt := 211) d_M_run_175 rfl (fun hc => ?_) (fun hc => ?_)
  · replace w := w.1 hc
    exact vv_sub [0, 1, 2, 3, 4, 5, 6, 7, 8] rfl (w G h n z d hn hd)
  · replace w := w.2 hc
    refine vv_iload (pc := 178) d_M_run_178 rfl ?_
    refine vv_if_eq (pc := 180) (tgt := 211) d_M_run_180 rfl (fun hc => ?_) (fun hc => ?_)
    · replace w := w.1 hc
      exact vv_sub [0, 1, 2, 3, 4, 5, 6, 7, 8] rfl (w G h n z d hn hd)
    · replace w := w.2 hc
      refine vv_aload_n (pc := 183) d_M_run_183 rfl ?_
      refine ww_gr (pc := 184) 65 71 d_M_run_184 fl_M_142 (by omega) rfl (by decide) ?_
      refine vv_iload (pc := 187) d_M_run_187 rfl ?_
      refine vv_aload_n (pc := 189) d_M_run_189 rfl ?_
      refine vv_iload (pc := 190) d_M_run_190 rfl ?_
      refine vv_iconst (pc := 192) (v := 0) d_M_run_192 rfl ?_
      obtain ⟨r3, T2, c1, w⟩ := w
      refine vv_callV (pc := 193) (As := [.int x7, .int 0]) d_M_run_193 (c1 G h n z (d - 1) hn (by omega)) k_M_valueOf ml_M_379.1 ml_M_379.2.1 ml_M_379.2.2.1 ml_M_379.2.2.2.1 ml_M_379.2.2.2.2 (by omega) mm_26 (by omega) (Nat.le_of_ble_eq_true rfl) ?_
      obtain ⟨b4, w⟩ := w
      refine ww_st (pc := 196) 71 d_M_run_196 (by omega) (by decide) b4 ?_
      refine vv_aload_n (pc := 197) d_M_run_197 rfl ?_
      refine vv_iload (pc := 198) d_M_run_198 rfl ?_
      obtain ⟨r7, T6, c5, w⟩ := w
      refine vv_callV (pc := 200) (As := [.int x7]) d_M_run_200 (c5 G h n z (d - 1) hn (by omega)) k_M_behind ml_M_268.1 ml_M_268.2.1 ml_M_268.2.2.1 ml_M_268.2.2.2.1 ml_M_268.2.2.2.2 (by omega) mm_26 (by omega) (Nat.le_of_ble_eq_true rfl) ?_
      refine vv_istore (pc := 203) d_M_run_203 (Nat.le_of_ble_eq_true rfl) ?_
      refine vv_iinc (pc := 205) (v := (x8 + 1)) d_M_run_205 rfl rfl (Nat.le_of_ble_eq_true rfl) ?_
      refine vv_goto (pc := 208) (tgt := 171) d_M_run_208 rfl ?_
      exact vv_sub [2, 3, 4, 5, 6, 7, 8, 1, 0] rfl (w G h n z d hn hd)
def wp_M_run_211 (o : Option Value) (S' : cp_S) (S : cp_S) (x1 : Int32) (x2 : Int32) (x3 : Int32) (x4 : Int32) (x5 : Int32) (x6 : Int32) (x7 : Int32) (x8 : Int32) : Prop := ((¬ (x6 : Int32) = 0 → ∃ r3 T2, MC 4 m_M_runs [.int x2] ((va_up S.1 16 x3), S.2) (some (.int r3)) T2 ∧ ((¬ (r3 : Int32) = (-1) → ∃ r6 T5, MC 2 m_M_draw [.int r3] T2 (some (.int r6)) T5 ∧ ((0 ≤ (r6 : Int32) → ∃ r9 T8, MC 0 m_M_show [.int r6] T5 (some (.int r9)) T8 ∧ (o = some (.int r9) ∧ S' = T8)) ∧ (¬ 0 ≤ (r6 : Int32) → (o = some (.int r6) ∧ S' = T5)))) ∧ ((r3 : Int32) = (-1) → ((0 ≤ ((-300) : Int32) → ∃ r12 T11, MC 0 m_M_show [.int (-300)] T2 (some (.int r12)) T11 ∧ (o = some (.int r12) ∧ S' = T11)) ∧ (¬ 0 ≤ ((-300) : Int32) → (o = some (.int (-300)) ∧ S' = T2)))))) ∧ ((x6 : Int32) = 0 → (((x4 : Int32) < 0 → (o = some (.int ((-100) - (S.1 59))) ∧ S' = ((va_up S.1 16 x3), S.2))) ∧ (¬ (x4 : Int32) < 0 → (o = some (.int ((-1) - x4)) ∧ S' = ((va_up S.1 16 x3), S.2))))))
theorem b_M_run_211 {o : Option Value} {S' S : cp_S} {x1 : Int32} {x2 : Int32} {x3 : Int32} {x4 : Int32} {x5 : Int32} {x6 : Int32} {x7 : Int32} {x8 : Int32} (w : wp_M_run_211 o S' S x1 x2 x3 x4 x5 x6 x7 x8) : JJ 8 m_M_run o S' 211 [(1, .int x1), (2, .int x2), (3, .int x3), (4, .int x4), (5, .int x5), (6, .int x6), (7, .int x7), (8, .int x8)] S := by
  unfold wp_M_run_211 at w
  intro G h n z d hn hd
  refine vv_aload_n (pc := 211) d_M_run_211 rfl ?_
  refine vv_iload_n (pc := 212) d_M_run_212 rfl ?_
  refine ww_pi (pc := 213) 16 d_M_run_213 fl_M_194 (by omega) rfl rfl rfl rfl ?_
  refine vv_iload (pc := 216) d_M_run_216 rfl ?_
  refine vv_if_ne (pc := 218) (tgt := 241) d_M_run_218 rfl (fun hc => ?_) (fun hc => ?_)
  · replace w := w.1 hc
    refine vv_aload_n (pc := 241) d_M_run_241 rfl ?_
    refine vv_iload_n (pc := 242) d_M_run_242 rfl ?_
    obtain ⟨r3, T2, c1, w⟩ := w
    refine vv_callV (pc := 243) (As := [.int x2]) d_M_run_243 (c1 G h n z (d - 1) hn (by omega)) k_M_runs ml_M_382.1 ml_M_382.2.1 ml_M_382.2.2.1 ml_M_382.2.2.2.1 ml_M_382.2.2.2.2 (by omega) mm_26 (by omega) (Nat.le_of_ble_eq_true rfl) ?_
    refine vv_istore (pc := 246) d_M_run_246 (Nat.le_of_ble_eq_true rfl) ?_
    refine vv_iload (pc := 248) d_M_run_248 rfl ?_
    refine vv_iconst (pc := 250) (v := (-1)) d_M_run_250 rfl ?_
    refine vv_icmp_ne (pc := 251) (tgt := 260) d_M_run_251 rfl (fun hc => ?_) (fun hc => ?_)
    · replace w := w.1 hc
      refine vv_aload_n (pc := 260) d_M_run_260 rfl ?_
      refine vv_iload (pc := 261) d_M_run_261 rfl ?_
      obtain ⟨r6, T5, c4, w⟩ := w
      refine vv_callV (pc := 263) (As := [.int r3]) d_M_run_263 (c4 G h n z (d - 1) hn (by omega)) k_M_draw ml_M_450.1 ml_M_450.2.1 ml_M_450.2.2.1 ml_M_450.2.2.2.1 ml_M_450.2.2.2.2 (by omega) mm_26 (by omega) (Nat.le_of_ble_eq_true rfl) ?_
      refine vv_istore (pc := 266) d_M_run_266 (Nat.le_of_ble_eq_true rfl) ?_
      refine vv_iload (pc := 268) d_M_run_268 rfl ?_
      refine vv_if_ge (pc := 270) (tgt := 278) d_M_run_270 rfl (fun hc => ?_) (fun hc => ?_)
      · replace w := w.1 hc
        refine vv_aload_n (pc := 278) d_M_run_278 rfl ?_
        refine vv_iload (pc := 279) d_M_run_279 rfl ?_
        obtain ⟨r9, T8, c7, w⟩ := w
        refine vv_callV (pc := 281) (As := [.int r6]) d_M_run_281 (c7 G h n z (d - 1) hn (by omega)) k_M_show ml_M_459.1 ml_M_459.2.1 ml_M_459.2.2.1 ml_M_459.2.2.2.1 ml_M_459.2.2.2.2 (by omega) mm_26 (by omega) (Nat.le_of_ble_eq_true rfl) ?_
        obtain ⟨rfl, rfl⟩ := w
        exact vv_iret (pc := 284) d_M_run_284 rfl
      · replace w := w.2 hc
        refine vv_iload (pc := 273) d_M_run_273 rfl ?_
        refine vv_goto (pc := 275) (tgt := 284) d_M_run_275 rfl ?_
        obtain ⟨rfl, rfl⟩ := w
        exact vv_iret (pc := 284) d_M_run_284 rfl
    · replace w := w.2 hc
      refine vv_sipush (pc := 254) (v := (-300)) d_M_run_254 rfl ?_
      refine vv_goto (pc := 257) (tgt := 266) d_M_run_257 rfl ?_
      refine vv_istore (pc := 266) d_M_run_266 (Nat.le_of_ble_eq_true rfl) ?_
      refine vv_iload (pc := 268) d_M_run_268 rfl ?_
      refine vv_if_ge (pc := 270) (tgt := 278) d_M_run_270 rfl (fun hc => ?_) (fun hc => ?_)
      · replace w := w.1 hc
        refine vv_aload_n (pc := 278) d_M_run_278 rfl ?_
        refine vv_iload (pc := 279) d_M_run_279 rfl ?_
        obtain ⟨r12, T11, c10, w⟩ := w
        refine vv_callV (pc := 281) (As := [.int (-300)]) d_M_run_281 (c10 G h n z (d - 1) hn (by omega)) k_M_show ml_M_459.1 ml_M_459.2.1 ml_M_459.2.2.1 ml_M_459.2.2.2.1 ml_M_459.2.2.2.2 (by omega) mm_26 (by omega) (Nat.le_of_ble_eq_true rfl) ?_
        obtain ⟨rfl, rfl⟩ := w
        exact vv_iret (pc := 284) d_M_run_284 rfl
      · replace w := w.2 hc
        refine vv_iload (pc := 273) d_M_run_273 rfl ?_
        refine vv_goto (pc := 275) (tgt := 284) d_M_run_275 rfl ?_
        obtain ⟨rfl, rfl⟩ := w
        exact vv_iret (pc := 284) d_M_run_284 rfl
  · replace w := w.2 hc
    refine vv_iload (pc := 221) d_M_run_221 rfl ?_
    refine vv_if_lt (pc := 223) (tgt := 233) d_M_run_223 rfl (fun hc => ?_) (fun hc => ?_)
    · replace w := w.1 hc
      refine vv_bipush (pc := 233) (v := (-100)) d_M_run_233 rfl ?_
      refine vv_aload_n (pc := 235) d_M_run_235 rfl ?_
      refine ww_gi (pc := 236) 59 d_M_run_236 fl_M_367 (by omega) rfl ?_
      refine vv_isub (pc := 239) d_M_run_239 ?_
      obtain ⟨rfl, rfl⟩ := w
      exact vv_iret (pc := 240) d_M_run_240 rfl
    · replace w := w.2 hc
      refine vv_iconst (pc := 226) (v := (-1)) d_M_run_226 rfl ?_
      refine vv_iload (pc := 227) d_M_run_227 rfl ?_
      refine vv_isub (pc := 229) d_M_run_229 ?_
      refine vv_goto (pc := 230) (tgt := 240) d_M_run_230 rfl ?_
      obtain ⟨rfl, rfl⟩ := w
      exact vv_iret (pc := 240) d_M_run_240 rfl
def wp_M_steps_0 (o : Option Value) (S' : cp_S) (S : cp_S) : Prop := (o = some (.int (S.1 60)) ∧ S' = ((va_up S.1 0 0), S.2))
theorem b_M_steps_0 {o : Option Value} {S' S : cp_S} (w : wp_M_steps_0 o S' S) : JJ 0 m_M_steps o S' 0 [] S := by
  unfold wp_M_steps_0 at w
  intro G h n z d hn hd
  refine vv_aload_n (pc := 0) d_M_steps_0 rfl ?_
  refine vv_iconst (pc := 1) (v := 0) d_M_steps_1 rfl ?_
  refine ww_pi (pc := 2) 0 d_M_steps_2 fl_M_184 (by omega) rfl rfl rfl rfl ?_
  refine vv_aload_n (pc := 5) d_M_steps_5 rfl ?_
  refine ww_gi (pc := 6) 60 d_M_steps_6 fl_M_329 (by omega) rfl ?_
  obtain ⟨rfl, rfl⟩ := w
  exact vv_iret (pc := 9) d_M_steps_9 rfl
theorem c_M_steps {o : Option Value} {S' S : cp_S} (w : JJ 0 m_M_steps o S' 0 [] S) : MC 0 m_M_steps [] S o S' := fun G h n z d hn hd => cp_C.of rfl (Nat.le_of_ble_eq_true rfl) (w G h n z d hn hd)
def wp_M_kind_0 (o : Option Value) (S' : cp_S) (S : cp_S) (x1 : Int32) : Prop := ∃ r2, SC m_M_isLetter [.int x1] (some (.int r2)) ∧ (((r2 : Int32) = 0 → (o = some (.int 0) ∧ S' = ((va_up S.1 0 0), S.2))) ∧ (¬ (r2 : Int32) = 0 → vp_in (x1 - 65) (cp_ml 30) ∧ (o = some (.int ((S.2 30) (Int32.toNatClampNeg (x1 - 65)))) ∧ S' = ((va_up S.1 0 0), S.2))))
theorem b_M_kind_0 {o : Option Value} {S' S : cp_S} {x1 : Int32} (w : wp_M_kind_0 o S' S x1) : JJ 1 m_M_kind o S' 0 [(1, .int x1)] S := by
  unfold wp_M_kind_0 at w
  intro G h n z d hn hd
  refine vv_aload_n (pc := 0) d_M_kind_0 rfl ?_
  refine vv_iconst (pc := 1) (v := 0) d_M_kind_1 rfl ?_
  refine ww_pi (pc := 2) 0 d_M_kind_2 fl_M_184 (by omega) rfl rfl rfl rfl ?_
  refine vv_iload_n (pc := 5) d_M_kind_5 rfl ?_
  obtain ⟨r2, c1, w⟩ := w
  refine vv_callS (pc := 6) (As := [.int x1]) d_M_kind_6 (c1 G (mm G h ((va_up S.1 0 0), S.2)) n z (d - 1)) k_M_isLetter ml_M_215.1 ml_M_215.2 (by omega) (Nat.le_of_ble_eq_true rfl) ?_
  refine vv_if_eq (pc := 9) (tgt := 24) d_M_kind_9 rfl (fun hc => ?_) (fun hc => ?_)
  · replace w := w.1 hc
    refine vv_iconst (pc := 24) (v := 0) d_M_kind_24 rfl ?_
    obtain ⟨rfl, rfl⟩ := w
    exact vv_iret (pc := 25) d_M_kind_25 rfl
  · replace w := w.2 hc
    refine vv_aload_n (pc := 12) d_M_kind_12 rfl ?_
    refine ww_gr (pc := 13) 6 30 d_M_kind_13 fl_M_19 (by omega) rfl (by decide) ?_
    refine vv_iload_n (pc := 16) d_M_kind_16 rfl ?_
    refine vv_bipush (pc := 17) (v := 65) d_M_kind_17 rfl ?_
    refine vv_isub (pc := 19) d_M_kind_19 ?_
    obtain ⟨b3, w⟩ := w
    refine ww_ld (pc := 20) 30 d_M_kind_20 (by omega) (by decide) b3 ?_
    refine vv_goto (pc := 21) (tgt := 25) d_M_kind_21 rfl ?_
    obtain ⟨rfl, rfl⟩ := w
    exact vv_iret (pc := 25) d_M_kind_25 rfl
theorem c_M_kind {o : Option Value} {S' S : cp_S} {x1 : Int32} (w : JJ 1 m_M_kind o S' 0 [(1, .int x1)] S) : MC 1 m_M_kind [.int x1] S o S' := fun G h n z d hn hd => cp_C.of rfl (Nat.le_of_ble_eq_true rfl) (w G h n z d hn hd)
def wp_M_parameters_0 (o : Option Value) (S' : cp_S) (S : cp_S) (x1 : Int32) : Prop := ∃ r2, SC m_M_isLetter [.int x1] (some (.int r2)) ∧ (((r2 : Int32) = 0 → (o = some (.int (-1)) ∧ S' = ((va_up S.1 0 0), S.2))) ∧ (¬ (r2 : Int32) = 0 → vp_in (x1 - 65) (cp_ml 30) ∧ ((¬ (((S.2 30) (Int32.toNatClampNeg (x1 - 65))) : Int32) = 0 → vp_in (x1 - 65) (cp_ml 31) ∧ (o = some (.int ((S.2 31) (Int32.toNatClampNeg (x1 - 65)))) ∧ S' = ((va_up S.1 0 0), S.2))) ∧ ((((S.2 30) (Int32.toNatClampNeg (x1 - 65))) : Int32) = 0 → (o = some (.int (-1)) ∧ S' = ((va_up S.1 0 0), S.2))))))
theorem b_M_parameters_0 {o : Option Value} {S' S : cp_S} {x1 : Int32} (w : wp_M_parameters_0 o S' S x1) : JJ 1 m_M_parameters o S' 0 [(1, .int x1)] S := by
  unfold wp_M_parameters_0 at w
  intro G h n z d hn hd
  refine vv_aload_n (pc := 0) d_M_parameters_0 rfl ?_
  refine vv_iconst (pc := 1) (v := 0) d_M_parameters_1 rfl ?_
  refine ww_pi (pc := 2) 0 d_M_parameters_2 fl_M_184 (by omega) rfl rfl rfl rfl ?_
  refine vv_iload_n (pc := 5) d_M_parameters_5 rfl ?_
  obtain ⟨r2, c1, w⟩ := w
  refine vv_callS (pc := 6) (As := [.int x1]) d_M_parameters_6 (c1 G (mm G h ((va_up S.1 0 0), S.2)) n z (d - 1)) k_M_isLetter ml_M_215.1 ml_M_215.2 (by omega) (Nat.le_of_ble_eq_true rfl) ?_
  refine vv_if_eq (pc := 9) (tgt := 24) d_M_parameters_9 rfl (fun hc => ?_) (fun hc => ?_)
  · replace w := w.1 hc
    refine vv_iconst (pc := 24) (v := (-1)) d_M_parameters_24 rfl ?_
    refine vv_goto (pc := 25) (tgt := 37) d_M_parameters_25 rfl ?_
    obtain ⟨rfl, rfl⟩ := w
    exact vv_iret (pc := 37) d_M_parameters_37 rfl
  · replace w := w.2 hc
    refine vv_aload_n (pc := 12) d_M_parameters_12 rfl ?_
    refine ww_gr (pc := 13) 6 30 d_M_parameters_13 fl_M_19 (by omega) rfl (by decide) ?_
    refine vv_iload_n (pc := 16) d_M_parameters_16 rfl ?_
    refine vv_bipush (pc := 17) (v := 65) d_M_parameters_17 rfl ?_
    refine vv_isub (pc := 19) d_M_parameters_19 ?_
    obtain ⟨b3, w⟩ := w
    refine ww_ld (pc := 20) 30 d_M_parameters_20 (by omega) (by decide) b3 ?_
    refine vv_if_ne (pc := 21) (tgt := 28) d_M_parameters_21 rfl (fun hc => ?_) (fun hc => ?_)
    · replace w := w.1 hc
      refine vv_aload_n (pc := 28) d_M_parameters_28 rfl ?_
      refine ww_gr (pc := 29) 7 31 d_M_parameters_29 fl_M_22 (by omega) rfl (by decide) ?_
      refine vv_iload_n (pc := 32) d_M_parameters_32 rfl ?_
      refine vv_bipush (pc := 33) (v := 65) d_M_parameters_33 rfl ?_
      refine vv_isub (pc := 35) d_M_parameters_35 ?_
      obtain ⟨b4, w⟩ := w
      refine ww_ld (pc := 36) 31 d_M_parameters_36 (by omega) (by decide) b4 ?_
      obtain ⟨rfl, rfl⟩ := w
      exact vv_iret (pc := 37) d_M_parameters_37 rfl
    · replace w := w.2 hc
      refine vv_iconst (pc := 24) (v := (-1)) d_M_parameters_24 rfl ?_
      refine vv_goto (pc := 25) (tgt := 37) d_M_parameters_25 rfl ?_
      obtain ⟨rfl, rfl⟩ := w
      exact vv_iret (pc := 37) d_M_parameters_37 rfl
theorem c_M_parameters {o : Option Value} {S' S : cp_S} {x1 : Int32} (w : JJ 1 m_M_parameters o S' 0 [(1, .int x1)] S) : MC 1 m_M_parameters [.int x1] S o S' := fun G h n z d hn hd => cp_C.of rfl (Nat.le_of_ble_eq_true rfl) (w G h n z d hn hd)
def wp_M_length_0 (o : Option Value) (S' : cp_S) (S : cp_S) : Prop := (o = some (.int (S.1 3)) ∧ S' = ((va_up S.1 0 0), S.2))
theorem b_M_length_0 {o : Option Value} {S' S : cp_S} (w : wp_M_length_0 o S' S) : JJ 0 m_M_length o S' 0 [] S := by
  unfold wp_M_length_0 at w
  intro G h n z d hn hd
  refine vv_aload_n (pc := 0) d_M_length_0 rfl ?_
  refine vv_iconst (pc := 1) (v := 0) d_M_length_1 rfl ?_
  refine ww_pi (pc := 2) 0 d_M_length_2 fl_M_184 (by omega) rfl rfl rfl rfl ?_
  refine vv_aload_n (pc := 5) d_M_length_5 rfl ?_
  refine ww_gi (pc := 6) 3 d_M_length_6 fl_M_314 (by omega) rfl ?_
  obtain ⟨rfl, rfl⟩ := w
  exact vv_iret (pc := 9) d_M_length_9 rfl
theorem c_M_length {o : Option Value} {S' S : cp_S} (w : JJ 0 m_M_length o S' 0 [] S) : MC 0 m_M_length [] S o S' := fun G h n z d hn hd => cp_C.of rfl (Nat.le_of_ble_eq_true rfl) (w G h n z d hn hd)
def wp_M_charAt_0 (o : Option Value) (S' : cp_S) (S : cp_S) (x1 : Int32) : Prop := (((x1 : Int32) < 0 → (o = some (.int 32) ∧ S' = ((va_up S.1 0 0), S.2) ∧ narrow .char (.int 32) = .int 32)) ∧ (¬ (x1 : Int32) < 0 → (((x1 : Int32) < (S.1 3) → vp_in x1 (cp_ml 28) ∧ (o = some (.int (Int32.toUInt32 ((S.2 28) (Int32.toNatClampNeg x1)) % 65536).toInt32) ∧ S' = ((va_up S.1 0 0), S.2) ∧ narrow .char (.int (Int32.toUInt32 ((S.2 28) (Int32.toNatClampNeg x1)) % 65536).toInt32) = .int (Int32.toUInt32 ((S.2 28) (Int32.toNatClampNeg x1)) % 65536).toInt32)) ∧ (¬ (x1 : Int32) < (S.1 3) → (o = some (.int 32) ∧ S' = ((va_up S.1 0 0), S.2) ∧ narrow .char (.int 32) = .int 32)))))
theorem b_M_charAt_0 {o : Option Value} {S' S : cp_S} {x1 : Int32} (w : wp_M_charAt_0 o S' S x1) : JJ 0 m_M_charAt o S' 0 [(1, .int x1)] S := by
  unfold wp_M_charAt_0 at w
  intro G h n z d hn hd
  refine vv_aload_n (pc := 0) d_M_charAt_0 rfl ?_
  refine vv_iconst (pc := 1) (v := 0) d_M_charAt_1 rfl ?_
  refine ww_pi (pc := 2) 0 d_M_charAt_2 fl_M_184 (by omega) rfl rfl rfl rfl ?_
  refine vv_iload_n (pc := 5) d_M_charAt_5 rfl ?_
  refine vv_if_lt (pc := 6) (tgt := 17) d_M_charAt_6 rfl (fun hc => ?_) (fun hc => ?_)
  · replace w := w.1 hc
    refine vv_bipush (pc := 17) (v := 32) d_M_charAt_17 rfl ?_
    refine vv_goto (pc := 19) (tgt := 29) d_M_charAt_19 rfl ?_
    obtain ⟨rfl, rfl, hx⟩ := w
    exact vv_zret (pc := 29) d_M_charAt_29 rfl hx
  · replace w := w.2 hc
    refine vv_iload_n (pc := 9) d_M_charAt_9 rfl ?_
    refine vv_aload_n (pc := 10) d_M_charAt_10 rfl ?_
    refine ww_gi (pc := 11) 3 d_M_charAt_11 fl_M_314 (by omega) rfl ?_
    refine vv_icmp_lt (pc := 14) (tgt := 22) d_M_charAt_14 rfl (fun hc => ?_) (fun hc => ?_)
    · replace w := w.1 hc
      refine vv_aload_n (pc := 22) d_M_charAt_22 rfl ?_
      refine ww_gr (pc := 23) 4 28 d_M_charAt_23 fl_M_13 (by omega) rfl (by decide) ?_
      refine vv_iload_n (pc := 26) d_M_charAt_26 rfl ?_
      obtain ⟨b1, w⟩ := w
      refine ww_ld (pc := 27) 28 d_M_charAt_27 (by omega) (by decide) b1 ?_
      refine vv_i2c (pc := 28) d_M_charAt_28 ?_
      obtain ⟨rfl, rfl, hx⟩ := w
      exact vv_zret (pc := 29) d_M_charAt_29 rfl hx
    · replace w := w.2 hc
      refine vv_bipush (pc := 17) (v := 32) d_M_charAt_17 rfl ?_
      refine vv_goto (pc := 19) (tgt := 29) d_M_charAt_19 rfl ?_
      obtain ⟨rfl, rfl, hx⟩ := w
      exact vv_zret (pc := 29) d_M_charAt_29 rfl hx
theorem c_M_charAt {o : Option Value} {S' S : cp_S} {x1 : Int32} (w : JJ 0 m_M_charAt o S' 0 [(1, .int x1)] S) : MC 0 m_M_charAt [.int x1] S o S' := fun G h n z d hn hd => cp_C.of rfl (Nat.le_of_ble_eq_true rfl) (w G h n z d hn hd)
