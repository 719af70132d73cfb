/-! ===== the reference's methods, block by block (printed by wx.py) ===== -/
/-- a method of the reference, at most D calls deep, brings S to S' and gives o -/
def MC (D : Nat) (mk : cp_M) (As : List Value) (S : cp_S) (o : Option Value) (S' : cp_S) : Prop := ∀ (G : cp_G) (h : Nat → cp_E) (n z d : Nat), 86 ≤ n → D ≤ d → cp_C G d mk (.ref (cp_b G + 26) :: As) (mm G h S) n z o (mm G h S') n z
/-- a static method that looks at nothing -/
def SC (mk : cp_M) (As : List Value) (o : Option Value) : Prop := ∀ (G : cp_G) (h : Nat → cp_E) (n z d : Nat), cp_C G d mk As h n z o h n z
/-- the same from a cut point on -/
def JJ (D : Nat) (mk : cp_M) (o : Option Value) (S' : cp_S) (c : Nat) (lv : List (Nat × Value)) (S : cp_S) : Prop := ∀ (G : cp_G) (h : Nat → cp_E) (n z d : Nat), 86 ≤ n → D ≤ d → cp_V G mk d n z (.inl o) (mm G h S') n z c ((0, .ref (cp_b G + 26)) :: lv) [] (mm G h S) n z
theorem vv_sub {G : cp_G} {mt : cp_M} {d n0 z0 : Nat} {o : cp_O} {h' : Nat → cp_E} {n' z' pc : Nat} {lv lv' : List (Nat × Value)} {st : List Value} {h : Nat → cp_E} {n z : Nat} (is : List Nat) (e : is.map (fun i => lv'[i]?) = lv.map some) (k : cp_V G mt d n0 z0 o h' n' z' pc lv st h n z) : cp_V G mt d n0 z0 o h' n' z' pc lv' st h n z :=
  ⟨k.1, fun p l e0 R s m args below meth c B h0 h1 H locs ls X => k.2 p l e0 R s m args below meth c B h0 h1 H locs ls ⟨X.1, X.2.1, X.2.2.1, X.2.2.2.1, fun q hq => X.2.2.2.2 q (by
    have h2 : some q ∈ lv.map some := List.mem_map_of_mem hq
    rw [← e] at h2
    obtain ⟨i, -, hi⟩ := List.mem_map.mp h2
    exact List.mem_of_getElem? hi)⟩⟩

def wp_M_push_0 (o : Option Value) (S' : cp_S) (S : cp_S) (x1 : Int32) (x2 : Int32) (x3 : Int32) : Prop := vp_in (S.1 29) (cp_ml 49) ∧ vp_in (S.1 29) (cp_ml 50) ∧ vp_in (S.1 29) (cp_ml 51) ∧ (o = none ∧ S' = ((va_up S.1 29 ((S.1 29) + 1)), (va_up (va_up (va_up S.2 49 (upd (S.2 49) (Int32.toNatClampNeg (S.1 29)) x1)) 50 (upd (S.2 50) (Int32.toNatClampNeg (S.1 29)) x2)) 51 (upd (S.2 51) (Int32.toNatClampNeg (S.1 29)) x3))))
theorem b_M_push_0 {o : Option Value} {S' S : cp_S} {x1 : Int32} {x2 : Int32} {x3 : Int32} (w : wp_M_push_0 o S' S x1 x2 x3) : JJ 0 m_M_push o S' 0 [(1, .int x1), (2, .int x2), (3, .int x3)] S := by
  unfold wp_M_push_0 at w
  intro G h n z d hn hd
  refine vv_aload_n (pc := 0) d_M_push_0 rfl ?_
  refine ww_gr (pc := 1) 30 49 d_M_push_1 fl_M_76 (by omega) rfl (by decide) ?_
  refine vv_aload_n (pc := 4) d_M_push_4 rfl ?_
  refine ww_gi (pc := 5) 29 d_M_push_5 fl_M_191 (by omega) rfl ?_
  refine vv_iload_n (pc := 8) d_M_push_8 rfl ?_
  obtain ⟨b1, w⟩ := w
  refine ww_st (pc := 9) 49 d_M_push_9 (by omega) (by decide) b1 ?_
  refine vv_aload_n (pc := 10) d_M_push_10 rfl ?_
  refine ww_gr (pc := 11) 31 50 d_M_push_11 fl_M_79 (by omega) rfl (by decide) ?_
  refine vv_aload_n (pc := 14) d_M_push_14 rfl ?_
  refine ww_gi (pc := 15) 29 d_M_push_15 fl_M_191 (by omega) rfl ?_
  refine vv_iload_n (pc := 18) d_M_push_18 rfl ?_
  obtain ⟨b2, w⟩ := w
  refine ww_st (pc := 19) 50 d_M_push_19 (by omega) (by decide) b2 ?_
  refine vv_aload_n (pc := 20) d_M_push_20 rfl ?_
  refine ww_gr (pc := 21) 32 51 d_M_push_21 fl_M_82 (by omega) rfl (by decide) ?_
  refine vv_aload_n (pc := 24) d_M_push_24 rfl ?_
  refine ww_gi (pc := 25) 29 d_M_push_25 fl_M_191 (by omega) rfl ?_
  refine vv_iload_n (pc := 28) d_M_push_28 rfl ?_
  obtain ⟨b3, w⟩ := w
  refine ww_st (pc := 29) 51 d_M_push_29 (by omega) (by decide) b3 ?_
  refine vv_aload_n (pc := 30) d_M_push_30 rfl ?_
  refine vv_dup (pc := 31) d_M_push_31 rfl ?_
  refine ww_gi (pc := 32) 29 d_M_push_32 fl_M_191 (by omega) rfl ?_
  refine vv_iconst (pc := 35) (v := 1) d_M_push_35 rfl ?_
  refine vv_iadd (pc := 36) d_M_push_36 ?_
  refine ww_pi (pc := 37) 29 d_M_push_37 fl_M_191 (by omega) rfl rfl rfl rfl ?_
  obtain ⟨rfl, rfl⟩ := w
  exact vv_vret (pc := 40) d_M_push_40 rfl
theorem c_M_push {o : Option Value} {S' S : cp_S} {x1 : Int32} {x2 : Int32} {x3 : Int32} (w : JJ 0 m_M_push o S' 0 [(1, .int x1), (2, .int x2), (3, .int x3)] S) : MC 0 m_M_push [.int x1, .int x2, .int x3] S o S' := fun G h n z d hn hd => cp_C.of rfl (Nat.le_of_ble_eq_true rfl) (w G h n z d hn hd)
def wp_M_seen_0 (o : Option Value) (S' : cp_S) (S : cp_S) (x1 : Int32) : Prop := JJ 0 m_M_seen o S' 2 [(1, .int x1), (2, .int x1)] S
theorem b_M_seen_0 {o : Option Value} {S' S : cp_S} {x1 : Int32} (w : wp_M_seen_0 o S' S x1) : JJ 0 m_M_seen o S' 0 [(1, .int x1)] S := by
  unfold wp_M_seen_0 at w
  intro G h n z d hn hd
  refine vv_iload_n (pc := 0) d_M_seen_0 rfl ?_
  refine vv_istore_n (pc := 1) d_M_seen_1 (Nat.le_of_ble_eq_true rfl) ?_
  exact vv_sub [1, 2, 0] rfl (w G h n z d hn hd)
theorem c_M_seen {o : Option Value} {S' S : cp_S} {x1 : Int32} (w : JJ 0 m_M_seen o S' 0 [(1, .int x1)] S) : MC 0 m_M_seen [.int x1] S o S' := fun G h n z d hn hd => cp_C.of rfl (Nat.le_of_ble_eq_true rfl) (w G h n z d hn hd)
def wp_M_seen_2 (o : Option Value) (S' : cp_S) (S : cp_S) (x1 : Int32) (x2 : Int32) : Prop := vp_in x2 (cp_ml 52) ∧ ((¬ (((S.2 52) (Int32.toNatClampNeg x2)) : Int32) = 2 → (o = some (.int x2) ∧ S' = S)) ∧ ((((S.2 52) (Int32.toNatClampNeg x2)) : Int32) = 2 → vp_in x2 (cp_ml 53) ∧ (((((S.2 53) (Int32.toNatClampNeg x2)) : Int32) < 0 → (o = some (.int x2) ∧ S' = S)) ∧ (¬ (((S.2 53) (Int32.toNatClampNeg x2)) : Int32) < 0 → vp_in x2 (cp_ml 53) ∧ JJ 0 m_M_seen o S' 2 [(1, .int x1), (2, .int ((S.2 53) (Int32.toNatClampNeg x2)))] S))))
theorem b_M_seen_2 {o : Option Value} {S' S : cp_S} {x1 : Int32} {x2 : Int32} (w : wp_M_seen_2 o S' S x1 x2) : JJ 0 m_M_seen o S' 2 [(1, .int x1), (2, .int x2)] S := by
  unfold wp_M_seen_2 at w
  intro G h n z d hn hd
  refine vv_aload_n (pc := 2) d_M_seen_2 rfl ?_
  refine ww_gr (pc := 3) 36 52 d_M_seen_3 fl_M_85 (by omega) rfl (by decide) ?_
  refine vv_iload_n (pc := 6) d_M_seen_6 rfl ?_
  obtain ⟨b1, w⟩ := w
  refine ww_ld (pc := 7) 52 d_M_seen_7 (by omega) (by decide) b1 ?_
  refine vv_iconst (pc := 8) (v := 2) d_M_seen_8 rfl ?_
  refine vv_icmp_ne (pc := 9) (tgt := 31) d_M_seen_9 rfl (fun hc => ?_) (fun hc => ?_)
  · replace w := w.1 hc
    refine vv_iload_n (pc := 31) d_M_seen_31 rfl ?_
    obtain ⟨rfl, rfl⟩ := w
    exact vv_iret (pc := 32) d_M_seen_32 rfl
  · replace w := w.2 hc
    refine vv_aload_n (pc := 12) d_M_seen_12 rfl ?_
    refine ww_gr (pc := 13) 37 53 d_M_seen_13 fl_M_88 (by omega) rfl (by decide) ?_
    refine vv_iload_n (pc := 16) d_M_seen_16 rfl ?_
    obtain ⟨b2, w⟩ := w
    refine ww_ld (pc := 17) 53 d_M_seen_17 (by omega) (by decide) b2 ?_
    refine vv_if_lt (pc := 18) (tgt := 31) d_M_seen_18 rfl (fun hc => ?_) (fun hc => ?_)
    · replace w := w.1 hc
      refine vv_iload_n (pc := 31) d_M_seen_31 rfl ?_
      obtain ⟨rfl, rfl⟩ := w
      exact vv_iret (pc := 32) d_M_seen_32 rfl
    · replace w := w.2 hc
      refine vv_aload_n (pc := 21) d_M_seen_21 rfl ?_
      refine ww_gr (pc := 22) 37 53 d_M_seen_22 fl_M_88 (by omega) rfl (by decide) ?_
      refine vv_iload_n (pc := 25) d_M_seen_25 rfl ?_
      obtain ⟨b3, w⟩ := w
      refine ww_ld (pc := 26) 53 d_M_seen_26 (by omega) (by decide) b3 ?_
      refine vv_istore_n (pc := 27) d_M_seen_27 (Nat.le_of_ble_eq_true rfl) ?_
      refine vv_goto (pc := 28) (tgt := 2) d_M_seen_28 rfl ?_
      exact vv_sub [1, 2, 0] rfl (w G h n z d hn hd)
def wp_M_value_0 (o : Option Value) (S' : cp_S) (S : cp_S) (x1 : Int32) (x2 : Int32) : Prop := vp_in (S.1 35) (cp_ml 52) ∧ vp_in (S.1 35) (cp_ml 53) ∧ vp_in (S.1 35) (cp_ml 54) ∧ vp_in (S.1 35) (cp_ml 55) ∧ (o = some (.int (((S.1 35) + 1) - 1)) ∧ S' = ((va_up S.1 35 ((S.1 35) + 1)), (va_up (va_up (va_up (va_up S.2 52 (upd (S.2 52) (Int32.toNatClampNeg (S.1 35)) x1)) 53 (upd (S.2 53) (Int32.toNatClampNeg (S.1 35)) x2)) 54 (upd (S.2 54) (Int32.toNatClampNeg (S.1 35)) (S.1 40))) 55 (upd (S.2 55) (Int32.toNatClampNeg (S.1 35)) 0))))
theorem b_M_value_0 {o : Option Value} {S' S : cp_S} {x1 : Int32} {x2 : Int32} (w : wp_M_value_0 o S' S x1 x2) : JJ 0 m_M_value o S' 0 [(1, .int x1), (2, .int x2)] S := by
  unfold wp_M_value_0 at w
  intro G h n z d hn hd
  refine vv_aload_n (pc := 0) d_M_value_0 rfl ?_
  refine ww_gr (pc := 1) 36 52 d_M_value_1 fl_M_85 (by omega) rfl (by decide) ?_
  refine vv_aload_n (pc := 4) d_M_value_4 rfl ?_
  refine ww_gi (pc := 5) 35 d_M_value_5 fl_M_259 (by omega) rfl ?_
  refine vv_iload_n (pc := 8) d_M_value_8 rfl ?_
  obtain ⟨b1, w⟩ := w
  refine ww_st (pc := 9) 52 d_M_value_9 (by omega) (by decide) b1 ?_
  refine vv_aload_n (pc := 10) d_M_value_10 rfl ?_
  refine ww_gr (pc := 11) 37 53 d_M_value_11 fl_M_88 (by omega) rfl (by decide) ?_
  refine vv_aload_n (pc := 14) d_M_value_14 rfl ?_
  refine ww_gi (pc := 15) 35 d_M_value_15 fl_M_259 (by omega) rfl ?_
  refine vv_iload_n (pc := 18) d_M_value_18 rfl ?_
  obtain ⟨b2, w⟩ := w
  refine ww_st (pc := 19) 53 d_M_value_19 (by omega) (by decide) b2 ?_
  refine vv_aload_n (pc := 20) d_M_value_20 rfl ?_
  refine ww_gr (pc := 21) 38 54 d_M_value_21 fl_M_91 (by omega) rfl (by decide) ?_
  refine vv_aload_n (pc := 24) d_M_value_24 rfl ?_
  refine ww_gi (pc := 25) 35 d_M_value_25 fl_M_259 (by omega) rfl ?_
  refine vv_aload_n (pc := 28) d_M_value_28 rfl ?_
  refine ww_gi (pc := 29) 40 d_M_value_29 fl_M_262 (by omega) rfl ?_
  obtain ⟨b3, w⟩ := w
  refine ww_st (pc := 32) 54 d_M_value_32 (by omega) (by decide) b3 ?_
  refine vv_aload_n (pc := 33) d_M_value_33 rfl ?_
  refine ww_gr (pc := 34) 39 55 d_M_value_34 fl_M_94 (by omega) rfl (by decide) ?_
  refine vv_aload_n (pc := 37) d_M_value_37 rfl ?_
  refine ww_gi (pc := 38) 35 d_M_value_38 fl_M_259 (by omega) rfl ?_
  refine vv_iconst (pc := 41) (v := 0) d_M_value_41 rfl ?_
  obtain ⟨b4, w⟩ := w
  refine ww_st (pc := 42) 55 d_M_value_42 (by omega) (by decide) b4 ?_
  refine vv_aload_n (pc := 43) d_M_value_43 rfl ?_
  refine vv_dup (pc := 44) d_M_value_44 rfl ?_
  refine ww_gi (pc := 45) 35 d_M_value_45 fl_M_259 (by omega) rfl ?_
  refine vv_iconst (pc := 48) (v := 1) d_M_value_48 rfl ?_
  refine vv_iadd (pc := 49) d_M_value_49 ?_
  refine ww_pi (pc := 50) 35 d_M_value_50 fl_M_259 (by omega) rfl rfl rfl rfl ?_
  refine vv_aload_n (pc := 53) d_M_value_53 rfl ?_
  refine ww_gi (pc := 54) 35 d_M_value_54 fl_M_259 (by omega) rfl ?_
  refine vv_iconst (pc := 57) (v := 1) d_M_value_57 rfl ?_
  refine vv_isub (pc := 58) d_M_value_58 ?_
  obtain ⟨rfl, rfl⟩ := w
  exact vv_iret (pc := 59) d_M_value_59 rfl
theorem c_M_value {o : Option Value} {S' S : cp_S} {x1 : Int32} {x2 : Int32} (w : JJ 0 m_M_value o S' 0 [(1, .int x1), (2, .int x2)] S) : MC 0 m_M_value [.int x1, .int x2] S o S' := fun G h n z d hn hd => cp_C.of rfl (Nat.le_of_ble_eq_true rfl) (w G h n z d hn hd)
def wp_M_nothing_0 (o : Option Value) (S' : cp_S) (S : cp_S) : Prop := (o = none ∧ S' = ((va_up (va_up (va_up S.1 35 0) 40 0) 42 0), S.2))
theorem b_M_nothing_0 {o : Option Value} {S' S : cp_S} (w : wp_M_nothing_0 o S' S) : JJ 0 m_M_nothing o S' 0 [] S := by
  unfold wp_M_nothing_0 at w
  intro G h n z d hn hd
  refine vv_aload_n (pc := 0) d_M_nothing_0 rfl ?_
  refine vv_iconst (pc := 1) (v := 0) d_M_nothing_1 rfl ?_
  refine ww_pi (pc := 2) 35 d_M_nothing_2 fl_M_259 (by omega) rfl rfl rfl rfl ?_
  refine vv_aload_n (pc := 5) d_M_nothing_5 rfl ?_
  refine vv_iconst (pc := 6) (v := 0) d_M_nothing_6 rfl ?_
  refine ww_pi (pc := 7) 40 d_M_nothing_7 fl_M_262 (by omega) rfl rfl rfl rfl ?_
  refine vv_aload_n (pc := 10) d_M_nothing_10 rfl ?_
  refine vv_iconst (pc := 11) (v := 0) d_M_nothing_11 rfl ?_
  refine ww_pi (pc := 12) 42 d_M_nothing_12 fl_M_265 (by omega) rfl rfl rfl rfl ?_
  obtain ⟨rfl, rfl⟩ := w
  exact vv_vret (pc := 15) d_M_nothing_15 rfl
theorem c_M_nothing {o : Option Value} {S' S : cp_S} (w : JJ 0 m_M_nothing o S' 0 [] S) : MC 0 m_M_nothing [] S o S' := fun G h n z d hn hd => cp_C.of rfl (Nat.le_of_ble_eq_true rfl) (w G h n z d hn hd)
def wp_M_beginPattern_0 (o : Option Value) (S' : cp_S) (S : cp_S) (x1 : Int32) (x2 : Int32) : Prop := ∃ r2, SC m_M_isLetter [.int x1] (some (.int r2)) ∧ (((r2 : Int32) = 0 → (((x1 : Int32) = 95 → JJ 1 m_M_beginPattern o S' 43 [(1, .int x1), (2, .int x2)] S) ∧ (¬ (x1 : Int32) = 95 → ∃ r4, SC m_M_isDigit [.int x1] (some (.int r4)) ∧ ((¬ (r4 : Int32) = 0 → JJ 1 m_M_beginPattern o S' 43 [(1, .int x1), (2, .int x2)] S) ∧ ((r4 : Int32) = 0 → (o = some (.int 0) ∧ S' = S ∧ narrow .boolean (.int 0) = .int 0)))))) ∧ (¬ (r2 : Int32) = 0 → ∃ r7 T6, MC 0 m_M_node [.int 13, .int (x1 - 65), .int x2] S (some (.int r7)) T6 ∧ ∃ T9, MC 0 m_M_push [.int 215, .int r7, .int 0] T6 none T9 ∧ (o = some (.int 1) ∧ S' = T9 ∧ narrow .boolean (.int 1) = .int 1)))
theorem b_M_beginPattern_0 {o : Option Value} {S' S : cp_S} {x1 : Int32} {x2 : Int32} (w : wp_M_beginPattern_0 o S' S x1 x2) : JJ 1 m_M_beginPattern o S' 0 [(1, .int x1), (2, .int x2)] S := by
  unfold wp_M_beginPattern_0 at w
  intro G h n z d hn hd
  refine vv_iload_n (pc := 0) d_M_beginPattern_0 rfl ?_
  obtain ⟨r2, c1, w⟩ := w
  refine vv_callS (pc := 1) (As := [.int x1]) d_M_beginPattern_1 (c1 G (mm G h S) n z (d - 1)) k_M_isLetter ml_M_215.1 ml_M_215.2 (by omega) (Nat.le_of_ble_eq_true rfl) ?_
  refine vv_if_eq (pc := 4) (tgt := 28) d_M_beginPattern_4 rfl (fun hc => ?_) (fun hc => ?_)
  · replace w := w.1 hc
    refine vv_iload_n (pc := 28) d_M_beginPattern_28 rfl ?_
    refine vv_bipush (pc := 29) (v := 95) d_M_beginPattern_29 rfl ?_
    refine vv_icmp_eq (pc := 31) (tgt := 43) d_M_beginPattern_31 rfl (fun hc => ?_) (fun hc => ?_)
    · replace w := w.1 hc
      exact vv_sub [0, 1, 2] rfl (w G h n z d hn hd)
    · replace w := w.2 hc
      refine vv_iload_n (pc := 34) d_M_beginPattern_34 rfl ?_
      obtain ⟨r4, c3, w⟩ := w
      refine vv_callS (pc := 35) (As := [.int x1]) d_M_beginPattern_35 (c3 G (mm G h S) n z (d - 1)) k_M_isDigit ml_M_208.1 ml_M_208.2 (by omega) (Nat.le_of_ble_eq_true rfl) ?_
      refine vv_if_ne (pc := 38) (tgt := 43) d_M_beginPattern_38 rfl (fun hc => ?_) (fun hc => ?_)
      · replace w := w.1 hc
        exact vv_sub [0, 1, 2] rfl (w G h n z d hn hd)
      · replace w := w.2 hc
        refine vv_iconst (pc := 41) (v := 0) d_M_beginPattern_41 rfl ?_
        obtain ⟨rfl, rfl, hx⟩ := w
        exact vv_zret (pc := 42) d_M_beginPattern_42 rfl hx
  · replace w := w.2 hc
    refine vv_aload_n (pc := 7) d_M_beginPattern_7 rfl ?_
    refine vv_sipush (pc := 8) (v := 215) d_M_beginPattern_8 rfl ?_
    refine vv_aload_n (pc := 11) d_M_beginPattern_11 rfl ?_
    refine vv_bipush (pc := 12) (v := 13) d_M_beginPattern_12 rfl ?_
    refine vv_iload_n (pc := 14) d_M_beginPattern_14 rfl ?_
    refine vv_bipush (pc := 15) (v := 65) d_M_beginPattern_15 rfl ?_
    refine vv_isub (pc := 17) d_M_beginPattern_17 ?_
    refine vv_iload_n (pc := 18) d_M_beginPattern_18 rfl ?_
    obtain ⟨r7, T6, c5, w⟩ := w
    refine vv_callV (pc := 19) (As := [.int 13, .int (x1 - 65), .int x2]) d_M_beginPattern_19 (c5 G h n z (d - 1) hn (by omega)) k_M_node ml_M_211.1 ml_M_211.2.1 ml_M_211.2.2.1 ml_M_211.2.2.2.1 ml_M_211.2.2.2.2 (by omega) mm_26 (by omega) (Nat.le_of_ble_eq_true rfl) ?_
    refine vv_iconst (pc := 22) (v := 0) d_M_beginPattern_22 rfl ?_
    obtain ⟨T9, c8, w⟩ := w
    refine vv_callV (pc := 23) (As := [.int 215, .int r7, .int 0]) d_M_beginPattern_23 (c8 G h n z (d - 1) hn (by omega)) k_M_push ml_M_218.1 ml_M_218.2.1 ml_M_218.2.2.1 ml_M_218.2.2.2.1 ml_M_218.2.2.2.2 (by omega) mm_26 (by omega) (Nat.le_of_ble_eq_true rfl) ?_
    refine vv_iconst (pc := 26) (v := 1) d_M_beginPattern_26 rfl ?_
    obtain ⟨rfl, rfl, hx⟩ := w
    exact vv_zret (pc := 27) d_M_beginPattern_27 rfl hx
theorem c_M_beginPattern {o : Option Value} {S' S : cp_S} {x1 : Int32} {x2 : Int32} (w : JJ 1 m_M_beginPattern o S' 0 [(1, .int x1), (2, .int x2)] S) : MC 1 m_M_beginPattern [.int x1, .int x2] S o S' := fun G h n z d hn hd => cp_C.of rfl (Nat.le_of_ble_eq_true rfl) (w G h n z d hn hd)
def wp_M_beginPattern_43 (o : Option Value) (S' : cp_S) (S : cp_S) (x1 : Int32) (x2 : Int32) : Prop := ((¬ (x1 : Int32) = 95 → ∃ r3 T2, MC 0 m_M_node [.int 12, .int (x1 - 48), .int x2] S (some (.int r3)) T2 ∧ (o = some (.int 1) ∧ S' = T2 ∧ narrow .boolean (.int 1) = .int 1)) ∧ ((x1 : Int32) = 95 → ∃ r6 T5, MC 0 m_M_node [.int 11, .int (x1 - 48), .int x2] S (some (.int r6)) T5 ∧ (o = some (.int 1) ∧ S' = T5 ∧ narrow .boolean (.int 1) = .int 1)))
theorem b_M_beginPattern_43 {o : Option Value} {S' S : cp_S} {x1 : Int32} {x2 : Int32} (w : wp_M_beginPattern_43 o S' S x1 x2) : JJ 1 m_M_beginPattern o S' 43 [(1, .int x1), (2, .int x2)] S := by
  unfold wp_M_beginPattern_43 at w
  intro G h n z d hn hd
  refine vv_aload_n (pc := 43) d_M_beginPattern_43 rfl ?_
  refine vv_iload_n (pc := 44) d_M_beginPattern_44 rfl ?_
  refine vv_bipush (pc := 45) (v := 95) d_M_beginPattern_45 rfl ?_
  refine vv_icmp_ne (pc := 47) (tgt := 55) d_M_beginPattern_47 rfl (fun hc => ?_) (fun hc => ?_)
  · replace w := w.1 hc
    refine vv_bipush (pc := 55) (v := 12) d_M_beginPattern_55 rfl ?_
    refine vv_iload_n (pc := 57) d_M_beginPattern_57 rfl ?_
    refine vv_bipush (pc := 58) (v := 48) d_M_beginPattern_58 rfl ?_
    refine vv_isub (pc := 60) d_M_beginPattern_60 ?_
    refine vv_iload_n (pc := 61) d_M_beginPattern_61 rfl ?_
    obtain ⟨r3, T2, c1, w⟩ := w
    refine vv_callV (pc := 62) (As := [.int 12, .int (x1 - 48), .int x2]) d_M_beginPattern_62 (c1 G h n z (d - 1) hn (by omega)) k_M_node ml_M_211.1 ml_M_211.2.1 ml_M_211.2.2.1 ml_M_211.2.2.2.1 ml_M_211.2.2.2.2 (by omega) mm_26 (by omega) (Nat.le_of_ble_eq_true rfl) ?_
    refine vv_pop (pc := 65) d_M_beginPattern_65 rfl ?_
    refine vv_iconst (pc := 66) (v := 1) d_M_beginPattern_66 rfl ?_
    obtain ⟨rfl, rfl, hx⟩ := w
    exact vv_zret (pc := 67) d_M_beginPattern_67 rfl hx
  · replace w := w.2 hc
    refine vv_bipush (pc := 50) (v := 11) d_M_beginPattern_50 rfl ?_
    refine vv_goto (pc := 52) (tgt := 57) d_M_beginPattern_52 rfl ?_
    refine vv_iload_n (pc := 57) d_M_beginPattern_57 rfl ?_
    refine vv_bipush (pc := 58) (v := 48) d_M_beginPattern_58 rfl ?_
    refine vv_isub (pc := 60) d_M_beginPattern_60 ?_
    refine vv_iload_n (pc := 61) d_M_beginPattern_61 rfl ?_
    obtain ⟨r6, T5, c4, w⟩ := w
    refine vv_callV (pc := 62) (As := [.int 11, .int (x1 - 48), .int x2]) d_M_beginPattern_62 (c4 G h n z (d - 1) hn (by omega)) k_M_node ml_M_211.1 ml_M_211.2.1 ml_M_211.2.2.1 ml_M_211.2.2.2.1 ml_M_211.2.2.2.2 (by omega) mm_26 (by omega) (Nat.le_of_ble_eq_true rfl) ?_
    refine vv_pop (pc := 65) d_M_beginPattern_65 rfl ?_
    refine vv_iconst (pc := 66) (v := 1) d_M_beginPattern_66 rfl ?_
    obtain ⟨rfl, rfl, hx⟩ := w
    exact vv_zret (pc := 67) d_M_beginPattern_67 rfl hx
def wp_M_node_0 (o : Option Value) (S' : cp_S) (S : cp_S) (x1 : Int32) (x2 : Int32) (x3 : Int32) : Prop := vp_in (S.1 16) (cp_ml 39) ∧ vp_in (S.1 16) (cp_ml 40) ∧ vp_in (S.1 16) (cp_ml 41) ∧ ((((S.1 16) : Int32) < (S.1 20) → JJ 0 m_M_node o S' 85 [(1, .int x1), (2, .int x2), (3, .int x3)] (S.1, (va_up (va_up (va_up S.2 39 (upd (S.2 39) (Int32.toNatClampNeg (S.1 16)) x1)) 40 (upd (S.2 40) (Int32.toNatClampNeg (S.1 16)) x2)) 41 (upd (S.2 41) (Int32.toNatClampNeg (S.1 16)) 0)))) ∧ (¬ ((S.1 16) : Int32) < (S.1 20) → ((82 ≤ (((S.1 16) - (S.1 20)) : Int32) → JJ 0 m_M_node o S' 85 [(1, .int x1), (2, .int x2), (3, .int x3)] (S.1, (va_up (va_up (va_up S.2 39 (upd (S.2 39) (Int32.toNatClampNeg (S.1 16)) x1)) 40 (upd (S.2 40) (Int32.toNatClampNeg (S.1 16)) x2)) 41 (upd (S.2 41) (Int32.toNatClampNeg (S.1 16)) 0)))) ∧ (¬ 82 ≤ (((S.1 16) - (S.1 20)) : Int32) → vp_in ((S.1 16) - (S.1 20)) (cp_ml 42) ∧ vp_in ((S.1 16) - (S.1 20)) (cp_ml 43) ∧ JJ 0 m_M_node o S' 85 [(1, .int x1), (2, .int x2), (3, .int x3)] (S.1, (va_up (va_up (va_up (va_up (va_up S.2 39 (upd (S.2 39) (Int32.toNatClampNeg (S.1 16)) x1)) 40 (upd (S.2 40) (Int32.toNatClampNeg (S.1 16)) x2)) 41 (upd (S.2 41) (Int32.toNatClampNeg (S.1 16)) 0)) 42 (upd (S.2 42) (Int32.toNatClampNeg ((S.1 16) - (S.1 20))) x3)) 43 (upd (S.2 43) (Int32.toNatClampNeg ((S.1 16) - (S.1 20))) (-1))))))))
theorem b_M_node_0 {o : Option Value} {S' S : cp_S} {x1 : Int32} {x2 : Int32} {x3 : Int32} (w : wp_M_node_0 o S' S x1 x2 x3) : JJ 0 m_M_node o S' 0 [(1, .int x1), (2, .int x2), (3, .int x3)] S := by
  unfold wp_M_node_0 at w
  intro G h n z d hn hd
  refine vv_aload_n (pc := 0) d_M_node_0 rfl ?_
  refine ww_gr (pc := 1) 17 39 d_M_node_1 fl_M_46 (by omega) rfl (by decide) ?_
  refine vv_aload_n (pc := 4) d_M_node_4 rfl ?_
  refine ww_gi (pc := 5) 16 d_M_node_5 fl_M_194 (by omega) rfl ?_
  refine vv_iload_n (pc := 8) d_M_node_8 rfl ?_
  obtain ⟨b1, w⟩ := w
  refine ww_st (pc := 9) 39 d_M_node_9 (by omega) (by decide) b1 ?_
  refine vv_aload_n (pc := 10) d_M_node_10 rfl ?_
  refine ww_gr (pc := 11) 18 40 d_M_node_11 fl_M_49 (by omega) rfl (by decide) ?_
  refine vv_aload_n (pc := 14) d_M_node_14 rfl ?_
  refine ww_gi (pc := 15) 16 d_M_node_15 fl_M_194 (by omega) rfl ?_
  refine vv_iload_n (pc := 18) d_M_node_18 rfl ?_
  obtain ⟨b2, w⟩ := w
  refine ww_st (pc := 19) 40 d_M_node_19 (by omega) (by decide) b2 ?_
  refine vv_aload_n (pc := 20) d_M_node_20 rfl ?_
  refine ww_gr (pc := 21) 19 41 d_M_node_21 fl_M_52 (by omega) rfl (by decide) ?_
  refine vv_aload_n (pc := 24) d_M_node_24 rfl ?_
  refine ww_gi (pc := 25) 16 d_M_node_25 fl_M_194 (by omega) rfl ?_
  refine vv_iconst (pc := 28) (v := 0) d_M_node_28 rfl ?_
  obtain ⟨b3, w⟩ := w
  refine ww_st (pc := 29) 41 d_M_node_29 (by omega) (by decide) b3 ?_
  refine vv_aload_n (pc := 30) d_M_node_30 rfl ?_
  refine ww_gi (pc := 31) 16 d_M_node_31 fl_M_194 (by omega) rfl ?_
  refine vv_aload_n (pc := 34) d_M_node_34 rfl ?_
  refine ww_gi (pc := 35) 20 d_M_node_35 fl_M_197 (by omega) rfl ?_
  refine vv_icmp_lt (pc := 38) (tgt := 85) d_M_node_38 rfl (fun hc => ?_) (fun hc => ?_)
  · replace w := w.1 hc
    exact vv_sub [0, 1, 2, 3] rfl (w G h n z d hn hd)
  · replace w := w.2 hc
    refine vv_aload_n (pc := 41) d_M_node_41 rfl ?_
    refine ww_gi (pc := 42) 16 d_M_node_42 fl_M_194 (by omega) rfl ?_
    refine vv_aload_n (pc := 45) d_M_node_45 rfl ?_
    refine ww_gi (pc := 46) 20 d_M_node_46 fl_M_197 (by omega) rfl ?_
    refine vv_isub (pc := 49) d_M_node_49 ?_
    refine vv_bipush (pc := 50) (v := 82) d_M_node_50 rfl ?_
    refine vv_icmp_ge (pc := 52) (tgt := 85) d_M_node_52 rfl (fun hc => ?_) (fun hc => ?_)
    · replace w := w.1 hc
      exact vv_sub [0, 1, 2, 3] rfl (w G h n z d hn hd)
    · replace w := w.2 hc
      refine vv_aload_n (pc := 55) d_M_node_55 rfl ?_
      refine ww_gr (pc := 56) 21 42 d_M_node_56 fl_M_55 (by omega) rfl (by decide) ?_
      refine vv_aload_n (pc := 59) d_M_node_59 rfl ?_
      refine ww_gi (pc := 60) 16 d_M_node_60 fl_M_194 (by omega) rfl ?_
      refine vv_aload_n (pc := 63) d_M_node_63 rfl ?_
      refine ww_gi (pc := 64) 20 d_M_node_64 fl_M_197 (by omega) rfl ?_
      refine vv_isub (pc := 67) d_M_node_67 ?_
      refine vv_iload_n (pc := 68) d_M_node_68 rfl ?_
      obtain ⟨b4, w⟩ := w
      refine ww_st (pc := 69) 42 d_M_node_69 (by omega) (by decide) b4 ?_
      refine vv_aload_n (pc := 70) d_M_node_70 rfl ?_
      refine ww_gr (pc := 71) 22 43 d_M_node_71 fl_M_58 (by omega) rfl (by decide) ?_
      refine vv_aload_n (pc := 74) d_M_node_74 rfl ?_
      refine ww_gi (pc := 75) 16 d_M_node_75 fl_M_194 (by omega) rfl ?_
      refine vv_aload_n (pc := 78) d_M_node_78 rfl ?_
      refine ww_gi (pc := 79) 20 d_M_node_79 fl_M_197 (by omega) rfl ?_
      refine vv_isub (pc := 82) d_M_node_82 ?_
      refine vv_iconst (pc := 83) (v := (-1)) d_M_node_83 rfl ?_
      obtain ⟨b5, w⟩ := w
      refine ww_st (pc := 84) 43 d_M_node_84 (by omega) (by decide) b5 ?_
      exact vv_sub [0, 1, 2, 3] rfl (w G h n z d hn hd)
theorem c_M_node {o : Option Value} {S' S : cp_S} {x1 : Int32} {x2 : Int32} {x3 : Int32} (w : JJ 0 m_M_node o S' 0 [(1, .int x1), (2, .int x2), (3, .int x3)] S) : MC 0 m_M_node [.int x1, .int x2, .int x3] S o S' := fun G h n z d hn hd => cp_C.of rfl (Nat.le_of_ble_eq_true rfl) (w G h n z d hn hd)
def wp_M_node_85 (o : Option Value) (S' : cp_S) (S : cp_S) (x1 : Int32) (x2 : Int32) (x3 : Int32) : Prop := (o = some (.int (((S.1 16) + 1) - 1)) ∧ S' = ((va_up S.1 16 ((S.1 16) + 1)), S.2))
theorem b_M_node_85 {o : Option Value} {S' S : cp_S} {x1 : Int32} {x2 : Int32} {x3 : Int32} (w : wp_M_node_85 o S' S x1 x2 x3) : JJ 0 m_M_node o S' 85 [(1, .int x1), (2, .int x2), (3, .int x3)] S := by
  unfold wp_M_node_85 at w
  intro G h n z d hn hd
  refine vv_aload_n (pc := 85) d_M_node_85 rfl ?_
  refine vv_dup (pc := 86) d_M_node_86 rfl ?_
  refine ww_gi (pc := 87) 16 d_M_node_87 fl_M_194 (by omega) rfl ?_
  refine vv_iconst (pc := 90) (v := 1) d_M_node_90 rfl ?_
  refine vv_iadd (pc := 91) d_M_node_91 ?_
  refine ww_pi (pc := 92) 16 d_M_node_92 fl_M_194 (by omega) rfl rfl rfl rfl ?_
  refine vv_aload_n (pc := 95) d_M_node_95 rfl ?_
  refine ww_gi (pc := 96) 16 d_M_node_96 fl_M_194 (by omega) rfl ?_
  refine vv_iconst (pc := 99) (v := 1) d_M_node_99 rfl ?_
  refine vv_isub (pc := 100) d_M_node_100 ?_
  obtain ⟨rfl, rfl⟩ := w
  exact vv_iret (pc := 101) d_M_node_101 rfl
