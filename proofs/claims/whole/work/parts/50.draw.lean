
def wp_M_drawOne_0 (o : Option Value) (S' : cp_S) (S : cp_S) (x1 : Int32) (x2 : Int32) : Prop := vp_in x1 (cp_ml 52) ∧ ((¬ (((S.2 52) (Int32.toNatClampNeg x1)) : Int32) = 0 → vp_in x1 (cp_ml 52) ∧ ((¬ (((S.2 52) (Int32.toNatClampNeg x1)) : Int32) = 1 → JK 0 m_M_drawOne o S' 38 [(1, .int x1), (2, .int x2), (3, .int x2)] (fun G => [.int 5, .int (S.1 75), .ref (cp_b G + 79)]) S) ∧ ((((S.2 52) (Int32.toNatClampNeg x1)) : Int32) = 1 → JK 0 m_M_drawOne o S' 38 [(1, .int x1), (2, .int x2), (3, .int x2)] (fun G => [.int 3, .int (S.1 75), .ref (cp_b G + 79)]) S))) ∧ ((((S.2 52) (Int32.toNatClampNeg x1)) : Int32) = 0 → JK 0 m_M_drawOne o S' 38 [(1, .int x1), (2, .int x2), (3, .int x2)] (fun G => [.int 2, .int (S.1 75), .ref (cp_b G + 79)]) S))
theorem b_M_drawOne_0 {o : Option Value} {S' S : cp_S} {x1 : Int32} {x2 : Int32} (w : wp_M_drawOne_0 o S' S x1 x2) : JJ 0 m_M_drawOne o S' 0 [(1, .int x1), (2, .int x2)] S := by
  unfold wp_M_drawOne_0 at w
  intro G h n z d hn hd
  refine vv_iload_n (pc := 0) d_M_drawOne_0 rfl ?_
  refine vv_istore_n (pc := 1) d_M_drawOne_1 (Nat.le_of_ble_eq_true rfl) ?_
  refine vv_aload_n (pc := 2) d_M_drawOne_2 rfl ?_
  refine ww_gr (pc := 3) 76 79 d_M_drawOne_3 fl_M_166 (by omega) rfl (by decide) ?_
  refine vv_aload_n (pc := 6) d_M_drawOne_6 rfl ?_
  refine ww_gi (pc := 7) 75 d_M_drawOne_7 fl_M_302 (by omega) rfl ?_
  refine vv_aload_n (pc := 10) d_M_drawOne_10 rfl ?_
  refine ww_gr (pc := 11) 36 52 d_M_drawOne_11 fl_M_85 (by omega) rfl (by decide) ?_
  refine vv_iload_n (pc := 14) d_M_drawOne_14 rfl ?_
  obtain ⟨b1, w⟩ := w
  refine ww_ld (pc := 15) 52 d_M_drawOne_15 (by omega) (by decide) b1 ?_
  refine vv_if_ne (pc := 16) (tgt := 23) d_M_drawOne_16 rfl (fun hc => ?_) (fun hc => ?_)
  · replace w := w.1 hc
    refine vv_aload_n (pc := 23) d_M_drawOne_23 rfl ?_
    refine ww_gr (pc := 24) 36 52 d_M_drawOne_24 fl_M_85 (by omega) rfl (by decide) ?_
    refine vv_iload_n (pc := 27) d_M_drawOne_27 rfl ?_
    obtain ⟨b2, w⟩ := w
    refine ww_ld (pc := 28) 52 d_M_drawOne_28 (by omega) (by decide) b2 ?_
    refine vv_iconst (pc := 29) (v := 1) d_M_drawOne_29 rfl ?_
    refine vv_icmp_ne (pc := 30) (tgt := 37) d_M_drawOne_30 rfl (fun hc => ?_) (fun hc => ?_)
    · replace w := w.1 hc
      refine vv_iconst (pc := 37) (v := 5) d_M_drawOne_37 rfl ?_
      exact vv_sub [1, 2, 3, 0] rfl (w G h n z d hn hd)
    · replace w := w.2 hc
      refine vv_iconst (pc := 33) (v := 3) d_M_drawOne_33 rfl ?_
      refine vv_goto (pc := 34) (tgt := 38) d_M_drawOne_34 rfl ?_
      exact vv_sub [1, 2, 3, 0] rfl (w G h n z d hn hd)
  · replace w := w.2 hc
    refine vv_iconst (pc := 19) (v := 2) d_M_drawOne_19 rfl ?_
    refine vv_goto (pc := 20) (tgt := 38) d_M_drawOne_20 rfl ?_
    exact vv_sub [1, 2, 3, 0] rfl (w G h n z d hn hd)
theorem c_M_drawOne {o : Option Value} {S' S : cp_S} {x1 : Int32} {x2 : Int32} (w : JJ 0 m_M_drawOne o S' 0 [(1, .int x1), (2, .int x2)] S) : MC 0 m_M_drawOne [.int x1, .int x2] S o S' := fun G h n z d hn hd => cp_C.of rfl (Nat.le_of_ble_eq_true rfl) (w G h n z d hn hd)
def wp_M_drawOne_38 (o : Option Value) (S' : cp_S) (S : cp_S) (x1 : Int32) (x2 : Int32) (x3 : Int32) (y1 : Int32) (y2 : Int32) : Prop := vp_in y1 (cp_ml 79) ∧ vp_in x1 (cp_ml 53) ∧ vp_in (S.1 75) (cp_ml 80) ∧ vp_in x1 (cp_ml 55) ∧ vp_in (S.1 75) (cp_ml 81) ∧ ((100 ≤ ((S.1 75) : Int32) → JK 0 m_M_drawOne o S' 92 [(1, .int x1), (2, .int x2), (3, .int x3)] (fun G => [.int (S.1 75), .ref (cp_b G + 26)]) (S.1, (va_up (va_up (va_up S.2 79 (upd (S.2 79) (Int32.toNatClampNeg y1) y2)) 80 (upd (S.2 80) (Int32.toNatClampNeg (S.1 75)) ((S.2 53) (Int32.toNatClampNeg x1)))) 81 (upd (S.2 81) (Int32.toNatClampNeg (S.1 75)) ((S.2 55) (Int32.toNatClampNeg x1)))))) ∧ (¬ 100 ≤ ((S.1 75) : Int32) → JK 0 m_M_drawOne o S' 92 [(1, .int x1), (2, .int x2), (3, .int x3)] (fun G => [.int ((S.1 75) + 1), .ref (cp_b G + 26)]) (S.1, (va_up (va_up (va_up S.2 79 (upd (S.2 79) (Int32.toNatClampNeg y1) y2)) 80 (upd (S.2 80) (Int32.toNatClampNeg (S.1 75)) ((S.2 53) (Int32.toNatClampNeg x1)))) 81 (upd (S.2 81) (Int32.toNatClampNeg (S.1 75)) ((S.2 55) (Int32.toNatClampNeg x1)))))))
theorem b_M_drawOne_38 {o : Option Value} {S' S : cp_S} {x1 : Int32} {x2 : Int32} {x3 : Int32} {y1 : Int32} {y2 : Int32} (w : wp_M_drawOne_38 o S' S x1 x2 x3 y1 y2) : JK 0 m_M_drawOne o S' 38 [(1, .int x1), (2, .int x2), (3, .int x3)] (fun G => [.int y2, .int y1, .ref (cp_b G + 79)]) S := by
  unfold wp_M_drawOne_38 at w
  intro G h n z d hn hd
  obtain ⟨b1, w⟩ := w
  refine ww_st (pc := 38) 79 d_M_drawOne_38 (by omega) (by decide) b1 ?_
  refine vv_aload_n (pc := 39) d_M_drawOne_39 rfl ?_
  refine ww_gr (pc := 40) 77 80 d_M_drawOne_40 fl_M_169 (by omega) rfl (by decide) ?_
  refine vv_aload_n (pc := 43) d_M_drawOne_43 rfl ?_
  refine ww_gi (pc := 44) 75 d_M_drawOne_44 fl_M_302 (by omega) rfl ?_
  refine vv_aload_n (pc := 47) d_M_drawOne_47 rfl ?_
  refine ww_gr (pc := 48) 37 53 d_M_drawOne_48 fl_M_88 (by omega) rfl (by decide) ?_
  refine vv_iload_n (pc := 51) d_M_drawOne_51 rfl ?_
  obtain ⟨b2, w⟩ := w
  refine ww_ld (pc := 52) 53 d_M_drawOne_52 (by omega) (by decide) b2 ?_
  obtain ⟨b3, w⟩ := w
  refine ww_st (pc := 53) 80 d_M_drawOne_53 (by omega) (by decide) b3 ?_
  refine vv_aload_n (pc := 54) d_M_drawOne_54 rfl ?_
  refine ww_gr (pc := 55) 78 81 d_M_drawOne_55 fl_M_172 (by omega) rfl (by decide) ?_
  refine vv_aload_n (pc := 58) d_M_drawOne_58 rfl ?_
  refine ww_gi (pc := 59) 75 d_M_drawOne_59 fl_M_302 (by omega) rfl ?_
  refine vv_aload_n (pc := 62) d_M_drawOne_62 rfl ?_
  refine ww_gr (pc := 63) 39 55 d_M_drawOne_63 fl_M_94 (by omega) rfl (by decide) ?_
  refine vv_iload_n (pc := 66) d_M_drawOne_66 rfl ?_
  obtain ⟨b4, w⟩ := w
  refine ww_ld (pc := 67) 55 d_M_drawOne_67 (by omega) (by decide) b4 ?_
  obtain ⟨b5, w⟩ := w
  refine ww_st (pc := 68) 81 d_M_drawOne_68 (by omega) (by decide) b5 ?_
  refine vv_aload_n (pc := 69) d_M_drawOne_69 rfl ?_
  refine vv_aload_n (pc := 70) d_M_drawOne_70 rfl ?_
  refine ww_gi (pc := 71) 75 d_M_drawOne_71 fl_M_302 (by omega) rfl ?_
  refine vv_bipush (pc := 74) (v := 100) d_M_drawOne_74 rfl ?_
  refine vv_icmp_ge (pc := 76) (tgt := 88) d_M_drawOne_76 rfl (fun hc => ?_) (fun hc => ?_)
  · replace w := w.1 hc
    refine vv_aload_n (pc := 88) d_M_drawOne_88 rfl ?_
    refine ww_gi (pc := 89) 75 d_M_drawOne_89 fl_M_302 (by omega) rfl ?_
    exact vv_sub [0, 1, 2, 3] rfl (w G h n z d hn hd)
  · replace w := w.2 hc
    refine vv_aload_n (pc := 79) d_M_drawOne_79 rfl ?_
    refine ww_gi (pc := 80) 75 d_M_drawOne_80 fl_M_302 (by omega) rfl ?_
    refine vv_iconst (pc := 83) (v := 1) d_M_drawOne_83 rfl ?_
    refine vv_iadd (pc := 84) d_M_drawOne_84 ?_
    refine vv_goto (pc := 85) (tgt := 92) d_M_drawOne_85 rfl ?_
    exact vv_sub [0, 1, 2, 3] rfl (w G h n z d hn hd)
def wp_M_drawOne_92 (o : Option Value) (S' : cp_S) (S : cp_S) (x1 : Int32) (x2 : Int32) (x3 : Int32) (y1 : Int32) : Prop := ((¬ ((S.1 74) : Int32) = 0 → JK 0 m_M_drawOne o S' 113 [(1, .int x1), (2, .int x2), (3, .int x3)] (fun G => [.ref (cp_b G + 26)]) ((va_up S.1 75 y1), S.2)) ∧ (((S.1 74) : Int32) = 0 → vp_in x1 (cp_ml 52) ∧ ((¬ (((S.2 52) (Int32.toNatClampNeg x1)) : Int32) = 2 → JK 0 m_M_drawOne o S' 118 [(1, .int x1), (2, .int x2), (3, .int x3)] (fun G => [.int 0, .ref (cp_b G + 26)]) ((va_up S.1 75 y1), S.2)) ∧ ((((S.2 52) (Int32.toNatClampNeg x1)) : Int32) = 2 → JK 0 m_M_drawOne o S' 113 [(1, .int x1), (2, .int x2), (3, .int x3)] (fun G => [.ref (cp_b G + 26)]) ((va_up S.1 75 y1), S.2)))))
theorem b_M_drawOne_92 {o : Option Value} {S' S : cp_S} {x1 : Int32} {x2 : Int32} {x3 : Int32} {y1 : Int32} (w : wp_M_drawOne_92 o S' S x1 x2 x3 y1) : JK 0 m_M_drawOne o S' 92 [(1, .int x1), (2, .int x2), (3, .int x3)] (fun G => [.int y1, .ref (cp_b G + 26)]) S := by
  unfold wp_M_drawOne_92 at w
  intro G h n z d hn hd
  refine ww_pi (pc := 92) 75 d_M_drawOne_92 fl_M_302 (by omega) rfl rfl rfl rfl ?_
  refine vv_aload_n (pc := 95) d_M_drawOne_95 rfl ?_
  refine vv_aload_n (pc := 96) d_M_drawOne_96 rfl ?_
  refine ww_gi (pc := 97) 74 d_M_drawOne_97 fl_M_305 (by omega) rfl ?_
  refine vv_if_ne (pc := 100) (tgt := 113) d_M_drawOne_100 rfl (fun hc => ?_) (fun hc => ?_)
  · replace w := w.1 hc
    exact vv_sub [0, 1, 2, 3] rfl (w G h n z d hn hd)
  · replace w := w.2 hc
    refine vv_aload_n (pc := 103) d_M_drawOne_103 rfl ?_
    refine ww_gr (pc := 104) 36 52 d_M_drawOne_104 fl_M_85 (by omega) rfl (by decide) ?_
    refine vv_iload_n (pc := 107) d_M_drawOne_107 rfl ?_
    obtain ⟨b1, w⟩ := w
    refine ww_ld (pc := 108) 52 d_M_drawOne_108 (by omega) (by decide) b1 ?_
    refine vv_iconst (pc := 109) (v := 2) d_M_drawOne_109 rfl ?_
    refine vv_icmp_ne (pc := 110) (tgt := 117) d_M_drawOne_110 rfl (fun hc => ?_) (fun hc => ?_)
    · replace w := w.1 hc
      refine vv_iconst (pc := 117) (v := 0) d_M_drawOne_117 rfl ?_
      exact vv_sub [0, 1, 2, 3] rfl (w G h n z d hn hd)
    · replace w := w.2 hc
      exact vv_sub [0, 1, 2, 3] rfl (w G h n z d hn hd)
def wp_M_drawOne_113 (o : Option Value) (S' : cp_S) (S : cp_S) (x1 : Int32) (x2 : Int32) (x3 : Int32) : Prop := JK 0 m_M_drawOne o S' 118 [(1, .int x1), (2, .int x2), (3, .int x3)] (fun G => [.int 1, .ref (cp_b G + 26)]) S
theorem b_M_drawOne_113 {o : Option Value} {S' S : cp_S} {x1 : Int32} {x2 : Int32} {x3 : Int32} (w : wp_M_drawOne_113 o S' S x1 x2 x3) : JK 0 m_M_drawOne o S' 113 [(1, .int x1), (2, .int x2), (3, .int x3)] (fun G => [.ref (cp_b G + 26)]) S := by
  unfold wp_M_drawOne_113 at w
  intro G h n z d hn hd
  refine vv_iconst (pc := 113) (v := 1) d_M_drawOne_113 rfl ?_
  refine vv_goto (pc := 114) (tgt := 118) d_M_drawOne_114 rfl ?_
  exact vv_sub [0, 1, 2, 3] rfl (w G h n z d hn hd)
def wp_M_drawOne_118 (o : Option Value) (S' : cp_S) (S : cp_S) (x1 : Int32) (x2 : Int32) (x3 : Int32) (y1 : Int32) : Prop := (narrow (cp_ty 11 74) (.int y1) = .int y1 ∧ fits (cp_ty 11 74) (.int y1) = true) ∧ vp_in x1 (cp_ml 52) ∧ (((((S.2 52) (Int32.toNatClampNeg x1)) : Int32) = 0 → vp_in x1 (cp_ml 53) ∧ ((0 ≤ ((lg_cmp (Int32.toInt64 ((S.2 53) (Int32.toNatClampNeg x1))) 0) : Int32) → JJ 0 m_M_drawOne o S' 236 [(1, .int x1), (2, .int x2), (3, .int x3), (4, .long (Int32.toInt64 ((S.2 53) (Int32.toNatClampNeg x1))))] ((va_up S.1 74 y1), S.2)) ∧ (¬ 0 ≤ ((lg_cmp (Int32.toInt64 ((S.2 53) (Int32.toNatClampNeg x1))) 0) : Int32) → vp_in x3 (cp_ml 29) ∧ JJ 0 m_M_drawOne o S' 236 [(1, .int x1), (2, .int x2), (3, .int (x3 + 1)), (4, .long (-(Int32.toInt64 ((S.2 53) (Int32.toNatClampNeg x1)))))] ((va_up S.1 74 y1), (va_up S.2 29 (upd (S.2 29) (Int32.toNatClampNeg x3) 45)))))) ∧ (¬ (((S.2 52) (Int32.toNatClampNeg x1)) : Int32) = 0 → vp_in x1 (cp_ml 52) ∧ ((¬ (((S.2 52) (Int32.toNatClampNeg x1)) : Int32) = 1 → vp_in x1 (cp_ml 52) ∧ ((¬ (((S.2 52) (Int32.toNatClampNeg x1)) : Int32) = 2 → vp_in x1 (cp_ml 53) ∧ JK 0 m_M_drawOne o S' 174 [(1, .int x1), (2, .int x2), (3, .int x3)] (fun G => [.int (65 + ((S.2 53) (Int32.toNatClampNeg x1))), .int x3, .ref (cp_b G + 29)]) ((va_up S.1 74 y1), S.2)) ∧ ((((S.2 52) (Int32.toNatClampNeg x1)) : Int32) = 2 → JK 0 m_M_drawOne o S' 174 [(1, .int x1), (2, .int x2), (3, .int x3)] (fun G => [.int 95, .int x3, .ref (cp_b G + 29)]) ((va_up S.1 74 y1), S.2)))) ∧ ((((S.2 52) (Int32.toNatClampNeg x1)) : Int32) = 1 → JK 0 m_M_drawOne o S' 174 [(1, .int x1), (2, .int x2), (3, .int x3)] (fun G => [.int 35, .int x3, .ref (cp_b G + 29)]) ((va_up S.1 74 y1), S.2)))))
theorem b_M_drawOne_118 {o : Option Value} {S' S : cp_S} {x1 : Int32} {x2 : Int32} {x3 : Int32} {y1 : Int32} (w : wp_M_drawOne_118 o S' S x1 x2 x3 y1) : JK 0 m_M_drawOne o S' 118 [(1, .int x1), (2, .int x2), (3, .int x3)] (fun G => [.int y1, .ref (cp_b G + 26)]) S := by
  unfold wp_M_drawOne_118 at w
  intro G h n z d hn hd
  obtain ⟨⟨b1, b1f⟩, w⟩ := w
  refine ww_pi (pc := 118) 74 d_M_drawOne_118 fl_M_305 (by omega) rfl rfl b1 b1f ?_
  refine vv_aload_n (pc := 121) d_M_drawOne_121 rfl ?_
  refine ww_gr (pc := 122) 36 52 d_M_drawOne_122 fl_M_85 (by omega) rfl (by decide) ?_
  refine vv_iload_n (pc := 125) d_M_drawOne_125 rfl ?_
  obtain ⟨b2, w⟩ := w
  refine ww_ld (pc := 126) 52 d_M_drawOne_126 (by omega) (by decide) b2 ?_
  refine vv_if_eq (pc := 127) (tgt := 204) d_M_drawOne_127 rfl (fun hc => ?_) (fun hc => ?_)
  · replace w := w.1 hc
    refine vv_aload_n (pc := 204) d_M_drawOne_204 rfl ?_
    refine ww_gr (pc := 205) 37 53 d_M_drawOne_205 fl_M_88 (by omega) rfl (by decide) ?_
    refine vv_iload_n (pc := 208) d_M_drawOne_208 rfl ?_
    obtain ⟨b3, w⟩ := w
    refine ww_ld (pc := 209) 53 d_M_drawOne_209 (by omega) (by decide) b3 ?_
    refine vv_i2l (pc := 210) d_M_drawOne_210 ?_
    refine vv_lstore (pc := 211) d_M_drawOne_211 (Nat.le_of_ble_eq_true rfl) ?_
    refine vv_lload (pc := 213) d_M_drawOne_213 rfl ?_
    refine vv_lconst (pc := 215) (v := 0) d_M_drawOne_215 rfl ?_
    refine vv_lcmp (pc := 216) d_M_drawOne_216 ?_
    refine vv_if_ge (pc := 217) (tgt := 236) d_M_drawOne_217 rfl (fun hc => ?_) (fun hc => ?_)
    · replace w := w.1 hc
      exact vv_sub [1, 2, 3, 4, 0] rfl (w G h n z d hn hd)
    · replace w := w.2 hc
      refine vv_aload_n (pc := 220) d_M_drawOne_220 rfl ?_
      refine ww_gr (pc := 221) 5 29 d_M_drawOne_221 fl_M_16 (by omega) rfl (by decide) ?_
      refine vv_iload_n (pc := 224) d_M_drawOne_224 rfl ?_
      refine vv_bipush (pc := 225) (v := 45) d_M_drawOne_225 rfl ?_
      obtain ⟨b4, w⟩ := w
      refine ww_st (pc := 227) 29 d_M_drawOne_227 (by omega) (by decide) b4 ?_
      refine vv_iinc (pc := 228) (v := (x3 + 1)) d_M_drawOne_228 rfl rfl (Nat.le_of_ble_eq_true rfl) ?_
      refine vv_lload (pc := 231) d_M_drawOne_231 rfl ?_
      refine vv_lneg (pc := 233) d_M_drawOne_233 ?_
      refine vv_lstore (pc := 234) d_M_drawOne_234 (Nat.le_of_ble_eq_true rfl) ?_
      exact vv_sub [2, 3, 4, 1, 0] rfl (w G h n z d hn hd)
  · replace w := w.2 hc
    refine vv_aload_n (pc := 130) d_M_drawOne_130 rfl ?_
    refine ww_gr (pc := 131) 5 29 d_M_drawOne_131 fl_M_16 (by omega) rfl (by decide) ?_
    refine vv_iload_n (pc := 134) d_M_drawOne_134 rfl ?_
    refine vv_aload_n (pc := 135) d_M_drawOne_135 rfl ?_
    refine ww_gr (pc := 136) 36 52 d_M_drawOne_136 fl_M_85 (by omega) rfl (by decide) ?_
    refine vv_iload_n (pc := 139) d_M_drawOne_139 rfl ?_
    obtain ⟨b5, w⟩ := w
    refine ww_ld (pc := 140) 52 d_M_drawOne_140 (by omega) (by decide) b5 ?_
    refine vv_iconst (pc := 141) (v := 1) d_M_drawOne_141 rfl ?_
    refine vv_icmp_ne (pc := 142) (tgt := 150) d_M_drawOne_142 rfl (fun hc => ?_) (fun hc => ?_)
    · replace w := w.1 hc
      refine vv_aload_n (pc := 150) d_M_drawOne_150 rfl ?_
      refine ww_gr (pc := 151) 36 52 d_M_drawOne_151 fl_M_85 (by omega) rfl (by decide) ?_
      refine vv_iload_n (pc := 154) d_M_drawOne_154 rfl ?_
      obtain ⟨b6, w⟩ := w
      refine ww_ld (pc := 155) 52 d_M_drawOne_155 (by omega) (by decide) b6 ?_
      refine vv_iconst (pc := 156) (v := 2) d_M_drawOne_156 rfl ?_
      refine vv_icmp_ne (pc := 157) (tgt := 165) d_M_drawOne_157 rfl (fun hc => ?_) (fun hc => ?_)
      · replace w := w.1 hc
        refine vv_bipush (pc := 165) (v := 65) d_M_drawOne_165 rfl ?_
        refine vv_aload_n (pc := 167) d_M_drawOne_167 rfl ?_
        refine ww_gr (pc := 168) 37 53 d_M_drawOne_168 fl_M_88 (by omega) rfl (by decide) ?_
        refine vv_iload_n (pc := 171) d_M_drawOne_171 rfl ?_
        obtain ⟨b7, w⟩ := w
        refine ww_ld (pc := 172) 53 d_M_drawOne_172 (by omega) (by decide) b7 ?_
        refine vv_iadd (pc := 173) d_M_drawOne_173 ?_
        exact vv_sub [0, 1, 2, 3] rfl (w G h n z d hn hd)
      · replace w := w.2 hc
        refine vv_bipush (pc := 160) (v := 95) d_M_drawOne_160 rfl ?_
        refine vv_goto (pc := 162) (tgt := 174) d_M_drawOne_162 rfl ?_
        exact vv_sub [0, 1, 2, 3] rfl (w G h n z d hn hd)
    · replace w := w.2 hc
      refine vv_bipush (pc := 145) (v := 35) d_M_drawOne_145 rfl ?_
      refine vv_goto (pc := 147) (tgt := 174) d_M_drawOne_147 rfl ?_
      exact vv_sub [0, 1, 2, 3] rfl (w G h n z d hn hd)
def wp_M_drawOne_174 (o : Option Value) (S' : cp_S) (S : cp_S) (x1 : Int32) (x2 : Int32) (x3 : Int32) (y1 : Int32) (y2 : Int32) : Prop := vp_in y1 (cp_ml 29) ∧ vp_in (x3 + 1) (cp_ml 29) ∧ vp_in x1 (cp_ml 55) ∧ (((((S.2 55) (Int32.toNatClampNeg x1)) : Int32) ≤ 0 → (o = some (.int (x3 + 1)) ∧ S' = (S.1, (va_up (va_up S.2 29 (upd (S.2 29) (Int32.toNatClampNeg y1) y2)) 29 (upd (upd (S.2 29) (Int32.toNatClampNeg y1) y2) (Int32.toNatClampNeg (x3 + 1)) 40))))) ∧ (¬ (((S.2 55) (Int32.toNatClampNeg x1)) : Int32) ≤ 0 → (o = some (.int (x3 + 2)) ∧ S' = (S.1, (va_up (va_up S.2 29 (upd (S.2 29) (Int32.toNatClampNeg y1) y2)) 29 (upd (upd (S.2 29) (Int32.toNatClampNeg y1) y2) (Int32.toNatClampNeg (x3 + 1)) 40))))))
theorem b_M_drawOne_174 {o : Option Value} {S' S : cp_S} {x1 : Int32} {x2 : Int32} {x3 : Int32} {y1 : Int32} {y2 : Int32} (w : wp_M_drawOne_174 o S' S x1 x2 x3 y1 y2) : JK 0 m_M_drawOne o S' 174 [(1, .int x1), (2, .int x2), (3, .int x3)] (fun G => [.int y2, .int y1, .ref (cp_b G + 29)]) S := by
  unfold wp_M_drawOne_174 at w
  intro G h n z d hn hd
  obtain ⟨b1, w⟩ := w
  refine ww_st (pc := 174) 29 d_M_drawOne_174 (by omega) (by decide) b1 ?_
  refine vv_aload_n (pc := 175) d_M_drawOne_175 rfl ?_
  refine ww_gr (pc := 176) 5 29 d_M_drawOne_176 fl_M_16 (by omega) rfl (by decide) ?_
  refine vv_iload_n (pc := 179) d_M_drawOne_179 rfl ?_
  refine vv_iconst (pc := 180) (v := 1) d_M_drawOne_180 rfl ?_
  refine vv_iadd (pc := 181) d_M_drawOne_181 ?_
  refine vv_bipush (pc := 182) (v := 40) d_M_drawOne_182 rfl ?_
  obtain ⟨b2, w⟩ := w
  refine ww_st (pc := 184) 29 d_M_drawOne_184 (by omega) (by decide) b2 ?_
  refine vv_aload_n (pc := 185) d_M_drawOne_185 rfl ?_
  refine ww_gr (pc := 186) 39 55 d_M_drawOne_186 fl_M_94 (by omega) rfl (by decide) ?_
  refine vv_iload_n (pc := 189) d_M_drawOne_189 rfl ?_
  obtain ⟨b3, w⟩ := w
  refine ww_ld (pc := 190) 55 d_M_drawOne_190 (by omega) (by decide) b3 ?_
  refine vv_if_le (pc := 191) (tgt := 200) d_M_drawOne_191 rfl (fun hc => ?_) (fun hc => ?_)
  · replace w := w.1 hc
    refine vv_iload_n (pc := 200) d_M_drawOne_200 rfl ?_
    refine vv_iconst (pc := 201) (v := 1) d_M_drawOne_201 rfl ?_
    refine vv_iadd (pc := 202) d_M_drawOne_202 ?_
    obtain ⟨rfl, rfl⟩ := w
    exact vv_iret (pc := 203) d_M_drawOne_203 rfl
  · replace w := w.2 hc
    refine vv_iload_n (pc := 194) d_M_drawOne_194 rfl ?_
    refine vv_iconst (pc := 195) (v := 2) d_M_drawOne_195 rfl ?_
    refine vv_iadd (pc := 196) d_M_drawOne_196 ?_
    refine vv_goto (pc := 197) (tgt := 203) d_M_drawOne_197 rfl ?_
    obtain ⟨rfl, rfl⟩ := w
    exact vv_iret (pc := 203) d_M_drawOne_203 rfl
def wp_M_drawOne_236 (o : Option Value) (S' : cp_S) (S : cp_S) (x1 : Int32) (x2 : Int32) (x3 : Int32) (x4 : Int64) : Prop := JJ 0 m_M_drawOne o S' 239 [(1, .int x1), (2, .int x2), (3, .int x3), (4, .long x4), (6, .long 1)] S
theorem b_M_drawOne_236 {o : Option Value} {S' S : cp_S} {x1 : Int32} {x2 : Int32} {x3 : Int32} {x4 : Int64} (w : wp_M_drawOne_236 o S' S x1 x2 x3 x4) : JJ 0 m_M_drawOne o S' 236 [(1, .int x1), (2, .int x2), (3, .int x3), (4, .long x4)] S := by
  unfold wp_M_drawOne_236 at w
  intro G h n z d hn hd
  refine vv_lconst (pc := 236) (v := 1) d_M_drawOne_236 rfl ?_
  refine vv_lstore (pc := 237) d_M_drawOne_237 (Nat.le_of_ble_eq_true rfl) ?_
  exact vv_sub [1, 2, 3, 4, 5, 0] rfl (w G h n z d hn hd)
def wp_M_drawOne_239 (o : Option Value) (S' : cp_S) (S : cp_S) (x1 : Int32) (x2 : Int32) (x3 : Int32) (x4 : Int64) (x6 : Int64) : Prop := ((0 < ((lg_cmp (x6 * 10) x4) : Int32) → JJ 0 m_M_drawOne o S' 262 [(1, .int x1), (2, .int x2), (3, .int x3), (4, .long x4), (6, .long x6)] S) ∧ (¬ 0 < ((lg_cmp (x6 * 10) x4) : Int32) → JJ 0 m_M_drawOne o S' 239 [(1, .int x1), (2, .int x2), (3, .int x3), (4, .long x4), (6, .long (x6 * 10))] S))
theorem b_M_drawOne_239 {o : Option Value} {S' S : cp_S} {x1 : Int32} {x2 : Int32} {x3 : Int32} {x4 : Int64} {x6 : Int64} (w : wp_M_drawOne_239 o S' S x1 x2 x3 x4 x6) : JJ 0 m_M_drawOne o S' 239 [(1, .int x1), (2, .int x2), (3, .int x3), (4, .long x4), (6, .long x6)] S := by
  unfold wp_M_drawOne_239 at w
  intro G h n z d hn hd
  refine vv_lload (pc := 239) d_M_drawOne_239 rfl ?_
  refine vv_ldc2 (pc := 241) (v := 10) d_M_drawOne_241 cj_M_312 ?_
  refine vv_lmul (pc := 244) d_M_drawOne_244 ?_
  refine vv_lload (pc := 245) d_M_drawOne_245 rfl ?_
  refine vv_lcmp (pc := 247) d_M_drawOne_247 ?_
  refine vv_if_gt (pc := 248) (tgt := 262) d_M_drawOne_248 rfl (fun hc => ?_) (fun hc => ?_)
  · replace w := w.1 hc
    exact vv_sub [0, 1, 2, 3, 4, 5] rfl (w G h n z d hn hd)
  · replace w := w.2 hc
    refine vv_lload (pc := 251) d_M_drawOne_251 rfl ?_
    refine vv_ldc2 (pc := 253) (v := 10) d_M_drawOne_253 cj_M_312 ?_
    refine vv_lmul (pc := 256) d_M_drawOne_256 ?_
    refine vv_lstore (pc := 257) d_M_drawOne_257 (Nat.le_of_ble_eq_true rfl) ?_
    refine vv_goto (pc := 259) (tgt := 239) d_M_drawOne_259 rfl ?_
    exact vv_sub [1, 2, 3, 4, 5, 0] rfl (w G h n z d hn hd)
def wp_M_drawOne_262 (o : Option Value) (S' : cp_S) (S : cp_S) (x1 : Int32) (x2 : Int32) (x3 : Int32) (x4 : Int64) (x6 : Int64) : Prop := ((((lg_cmp x6 0) : Int32) ≤ 0 → (o = some (.int x3) ∧ S' = S)) ∧ (¬ ((lg_cmp x6 0) : Int32) ≤ 0 → ((108 ≤ (x3 : Int32) → (o = some (.int x3) ∧ S' = S)) ∧ (¬ 108 ≤ (x3 : Int32) → ¬ x6 = (0 : Int64) ∧ vp_in x3 (cp_ml 29) ∧ JJ 0 m_M_drawOne o S' 262 [(1, .int x1), (2, .int x2), (3, .int (x3 + 1)), (4, .long x4), (6, .long (x6 / 10))] (S.1, (va_up S.2 29 (upd (S.2 29) (Int32.toNatClampNeg x3) (48 + (Int64.toInt32 ((x4 / x6) - (x4 / x6) / 10 * 10))))))))))
theorem b_M_drawOne_262 {o : Option Value} {S' S : cp_S} {x1 : Int32} {x2 : Int32} {x3 : Int32} {x4 : Int64} {x6 : Int64} (w : wp_M_drawOne_262 o S' S x1 x2 x3 x4 x6) : JJ 0 m_M_drawOne o S' 262 [(1, .int x1), (2, .int x2), (3, .int x3), (4, .long x4), (6, .long x6)] S := by
  unfold wp_M_drawOne_262 at w
  intro G h n z d hn hd
  refine vv_lload (pc := 262) d_M_drawOne_262 rfl ?_
  refine vv_lconst (pc := 264) (v := 0) d_M_drawOne_264 rfl ?_
  refine vv_lcmp (pc := 265) d_M_drawOne_265 ?_
  refine vv_if_le (pc := 266) (tgt := 308) d_M_drawOne_266 rfl (fun hc => ?_) (fun hc => ?_)
  · replace w := w.1 hc
    refine vv_iload_n (pc := 308) d_M_drawOne_308 rfl ?_
    obtain ⟨rfl, rfl⟩ := w
    exact vv_iret (pc := 309) d_M_drawOne_309 rfl
  · replace w := w.2 hc
    refine vv_iload_n (pc := 269) d_M_drawOne_269 rfl ?_
    refine vv_bipush (pc := 270) (v := 108) d_M_drawOne_270 rfl ?_
    refine vv_icmp_ge (pc := 272) (tgt := 308) d_M_drawOne_272 rfl (fun hc => ?_) (fun hc => ?_)
    · replace w := w.1 hc
      refine vv_iload_n (pc := 308) d_M_drawOne_308 rfl ?_
      obtain ⟨rfl, rfl⟩ := w
      exact vv_iret (pc := 309) d_M_drawOne_309 rfl
    · replace w := w.2 hc
      refine vv_aload_n (pc := 275) d_M_drawOne_275 rfl ?_
      refine ww_gr (pc := 276) 5 29 d_M_drawOne_276 fl_M_16 (by omega) rfl (by decide) ?_
      refine vv_iload_n (pc := 279) d_M_drawOne_279 rfl ?_
      refine vv_bipush (pc := 280) (v := 48) d_M_drawOne_280 rfl ?_
      refine vv_lload (pc := 282) d_M_drawOne_282 rfl ?_
      refine vv_lload (pc := 284) d_M_drawOne_284 rfl ?_
      obtain ⟨b1, w⟩ := w
      refine vv_ldiv (pc := 286) d_M_drawOne_286 b1 ?_
      refine vv_ldc2 (pc := 287) (v := 10) d_M_drawOne_287 cj_M_312 ?_
      refine vv_lrem (pc := 290) d_M_drawOne_290 (by decide) ?_
      refine vv_l2i (pc := 291) d_M_drawOne_291 ?_
      refine vv_iadd (pc := 292) d_M_drawOne_292 ?_
      obtain ⟨b2, w⟩ := w
      refine ww_st (pc := 293) 29 d_M_drawOne_293 (by omega) (by decide) b2 ?_
      refine vv_iinc (pc := 294) (v := (x3 + 1)) d_M_drawOne_294 rfl rfl (Nat.le_of_ble_eq_true rfl) ?_
      refine vv_lload (pc := 297) d_M_drawOne_297 rfl ?_
      refine vv_ldc2 (pc := 299) (v := 10) d_M_drawOne_299 cj_M_312 ?_
      refine vv_ldiv (pc := 302) d_M_drawOne_302 (by decide) ?_
      refine vv_lstore (pc := 303) d_M_drawOne_303 (Nat.le_of_ble_eq_true rfl) ?_
      refine vv_goto (pc := 305) (tgt := 262) d_M_drawOne_305 rfl ?_
      exact vv_sub [2, 3, 4, 1, 5, 0] rfl (w G h n z d hn hd)
