/-! ===== reading: steps of both sides ===== -/
theorem ifV1 {c : Nat} (hc : c < 200) (h : isV c) : ¬ ((if 97 ≤ nI c ∧ nI c ≤ 122 then 1 else 0) : Int32) = 0 := by rw [if_pos ((isV_i (by omega)).mpr h)]; decide
theorem ifV0 {c : Nat} (hc : c < 200) (h : ¬ isV c) : ((if 97 ≤ nI c ∧ nI c ≤ 122 then 1 else 0) : Int32) = 0 := by rw [if_neg (fun q => h ((isV_i (by omega)).mp q))]
theorem ifD1 {c : Nat} (hc : c < 200) (h : isD c) : ¬ ((if 48 ≤ nI c ∧ nI c ≤ 57 then 1 else 0) : Int32) = 0 := by rw [if_pos ((isD_i (by omega)).mpr h)]; decide
theorem ifD0 {c : Nat} (hc : c < 200) (h : ¬ isD c) : ((if 48 ≤ nI c ∧ nI c ≤ 57 then 1 else 0) : Int32) = 0 := by rw [if_neg (fun q => h ((isD_i (by omega)).mp q))]
theorem ifL1 {c : Nat} (hc : c < 200) (h : isL c) : ¬ ((if 65 ≤ nI c ∧ nI c ≤ 90 then 1 else 0) : Int32) = 0 := by rw [if_pos ((isL_i (by omega)).mpr h)]; decide
theorem ifL0 {c : Nat} (hc : c < 200) (h : ¬ isL c) : ((if 65 ≤ nI c ∧ nI c ≤ 90 then 1 else 0) : Int32) = 0 := by rw [if_neg (fun q => h ((isL_i (by omega)).mp q))]
theorem ife1 {x y : Int32} (h : x = y) : ¬ ((if x = y then 1 else 0) : Int32) = 0 := by rw [if_pos h]; decide
theorem ife0 {x y : Int32} (h : ¬ x = y) : ((if x = y then 1 else 0) : Int32) = 0 := by rw [if_neg h]
theorem nI_cc {c a : Nat} (hc : c < 200) (ha : a < 200) (h : ¬ c = a) : ¬ nI c = nI a := fun q => h ((nI_ch (by omega) (by omega)).mp q)
/-- a term is begun at p, then the text goes on -/
def BTK (X : Int32 × Int32 × Int32) (n : Nat) (o : Option Value) (Sx : cp_S) (S : cp_S) (p bb : Nat) : Prop := ∃ r T, MC 1 m_M_beginTerm [.int (S.2 27 p), .int (nI p), .int (nI bb)] S (some (.int r)) T ∧ (r = 0 ∨ r = 1) ∧ (r = 0 → o = some (.int (nI p)) ∧ Sx = T) ∧ (¬ r = 0 → RD X n o Sx (p + 1) T)
def SPO (S T : cp_S) : Prop := (∀ k, k ≠ 29 → T.1 k = S.1 k) ∧ T.2 = S.2
theorem SPO.rfx {rf n1 len i0 : Nat} {S T : cp_S} (h : SPO S T) : RFX rf n1 len i0 S T := ⟨fun k _ k2 => h.1 k k2, fun q _ => by rw [h.2], fun q _ _ x _ _ => by rw [h.2], fun x _ => by rw [h.2], fun q _ _ x _ => by rw [h.2]⟩
theorem pop_spo {S : cp_S} {k : Nat} : SPO S (popS S k) := ⟨fun q hq => pop_1 hq, rfl⟩
theorem SPO.trans {S T U : cp_S} (h : SPO S T) (g : SPO T U) : SPO S U := ⟨fun k hk => (g.1 k hk).trans (h.1 k hk), g.2.trans h.2⟩
section CPR3
variable {X : Int32 × Int32 × Int32} {n p rf n1 : Nat} {S : cp_S} {l : List cp_I}
theorem tk_jk {c : Int32} {i : cp_I} : ∀ (jk : List cp_I) (S : cp_S), PS S (jk ++ i :: l) n1 rf → (jk ++ i :: l).length ≤ 400 → (∀ j ∈ jk, SKP c j) → ∃ T, PS T (i :: l) n1 rf ∧ SPO S T ∧ ∀ r S', JT r S' c (nI p) T → JT r S' c (nI p) S
  | [], S, h, _, _ => ⟨S, h, ⟨fun _ _ => rfl, rfl⟩, fun _ _ w => w⟩
  | j :: jk, S, h, hl, hs => by
    have hl2 : (jk ++ i :: l).length < 400 := by rw [List.cons_append, List.length_cons] at hl; omega
    obtain ⟨T, t1, t2, t3⟩ := tk_jk jk (popS S (jk ++ i :: l).length) (PS.pop h) (by omega) (fun x hx => hs x (List.mem_cons_of_mem _ hx))
    exact ⟨T, t1, pop_spo.trans t2, fun r S' w => tk_skip h hl2 (hs j List.mem_cons_self) (t3 r S' w)⟩
end CPR3
section CPTD
variable {S T : cp_S} {x2 x3 x4 x5 r : Int32} {l : List cp_I} {n1 rf : Nat}
theorem nb {r : Int32} (h : r = 0 ∨ r = 1) : narrow .boolean (.int r) = .int r := by rcases h with rfl | rfl <;> rfl
theorem td_200 (w : MC 1 m_M_beginTerm [.int x4, .int x5, .int (x2 + x3)] S (some (.int r)) T) (h : r = 0 ∨ r = 1) : MC 3 m_M_takeDeclared [.int 200, .int x2, .int x3, .int x4, .int x5] S (some (.int r)) T := c_M_takeDeclared (b_M_takeDeclared_0 ⟨fun _ => ⟨r, T, w, rfl, rfl, nb h⟩, fun q => absurd q (by decide), fun q => absurd q (by decide), fun q => absurd q (by decide), fun q => absurd q (by decide), fun q => absurd q (by decide), fun q => absurd q (by decide), fun q => absurd q (by decide), fun q => absurd rfl (q 200 (by decide))⟩)
theorem td_201 {T6 T8 : cp_S} (v : vp_in x2 (cp_ml 41)) (w1 : MC 0 m_M_push [.int 202, .int x2, .int x3] (S.1, (va_up S.2 41 (upd (S.2 41) (Int32.toNatClampNeg x2) 1))) none T6) (w2 : MC 0 m_M_push [.int 200, .int (x3 + 2), .int 0] T6 none T8) : MC 3 m_M_takeDeclared [.int 201, .int x2, .int x3, .int x4, .int x5] S (some (.int 1)) T8 := c_M_takeDeclared (b_M_takeDeclared_0 ⟨fun q => absurd q (by decide), fun _ => ⟨v, T6, w1, T8, w2, rfl, rfl, rfl⟩, fun q => absurd q (by decide), fun q => absurd q (by decide), fun q => absurd q (by decide), fun q => absurd q (by decide), fun q => absurd q (by decide), fun q => absurd q (by decide), fun q => absurd rfl (q 201 (by decide))⟩)
theorem td_202c (h : x4 = 41) : MC 3 m_M_takeDeclared [.int 202, .int x2, .int x3, .int x4, .int x5] S (some (.int 1)) S := c_M_takeDeclared (b_M_takeDeclared_0 ⟨fun q => absurd q (by decide), fun q => absurd q (by decide), fun _ => ⟨fun q => absurd h q, fun _ => ⟨rfl, rfl, rfl⟩⟩, fun q => absurd q (by decide), fun q => absurd q (by decide), fun q => absurd q (by decide), fun q => absurd q (by decide), fun q => absurd q (by decide), fun q => absurd rfl (q 202 (by decide))⟩)
theorem td_202f (h : ¬ x4 = 41) (v : vp_in x2 (cp_ml 41)) (h6 : S.2 41 (Int32.toNatClampNeg x2) = 6) : MC 3 m_M_takeDeclared [.int 202, .int x2, .int x3, .int x4, .int x5] S (some (.int 0)) S := c_M_takeDeclared (b_M_takeDeclared_0 ⟨fun q => absurd q (by decide), fun q => absurd q (by decide), fun _ => ⟨fun _ => ⟨v, fun q => absurd h6 q, fun _ => ⟨rfl, rfl, rfl⟩⟩, fun q => absurd q h⟩, fun q => absurd q (by decide), fun q => absurd q (by decide), fun q => absurd q (by decide), fun q => absurd q (by decide), fun q => absurd q (by decide), fun q => absurd rfl (q 202 (by decide))⟩)
theorem td_202n {T13 : cp_S} (h : ¬ x4 = 41) (v : vp_in x2 (cp_ml 41)) (h6 : ¬ S.2 41 (Int32.toNatClampNeg x2) = 6) (w1 : MC 0 m_M_push [.int 202, .int x2, .int x3] (S.1, (va_up S.2 41 (upd (S.2 41) (Int32.toNatClampNeg x2) (((S.2 41) (Int32.toNatClampNeg x2)) + 1)))) none T13) (w2 : MC 1 m_M_beginTerm [.int x4, .int x5, .int (x3 + 2)] T13 (some (.int r)) T) (hr : r = 0 ∨ r = 1) : MC 3 m_M_takeDeclared [.int 202, .int x2, .int x3, .int x4, .int x5] S (some (.int r)) T := c_M_takeDeclared (b_M_takeDeclared_0 ⟨fun q => absurd q (by decide), fun q => absurd q (by decide), fun _ => ⟨fun _ => ⟨v, fun _ => ⟨v, v, T13, w1, r, T, w2, rfl, rfl, nb hr⟩, fun q => absurd q h6⟩, fun q => absurd q h⟩, fun q => absurd q (by decide), fun q => absurd q (by decide), fun q => absurd q (by decide), fun q => absurd q (by decide), fun q => absurd q (by decide), fun q => absurd rfl (q 202 (by decide))⟩)
/-- the count of a node -/
def cntS (S : cp_S) (i : Nat) (y : Int32) : cp_S := (S.1, va_up S.2 41 (upd (S.2 41) i y))
theorem cnt_at {i : Nat} {y : Int32} {x : Nat} : (cntS S i y).2 41 x = if x = i then y else S.2 41 x := by
  show va_up S.2 41 (upd (S.2 41) i y) 41 x = _
  rw [va_up_at]
  by_cases h : x = i
  · rw [if_pos h, h, pk_us]
  · rw [if_neg h, pk_un h]
theorem cnt_2 {i q : Nat} {y : Int32} (h : q ≠ 41) : (cntS S i y).2 q = S.2 q := cp_up_ne h
theorem PS.cnt {i : Nat} {y : Int32} (h : PS S l n1 rf) : PS (cntS S i y) l n1 rf := ⟨h.1, STK.mv l h.2.1 (fun q q1 q2 x _ => by rw [cnt_2 (by omega)]), h.2.2.1, h.2.2.2⟩
theorem cnt_rfx {i len m : Nat} {y : Int32} : RFX rf m len i S (cntS S i y) := ⟨fun _ _ _ => rfl, fun q hq => cnt_2 (by omega), fun q q1 q2 x _ hx => by
  by_cases e : q = 41
  · subst e
    rw [cnt_at, if_neg (by rcases hx with h | h; exact h; exact absurd rfl h)]
  · rw [cnt_2 e], fun x _ => by rw [cnt_2 (by decide)], fun q q1 q2 x _ => by rw [cnt_2 (by omega)]⟩
theorem psh_rfx {w x y : Int32} {k len m i0 : Nat} (h : len ≤ k) : RFX rf m len i0 S (pshS S k w x y) := ⟨fun q _ h2 => psh_1 h2, fun q hq => psh_2 (by omega), fun q q1 q2 z _ _ => by rw [psh_2 (by omega)], fun z _ => by rw [psh_2 (by omega)], fun q q1 q2 z hz => psh_lo (by omega) q1 q2⟩
theorem nds_rfx {x v p : Int32} {len i0 : Nat} : RFX rf n1 len i0 S (ndS S n1 rf x v p) := ⟨fun q h1 _ => nds_1 h1, fun q hq => nds_2 (by omega), fun q q1 q2 z hz _ => nds_lo (by omega) q1 q2, fun z hz => by rw [nds_42, if_neg (by omega)], fun q q1 q2 z _ => by rw [nds_2 (by omega)]⟩
end CPTD
section CPR4
variable {X : Int32 × Int32 × Int32} {n p rf n1 : Nat} {S : cp_S} {l : List cp_I}
theorem nsk {c : Int32} {i : cp_I} (h1 : ¬ i.1 = 201) (h2 : ¬ i.1 = 211) (h3 : ¬ i.1 = 215) : ¬ SKP c i := by
  rintro (⟨a, -⟩ | ⟨a, -⟩ | ⟨a, -⟩)
  · exact h1 a
  · exact h2 a
  · exact h3 a
/-- TERM -/
theorem rd_term {o : Option Value} {Sx : cp_S} {x y : Int32} {bb : Nat} (h : PS S ((200, x, y) :: l) n1 rf) (hl : l.length < 400) (hp : p < n) (hn : n ≤ 80) (hxy : x + y = nI bb) (w : BTK X n o Sx (popS S l.length) p bb) : RD X n o Sx p S := by
  obtain ⟨r, T, w1, w2, w3, w4⟩ := w
  refine rd_step hp hn rfl (tk_decl (r := r) h hl (nsk (by show ¬ (200 : Int32) = 201; decide) (by show ¬ (200 : Int32) = 211; decide) (by show ¬ (200 : Int32) = 215; decide)) (by show (200 : Int32) ≤ 200; decide) (by show ¬ (209 : Int32) ≤ 200; decide) w2 (td_200 ?_ w2)) w4 w3
  rw [show (200, x, y).2.1 + (200, x, y).2.2 = nI bb from hxy]
  exact w1
/-- a bracket behind a letter -/
theorem rd_maybe {o : Option Value} {Sx : cp_S} {i0 bb : Nat} (h : PS S ((201, nI i0, nI bb) :: l) n1 rf) (hl : l.length + 2 < 400) (hp : p < n) (hn : n ≤ 80) (hc : S.2 27 p = nI 40) (h8 : ¬ nI bb / 2 = 8) (hi : i0 < 2720) (w : RD X n o Sx (p + 1) (pshS (pshS (cntS (popS S l.length) i0 (nI 1)) l.length 202 (nI i0) (nI bb)) (l.length + 1) 200 (nI (bb + 2)) 0)) : RD X n o Sx p S := by
  have hs : ¬ SKP (nI 40) (201, nI i0, nI bb) := by
    rintro (⟨-, a⟩ | ⟨a, -⟩ | ⟨a, -⟩)
    · rcases a with a | a
      · exact a rfl
      · exact h8 a
    · exact absurd (show (201 : Int32) = 211 from a) (by decide)
    · exact absurd (show (201 : Int32) = 215 from a) (by decide)
  refine rd_step hp hn hc (tk_decl (r := 1) h (by omega) hs (by show (200 : Int32) ≤ 201; decide) (by show ¬ (209 : Int32) ≤ 201; decide) (Or.inr rfl) (td_201 (T6 := pshS (cntS (popS S l.length) i0 (nI 1)) l.length 202 (nI i0) (nI bb)) (vp_in_nI (show i0 < 2720 by omega) (by decide)) ?_ ?_)) (fun _ => w) (fun q => absurd q (by decide))
  · show MC 0 m_M_push [.int 202, .int (nI i0), .int (nI bb)] ((popS S l.length).1, va_up (popS S l.length).2 41 (upd ((popS S l.length).2 41) (Int32.toNatClampNeg (nI i0)) 1)) none _
    rw [nI_clamp (by omega)]
    exact MC_push (S := cntS (popS S l.length) i0 (nI 1)) (l := l) (PS.cnt (PS.pop h)) (by omega)
  · show MC 0 m_M_push [.int 200, .int (nI bb + 2), .int 0] _ none _
    rw [show nI bb + 2 = nI (bb + 2) from nI_add (a := bb) (b := 2)]
    exact MC_push (l := (202, nI i0, nI bb) :: l) (PS.push (PS.cnt (PS.pop h))) (by rw [List.length_cons]; omega)
/-- TERMS: the bracket is closed -/
theorem rd_close {i0 bb : Nat} {jk : List cp_I} (h : PS S (jk ++ (202, nI i0, nI bb) :: l) n1 rf) (hl : (jk ++ (202, nI i0, nI bb) :: l).length ≤ 400) (hp : p < n) (hn : n ≤ 80) (hc : S.2 27 p = nI 41) (hj : ∀ j ∈ jk, SKP (nI 41) j) : ∃ T, PS T l n1 rf ∧ SPO S T ∧ ∀ o Sx, RD X n o Sx (p + 1) T → RD X n o Sx p S := by
  obtain ⟨T, t1, t2, t3⟩ := tk_jk (p := p) jk S h hl hj
  have hl2 : l.length < 400 := by rw [List.length_append, List.length_cons] at hl; omega
  exact ⟨popS T l.length, PS.pop t1, t2.trans pop_spo, fun o Sx w => rd_step hp hn hc (t3 _ _ (tk_decl (r := 1) t1 hl2 (nsk (by show ¬ (202 : Int32) = 201; decide) (by show ¬ (202 : Int32) = 211; decide) (by show ¬ (202 : Int32) = 215; decide)) (by show (200 : Int32) ≤ 202; decide) (by show ¬ (209 : Int32) ≤ 202; decide) (Or.inr rfl) (td_202c rfl))) (fun _ => w) (fun q => absurd q (by decide))⟩
/-- TERMS: six are enough -/
theorem rd_full {i0 bb c : Nat} {jk : List cp_I} (h : PS S (jk ++ (202, nI i0, nI bb) :: l) n1 rf) (hl : (jk ++ (202, nI i0, nI bb) :: l).length ≤ 400) (hp : p < n) (hn : n ≤ 80) (hc : S.2 27 p = nI c) (hc2 : c < 200) (h41 : ¬ c = 41) (hj : ∀ j ∈ jk, SKP (nI c) j) (hi : i0 < 2720) (h6 : S.2 41 i0 = nI 6) : ∃ T, SPO S T ∧ RD X n (some (.int (nI p))) T p S := by
  obtain ⟨T, t1, t2, t3⟩ := tk_jk (p := p) jk S h hl hj
  have hl2 : l.length < 400 := by rw [List.length_append, List.length_cons] at hl; omega
  refine ⟨popS T l.length, t2.trans pop_spo, rd_step hp hn hc (t3 _ _ (tk_decl (r := 0) t1 hl2 (nsk (by show ¬ (202 : Int32) = 201; decide) (by show ¬ (202 : Int32) = 211; decide) (by show ¬ (202 : Int32) = 215; decide)) (by show (200 : Int32) ≤ 202; decide) (by show ¬ (209 : Int32) ≤ 202; decide) (Or.inl rfl) (td_202f (nI_cc (a := 41) hc2 (by omega) h41) (vp_in_nI (show i0 < 2720 by omega) (by decide)) ?_))) (fun q => absurd rfl q) (fun _ => ⟨rfl, rfl⟩)⟩
  show T.2 41 (Int32.toNatClampNeg (nI i0)) = 6
  rw [nI_clamp (by omega), t2.2, h6]
  rfl
/-- TERMS: another -/
theorem rd_next {i0 bb c t : Nat} {jk : List cp_I} (h : PS S (jk ++ (202, nI i0, nI bb) :: l) n1 rf) (hl : (jk ++ (202, nI i0, nI bb) :: l).length ≤ 400) (hp : p < n) (hn : n ≤ 80) (hc : S.2 27 p = nI c) (hc2 : c < 200) (h41 : ¬ c = 41) (hj : ∀ j ∈ jk, SKP (nI c) j) (hi : i0 < 2720) (ht : t < 6) (h6 : S.2 41 i0 = nI t) : ∃ T, PS T ((202, nI i0, nI bb) :: l) n1 rf ∧ RFX rf n1 l.length i0 S T ∧ T.2 41 i0 = nI (t + 1) ∧ ∀ o Sx, BTK X n o Sx T p (bb + 2) → RD X n o Sx p S := by
  obtain ⟨T, t1, t2, t3⟩ := tk_jk (p := p) jk S h hl hj
  have hl2 : l.length < 400 := by rw [List.length_append, List.length_cons] at hl; omega
  refine ⟨pshS (cntS (popS T l.length) i0 (nI (t + 1))) l.length 202 (nI i0) (nI bb), PS.push (PS.cnt (PS.pop t1)), ((t2.rfx (len := l.length)).trans (pop_spo.rfx (len := l.length) (i0 := i0)) (Nat.le_refl _) (Nat.le_refl _) (Or.inl rfl)).trans ((cnt_rfx (len := l.length) (m := n1)).trans (psh_rfx (i0 := i0) (Nat.le_refl _)) (Nat.le_refl _) (Nat.le_refl _) (Or.inl rfl)) (Nat.le_refl _) (Nat.le_refl _) (Or.inl rfl), ?_, fun o Sx w => ?_⟩
  · rw [psh_2 (by omega), cnt_at, if_pos rfl]
  · obtain ⟨r, T', w1, w2, w3, w4⟩ := w
    refine rd_step hp hn hc (t3 _ _ (tk_decl (r := r) t1 hl2 (nsk (by show ¬ (202 : Int32) = 201; decide) (by show ¬ (202 : Int32) = 211; decide) (by show ¬ (202 : Int32) = 215; decide)) (by show (200 : Int32) ≤ 202; decide) (by show ¬ (209 : Int32) ≤ 202; decide) w2 (td_202n (T13 := pshS (cntS (popS T l.length) i0 (nI (t + 1))) l.length 202 (nI i0) (nI bb)) (nI_cc (a := 41) hc2 (by omega) h41) (vp_in_nI (show i0 < 2720 by omega) (by decide)) ?_ ?_ ?_ w2))) w4 w3
    · show ¬ T.2 41 (Int32.toNatClampNeg (nI i0)) = 6
      rw [nI_clamp (by omega), t2.2, h6]
      exact nI_cc (a := 6) (by omega) (by omega) (by omega)
    · show MC 0 m_M_push [.int 202, .int (nI i0), .int (nI bb)] ((popS T l.length).1, va_up (popS T l.length).2 41 (upd ((popS T l.length).2 41) (Int32.toNatClampNeg (nI i0)) ((popS T l.length).2 41 (Int32.toNatClampNeg (nI i0)) + 1))) none _
      rw [nI_clamp (show i0 < 2 ^ 31 by omega), show (popS T l.length).2 41 i0 = nI t by rw [pop_2, t2.2]; exact h6, nI_1]
      exact MC_push (S := cntS (popS T l.length) i0 (nI (t + 1))) (l := l) (PS.cnt (PS.pop t1)) hl2
    · show MC 1 m_M_beginTerm [.int (nI c), .int (nI p), .int (nI bb + 2)] _ _ _
      rw [show nI bb + 2 = nI (bb + 2) from nI_add (a := bb) (b := 2)]
      rw [show (pshS (cntS (popS T l.length) i0 (nI (t + 1))) l.length 202 (nI i0) (nI bb)).2 27 p = nI c by rw [psh_2 (by omega), cnt_2 (by decide), pop_2, t2.2]; exact hc] at w1
      exact w1
end CPR4
