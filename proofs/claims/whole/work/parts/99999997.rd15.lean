/-! ===== reading: a node becomes the last part of another; the reference's pile changes ===== -/
/-- ql is the last part of q0, if there is one -/
def LSP (K : cp_K) (q0 ql : Nat) : Prop := (K.2.2.1 q0 5 = 0 ∧ ql = K.1.1) ∨ (K.2.2.1 q0 5 = ql ∧ ql ≠ q0 ∧ nd K ql 9)
/-- the node c, read since K, becomes the last part of q0 -/
theorem addK {K K1 : cp_K} {q0 ql c : Nat} (k : KRX K.1.1 K.1.1 K K1) (hq0 : nd K q0 9) (hlast : LSP K q0 ql) :
    (nd K1 q0 9 ∧ (¬ K1.2.2.1 q0 5 = 0 → nd K1 (K1.2.2.1 q0 5) 9)) ∧ KRX q0 ql K (nadd K1 q0 c) ∧ (∃ qx, (qx < K.1.1 ∨ K1.1.1 ≤ qx) ∧ KRX q0 qx K1 (nadd K1 q0 c)) ∧ (nadd K1 q0 c).1.1 = K1.1.1 ∧ (nadd K1 q0 c).2.1 q0 3 = K.2.1 q0 3 + 1 ∧ (nadd K1 q0 c).2.2.1 q0 5 = c ∧ (K.2.2.1 q0 5 = 0 → (nadd K1 q0 c).2.2.1 q0 4 = c) ∧ (¬ K.2.2.1 q0 5 = 0 → (nadd K1 q0 c).2.2.1 q0 4 = K.2.2.1 q0 4 ∧ (nadd K1 q0 c).2.2.1 ql 6 = c) ∧ (nadd K1 q0 c).2.1 21 = K1.2.1 21 := by
  have q0lt := hq0.2.1
  have q086 := hq0.1
  have kle := k.1
  have e5 : K1.2.2.1 q0 5 = K.2.2.1 q0 5 := k.2.2.2.2.2.1 q0 q0lt 5 (Or.inl (by omega)) (Or.inl (by omega))
  have e4 : K1.2.2.1 q0 4 = K.2.2.1 q0 4 := k.2.2.2.2.2.1 q0 q0lt 4 (Or.inl (by omega)) (Or.inl (by omega))
  have e3 : K1.2.1 q0 3 = K.2.1 q0 3 := k.2.2.2.1 q0 q0lt (by omega) 3 (Or.inl (by omega))
  have nq1 : nd K1 q0 9 := k.nd hq0
  have nql1 : ¬ K1.2.2.1 q0 5 = 0 → nd K1 (K1.2.2.1 q0 5) 9 := fun h => by
    rw [e5] at h ⊢
    rcases hlast with ⟨h', -⟩ | ⟨h', -, h''⟩
    · exact absurd h' h
    · rw [h']; exact k.nd h''
  obtain ⟨K2, hK2⟩ : ∃ K2 : cp_K, K2 = nadd K1 q0 c := ⟨_, rfl⟩
  obtain ⟨qx, hqx, hqx2, hqx3⟩ : ∃ qx, (qx = ql ∨ K.1.1 ≤ qx) ∧ (qx < K.1.1 ∨ K1.1.1 ≤ qx) ∧ (K1.2.2.1 q0 5 = 0 ∨ (K1.2.2.1 q0 5 = qx ∧ qx ≠ q0)) := by
    rcases hlast with ⟨h, -⟩ | ⟨h, h', h''⟩
    · exact ⟨K1.1.1, Or.inr (by omega), Or.inr (Nat.le_refl _), Or.inl (e5.trans h)⟩
    · exact ⟨ql, Or.inl rfl, Or.inl h''.2.1, Or.inr ⟨e5.trans h, by omega⟩⟩
  have kx2 : KRX q0 qx K1 K2 := by rw [hK2]; exact KRX_nadd nq1 hqx3
  have n2 : K2.1.1 = K1.1.1 := by rw [hK2, na_n]
  have k02 : KRX q0 ql K K2 := (KRX.trans (KRX.refl (q0 := q0) (ql := ql)) k (Or.inr (Nat.le_refl _)) (Or.inr (Nat.le_refl _))).trans kx2 (Or.inl rfl) hqx
  have hor : K1.2.2.1 q0 5 ≠ q0 ∨ K1.2.2.1 q0 5 = 0 := by
    rcases hqx3 with h | h
    · exact Or.inr h
    · exact Or.inl (by rw [h.1]; exact h.2)
  rw [← hK2]
  refine ⟨⟨nq1, nql1⟩, k02, ⟨qx, hqx2, kx2⟩, n2, ?_, ?_, fun h => ?_, fun h => ?_, ?_⟩
  · rw [hK2, na_ip, if_pos rfl, e3]
  · rw [hK2, na_rp hor, if_pos rfl]
  · rw [hK2, na_rp hor, if_neg (by decide), if_pos rfl, if_pos (e5.trans h)]
  · have hne : ¬ K1.2.2.1 q0 5 = 0 := by rw [e5]; exact h
    refine ⟨by rw [hK2, na_rp hor, if_neg (by decide), if_pos rfl, if_neg hne, e4], ?_⟩
    rcases hlast with ⟨h', -⟩ | ⟨h', h'', -⟩
    · exact absurd h' h
    · have := na_rl (K := K1) (p := q0) (r := c) (f := 6) hne (by rw [e5, h']; exact h'')
      rw [if_pos rfl, e5, h'] at this
      rw [hK2]; exact this
  · rw [hK2, na_i (by omega)]
/-- only the pile has changed, from len on -/
def STO (len : Nat) (S T : cp_S) : Prop := (∀ k, k ≠ 29 → T.1 k = S.1 k) ∧ (∀ q, (q < 49 ∨ 51 < q) → T.2 q = S.2 q) ∧ ∀ q, 49 ≤ q → q ≤ 51 → ∀ x, x < len → T.2 q x = S.2 q x
theorem STO.trans {len len' : Nat} {S T U : cp_S} (h : STO len S T) (g : STO len' T U) (hl : len ≤ len') : STO len S U := ⟨fun k hk => (g.1 k hk).trans (h.1 k hk), fun q hq => (g.2.1 q hq).trans (h.2.1 q hq), fun q q1 q2 x hx => (g.2.2 q q1 q2 x (by omega)).trans (h.2.2 q q1 q2 x hx)⟩
theorem STO.wk {len len' : Nat} {S T : cp_S} (h : STO len S T) (hl : len' ≤ len) : STO len' S T := ⟨h.1, h.2.1, fun q q1 q2 x hx => h.2.2 q q1 q2 x (by omega)⟩
theorem SPO.sto {len : Nat} {S T : cp_S} (h : SPO S T) : STO len S T := ⟨h.1, fun q _ => by rw [h.2], fun q _ _ x _ => by rw [h.2]⟩
theorem psh_sto {S : cp_S} {len k : Nat} {w x y : Int32} (h : len ≤ k) : STO len S (pshS S k w x y) := ⟨fun q hq => psh_1 hq, fun q hq => psh_2 hq, fun q q1 q2 z hz => psh_lo (by omega) q1 q2⟩
theorem STO.rfy {rf n1 len P : Nat} {S T : cp_S} (h : STO len S T) : RFY rf n1 len P S T := ⟨fun k _ k2 _ _ => h.1 k k2, fun q hq => h.2.1 q (by omega), fun q q1 q2 x _ => by rw [h.2.1 q (by omega)], fun x _ => by rw [h.2.1 42 (by omega)], fun q q1 q2 x _ => by rw [h.2.1 q (by omega)], fun q q1 q2 x hx => h.2.2 q q1 q2 x hx⟩
theorem STO.rfx {rf n1 len i0 : Nat} {S T : cp_S} (h : STO len S T) : RFX rf n1 len i0 S T := ⟨fun k _ k2 => h.1 k k2, fun q hq => h.2.1 q (by omega), fun q q1 q2 x _ _ => by rw [h.2.1 q (by omega)], fun x _ => by rw [h.2.1 42 (by omega)], fun q q1 q2 x hx => h.2.2 q q1 q2 x hx⟩
section CPTE
variable {S T : cp_S} {x2 x3 x4 x5 r : Int32}
theorem td_204 (w : MC 2 m_M_beginPart [.int x4, .int x5, .int x2] S (some (.int r)) T) (h : r = 0 ∨ r = 1) : MC 3 m_M_takeDeclared [.int 204, .int x2, .int x3, .int x4, .int x5] S (some (.int r)) T := c_M_takeDeclared (b_M_takeDeclared_0 ⟨fun q => absurd q (by decide), fun q => absurd q (by decide), fun q => absurd q (by decide), fun q => absurd q (by decide), fun _ => ⟨r, T, w, rfl, rfl, nb h⟩, fun q => absurd q (by decide), fun q => absurd q (by decide), fun q => absurd q (by decide), fun q => absurd rfl (q 204 (by decide))⟩)
theorem td_203p (h4 : ¬ x4 = 62) (w : MC 2 m_M_beginPart [.int x4, .int x5, .int 0] S (some (.int r)) T) (h : r = 0 ∨ r = 1) : MC 3 m_M_takeDeclared [.int 203, .int x2, .int x3, .int x4, .int x5] S (some (.int r)) T := c_M_takeDeclared (b_M_takeDeclared_0 ⟨fun q => absurd q (by decide), fun q => absurd q (by decide), fun q => absurd q (by decide), fun _ => ⟨fun _ => ⟨r, T, w, rfl, rfl, nb h⟩, fun q => absurd q h4⟩, fun q => absurd q (by decide), fun q => absurd q (by decide), fun q => absurd q (by decide), fun q => absurd q (by decide), fun q => absurd rfl (q 203 (by decide))⟩)
theorem td_203r (h4 : x4 = 62) (w : MC 0 m_M_push [.int 206, .int 0, .int 0] S none T) : MC 3 m_M_takeDeclared [.int 203, .int x2, .int x3, .int x4, .int x5] S (some (.int 1)) T := c_M_takeDeclared (b_M_takeDeclared_0 ⟨fun q => absurd q (by decide), fun q => absurd q (by decide), fun q => absurd q (by decide), fun _ => ⟨fun q => absurd h4 q, fun _ => ⟨T, w, rfl, rfl, rfl⟩⟩, fun q => absurd q (by decide), fun q => absurd q (by decide), fun q => absurd q (by decide), fun q => absurd q (by decide), fun q => absurd rfl (q 203 (by decide))⟩)
theorem td_205 (w : wp_M_takeDeclared_0 (some (.int r)) T S 205 x2 x3 x4 x5) : MC 3 m_M_takeDeclared [.int 205, .int x2, .int x3, .int x4, .int x5] S (some (.int r)) T := c_M_takeDeclared (b_M_takeDeclared_0 w)
theorem td_205r (h4 : x4 = 62) (w : MC 0 m_M_push [.int 206, .int 0, .int 0] S none T) : MC 3 m_M_takeDeclared [.int 205, .int x2, .int x3, .int x4, .int x5] S (some (.int 1)) T := td_205 ⟨fun q => absurd q (by decide), fun q => absurd q (by decide), fun q => absurd q (by decide), fun q => absurd q (by decide), fun q => absurd q (by decide), fun _ => ⟨fun q => absurd h4 q, fun _ => ⟨T, w, b_M_takeDeclared_208 ⟨fun _ => ⟨rfl, rfl, rfl⟩, fun q => absurd h4 q⟩⟩⟩, fun q => absurd q (by decide), fun q => absurd q (by decide), fun q => absurd rfl (q 205 (by decide))⟩
theorem td_205n (h4 : ¬ x4 = 62) (h44 : x4 = 44) (h6 : ¬ 6 ≤ x2) (w : MC 0 m_M_push [.int 204, .int x2, .int 0] S none T) : MC 3 m_M_takeDeclared [.int 205, .int x2, .int x3, .int x4, .int x5] S (some (.int 1)) T := td_205 ⟨fun q => absurd q (by decide), fun q => absurd q (by decide), fun q => absurd q (by decide), fun q => absurd q (by decide), fun q => absurd q (by decide), fun _ => ⟨fun _ => ⟨T, w, b_M_takeDeclared_208 ⟨fun q => absurd q h4, fun _ => ⟨fun q => absurd h44 q, fun _ => ⟨fun q => absurd q h6, fun _ => ⟨rfl, rfl, rfl⟩⟩⟩⟩⟩, fun q => absurd q h4⟩, fun q => absurd q (by decide), fun q => absurd q (by decide), fun q => absurd rfl (q 205 (by decide))⟩
theorem td_205f (h4 : ¬ x4 = 62) (h44 : ¬ (x4 = 44 ∧ ¬ 6 ≤ x2)) (w : MC 0 m_M_push [.int 204, .int x2, .int 0] S none T) : MC 3 m_M_takeDeclared [.int 205, .int x2, .int x3, .int x4, .int x5] S (some (.int 0)) T := td_205 ⟨fun q => absurd q (by decide), fun q => absurd q (by decide), fun q => absurd q (by decide), fun q => absurd q (by decide), fun q => absurd q (by decide), fun _ => ⟨fun _ => ⟨T, w, b_M_takeDeclared_208 ⟨fun q => absurd q h4, fun _ => ⟨fun _ => ⟨rfl, rfl, rfl⟩, fun q => ⟨fun _ => ⟨rfl, rfl, rfl⟩, fun q2 => absurd ⟨q, q2⟩ h44⟩⟩⟩⟩, fun q => absurd q h4⟩, fun q => absurd q (by decide), fun q => absurd q (by decide), fun q => absurd rfl (q 205 (by decide))⟩
theorem td_206s (h4 : x4 = 42) : MC 3 m_M_takeDeclared [.int 206, .int x2, .int x3, .int x4, .int x5] S (some (.int 1)) (va_up S.1 34 (-2), S.2) := c_M_takeDeclared (b_M_takeDeclared_0 ⟨fun q => absurd q (by decide), fun q => absurd q (by decide), fun q => absurd q (by decide), fun q => absurd q (by decide), fun q => absurd q (by decide), fun q => absurd q (by decide), fun _ => ⟨fun q => absurd h4 q, fun _ => ⟨fun _ => ⟨rfl, rfl, rfl⟩, fun q => absurd h4 q⟩⟩, fun q => absurd q (by decide), fun q => absurd rfl (q 206 (by decide))⟩)
theorem td_206t (h4 : ¬ x4 = 42) (w : MC 1 m_M_beginTerm [.int x4, .int x5, .int 2] (va_up S.1 34 (S.1 16), S.2) (some (.int r)) T) (hr : r = 0 ∨ r = 1) : MC 3 m_M_takeDeclared [.int 206, .int x2, .int x3, .int x4, .int x5] S (some (.int r)) T := c_M_takeDeclared (b_M_takeDeclared_0 ⟨fun q => absurd q (by decide), fun q => absurd q (by decide), fun q => absurd q (by decide), fun q => absurd q (by decide), fun q => absurd q (by decide), fun q => absurd q (by decide), fun _ => ⟨fun _ => ⟨fun q => absurd q h4, fun _ => ⟨r, T, w, fun q => by rw [q]; exact ⟨rfl, rfl, rfl⟩, fun q => by rw [hr.resolve_left q]; exact ⟨rfl, rfl, rfl⟩⟩⟩, fun q => absurd q h4⟩, fun q => absurd q (by decide), fun q => absurd rfl (q 206 (by decide))⟩)
end CPTE
section CPRA
variable {X : Int32 × Int32 × Int32} {n p rf n1 : Nat} {S : cp_S} {l : List cp_I}
theorem ns205 {c a b : Int32} : ¬ SKP c (205, a, b) := nsk (by show ¬ (205 : Int32) = 201; decide) (by show ¬ (205 : Int32) = 211; decide) (by show ¬ (205 : Int32) = 215; decide)
/-- AFTER -/
theorem rd_after {c t : Nat} {jk : List cp_I} (h : PS S (jk ++ (205, nI t, 0) :: l) n1 rf) (hl : (jk ++ (205, nI t, 0) :: l).length ≤ 400) (hp : p < n) (hn : n ≤ 80) (hc : S.2 27 p = nI c) (hc2 : c < 200) (hj : ∀ j ∈ jk, SKP (nI c) j) (ht : t ≤ 6) :
    (c = 62 → ∃ T, PS T ((206, 0, 0) :: l) n1 rf ∧ STO l.length S T ∧ ∀ o Sx, RD X n o Sx (p + 1) T → RD X n o Sx p S) ∧
    (¬ c = 62 → (c = 44 ∧ t < 6 → ∃ T, PS T ((204, nI t, 0) :: l) n1 rf ∧ STO l.length S T ∧ ∀ o Sx, RD X n o Sx (p + 1) T → RD X n o Sx p S) ∧ (¬ (c = 44 ∧ t < 6) → ∃ T, STO l.length S T ∧ RD X n (some (.int (nI p))) T p S)) := by
  obtain ⟨T, t1, t2, t3⟩ := tk_jk (p := p) jk S h hl hj
  have hl2 : l.length < 400 := by rw [List.length_append, List.length_cons] at hl; omega
  have st : ∀ w x y, STO l.length S (pshS (popS T l.length) l.length w x y) := fun w x y => (t2.sto.trans (pop_spo.sto (len := l.length)) (Nat.le_refl _)).trans (psh_sto (Nat.le_refl _)) (Nat.le_refl _)
  have h6 : (6 : Int32) ≤ nI t ↔ 6 ≤ t := nI_leq (a := 6) (b := t) (by omega) (by omega)
  refine ⟨fun e => ⟨pshS (popS T l.length) l.length 206 0 0, PS.push (PS.pop t1), st _ _ _, fun o Sx w => rd_step hp hn hc (t3 _ _ (tk_decl (r := 1) t1 hl2 ns205 (by show (200 : Int32) ≤ 205; decide) (by show ¬ (209 : Int32) ≤ 205; decide) (Or.inr rfl) (td_205r (by rw [e]; rfl) (MC_push (PS.pop t1) hl2)))) (fun _ => w) (fun q => absurd q (by decide))⟩, fun ne => ⟨fun e => ⟨pshS (popS T l.length) l.length 204 (nI t) 0, PS.push (PS.pop t1), st _ _ _, fun o Sx w => rd_step hp hn hc (t3 _ _ (tk_decl (r := 1) t1 hl2 ns205 (by show (200 : Int32) ≤ 205; decide) (by show ¬ (209 : Int32) ≤ 205; decide) (Or.inr rfl) (td_205n (nI_cc (a := 62) hc2 (by omega) ne) (by rw [e.1]; rfl) (fun q => by have := h6.mp q; omega) (MC_push (PS.pop t1) hl2)))) (fun _ => w) (fun q => absurd q (by decide))⟩, fun e => ⟨pshS (popS T l.length) l.length 204 (nI t) 0, st _ _ _, rd_step hp hn hc (t3 _ _ (tk_decl (r := 0) t1 hl2 ns205 (by show (200 : Int32) ≤ 205; decide) (by show ¬ (209 : Int32) ≤ 205; decide) (Or.inl rfl) (td_205f (nI_cc (a := 62) hc2 (by omega) ne) (fun q => e ⟨?_, ?_⟩) (MC_push (PS.pop t1) hl2)))) (fun q => absurd rfl q) (fun _ => ⟨rfl, rfl⟩)⟩⟩⟩
  · exact (nI_ch (a := 44) (by omega) (by omega)).mp q.1
  · exact Nat.lt_of_not_le (fun g => q.2 (h6.mpr g))
/-- ANOTHER -/
theorem rd_another {o : Option Value} {Sx : cp_S} {a : Nat} (h : PS S ((204, nI a, 0) :: l) n1 rf) (hl : l.length < 400) (hp : p < n) (hn : n ≤ 80) (w : BPK X n o Sx (popS S l.length) p a) : RD X n o Sx p S := by
  obtain ⟨r, T, w1, w2, w3, w4⟩ := w
  exact rd_step hp hn rfl (tk_decl (r := r) h hl (nsk (by show ¬ (204 : Int32) = 201; decide) (by show ¬ (204 : Int32) = 211; decide) (by show ¬ (204 : Int32) = 215; decide)) (by show (200 : Int32) ≤ 204; decide) (by show ¬ (209 : Int32) ≤ 204; decide) w2 (td_204 w1 w2)) w4 w3
end CPRA
section CPPN
variable {X : Int32 × Int32 × Int32} {tx : Nat → Nat} {n rf : Nat} {K : cp_K} {S : cp_S} {l : List cp_I} {p n1 a pk : Nat}
theorem pj_none (rj : RJ tx n rf K S l p n1) (hp : p < n) (hl : l.length ≤ 5) (nv : ¬ isV (tx p)) (n35 : ¬ tx p = 35) (nl : ¬ isL (tx p)) (n63 : ¬ tx p = 63) : PJF X n rf K S l p n1 a pk := by
  obtain ⟨⟨r1, r2, r3, r4⟩, ps, ⟨r5, r6, r7, r8, r9⟩, r10, r11⟩ := id rj
  have hc : tx p < 200 := by have := (r10 p hp).1; omega
  refine ⟨K, pshS S l.length 205 (nI (a + 1)) 0, p, c_Q_readPart (D := 52) ?_, r1, ⟨Nat.le_refl _, r6⟩, bp_no ps (by omega) (r10 p hp).2.2 hc nv n35 nl n63 ⟨rfl, rfl⟩, KRX.refl, psh_rfy (Nat.le_refl _), by omega⟩
  unfold wp_Q_readPart_0
  have e63 : ¬ qpk K = 63 := by rw [rj.pk hp]; exact nI_cc (a := 63) hc (by omega) n63
  rw [qtk_ne e63]
  rw [rj.pk hp] at e63 ⊢
  exact ⟨r3, fun q => absurd q (nI_cc (a := 35) hc (by omega) n35), fun _ => ⟨fun _ => ⟨fun _ => ⟨fun _ => ⟨rfl, rfl⟩, fun q => absurd (ife0 e63) q⟩, fun q => absurd (ifV0 hc nv) q⟩, fun q => absurd (ifL0 hc nl) q⟩⟩
theorem pj_any (rj : RJ tx n rf K S l p n1) (hp : p < n) (hl : l.length ≤ 5) (h33 : S.1 33 = nI pk) (hpk : pk < 179) : PJF X n rf K S l p n1 a pk ∨ PJO X tx n rf K S l p n1 a pk := by
  by_cases hv : isV (tx p)
  · exact pj_var rj hp hl h33 hpk hv
  by_cases hk : tx p = 35 ∨ isL (tx p)
  · exact pj_term rj hp hl h33 hpk hk
  by_cases h63 : tx p = 63
  · exact pj_cond rj hp hl h33 hpk h63
  · exact Or.inl (pj_none rj hp hl hv (fun h => hk (Or.inl h)) (fun h => hk (Or.inr h)) h63)
/-- at the end of the text there is no part -/
theorem pj_end (rj : RJ tx n rf K S l n n1) : KC 60 m_Q_readPart (fun G => [.ref (cp_b G + 21)]) K (fun G => some (va_rf (kr G 0))) K := by
  obtain ⟨⟨r1, r2, r3, r4⟩, -, -, -, -⟩ := id rj
  refine c_Q_readPart (D := 52) ?_
  unfold wp_Q_readPart_0
  have e63 : ¬ qpk K = 63 := by rw [rj.pk0]; decide
  rw [qtk_ne e63, rj.pk0]
  exact ⟨r3, fun q => absurd q (by decide), fun _ => ⟨fun _ => ⟨fun _ => ⟨fun _ => ⟨rfl, rfl⟩, fun q => absurd (by decide) q⟩, fun q => absurd (by decide) q⟩, fun q => absurd (by decide) q⟩⟩
end CPPN
