/-! ===== reading: characters, beginTerm, nodes of the class ===== -/
theorem nI_leq {a b : Nat} (ha : a < 2 ^ 31) (hb : b < 2 ^ 31) : nI a ≤ nI b ↔ a ≤ b := by
  constructor
  · intro h
    by_cases hab : a ≤ b
    · exact hab
    · exact absurd h (nI_ge (by omega) ha)
  · intro h
    exact nI_le h hb
def isV (c : Nat) : Prop := 97 ≤ c ∧ c ≤ 122
def isL (c : Nat) : Prop := 65 ≤ c ∧ c ≤ 90
def isD (c : Nat) : Prop := 48 ≤ c ∧ c ≤ 57
theorem isV_i {c : Nat} (h : c < 2 ^ 31) : (97 ≤ nI c ∧ nI c ≤ 122) ↔ isV c := by
  unfold isV
  rw [show (97 : Int32) = nI 97 from rfl, show (122 : Int32) = nI 122 from rfl, nI_leq (by omega) h, nI_leq h (by omega)]
theorem isL_i {c : Nat} (h : c < 2 ^ 31) : (65 ≤ nI c ∧ nI c ≤ 90) ↔ isL c := by
  unfold isL
  rw [show (65 : Int32) = nI 65 from rfl, show (90 : Int32) = nI 90 from rfl, nI_leq (by omega) h, nI_leq h (by omega)]
theorem isD_i {c : Nat} (h : c < 2 ^ 31) : (48 ≤ nI c ∧ nI c ≤ 57) ↔ isD c := by
  unfold isD
  rw [show (48 : Int32) = nI 48 from rfl, show (57 : Int32) = nI 57 from rfl, nI_leq (by omega) h, nI_leq h (by omega)]
theorem nI_ch {c a : Nat} (h : c < 2 ^ 31) (ha : a < 2 ^ 31) : nI c = nI a ↔ c = a := nI_eq h ha
theorem SC_V {c : Nat} {r : Int32} (h : c < 2 ^ 31) (h1 : isV c → r = 1) (h0 : ¬ isV c → r = 0) : SC m_M_isVariable [.int (nI c)] (some (.int r)) := by
  have := SC_isVariable (nI c)
  by_cases hv : isV c
  · rw [if_pos ((isV_i h).mpr hv)] at this; rw [h1 hv]; exact this
  · rw [if_neg (fun q => hv ((isV_i h).mp q))] at this; rw [h0 hv]; exact this
theorem SC_L {c : Nat} {r : Int32} (h : c < 2 ^ 31) (h1 : isL c → r = 1) (h0 : ¬ isL c → r = 0) : SC m_M_isLetter [.int (nI c)] (some (.int r)) := by
  have := SC_isLetter (nI c)
  by_cases hv : isL c
  · rw [if_pos ((isL_i h).mpr hv)] at this; rw [h1 hv]; exact this
  · rw [if_neg (fun q => hv ((isL_i h).mp q))] at this; rw [h0 hv]; exact this
theorem SC_D {c : Nat} {r : Int32} (h : c < 2 ^ 31) (h1 : isD c → r = 1) (h0 : ¬ isD c → r = 0) : SC m_M_isDigit [.int (nI c)] (some (.int r)) := by
  have := SC_isDigit (nI c)
  by_cases hv : isD c
  · rw [if_pos ((isD_i h).mpr hv)] at this; rw [h1 hv]; exact this
  · rw [if_neg (fun q => hv ((isD_i h).mp q))] at this; rw [h0 hv]; exact this
theorem bb_odd : ∀ d : Fin 10, ∀ o : Fin 2, nI (2 * d.val + o.val) - nI (2 * d.val + o.val) / 2 * 2 = nI o.val ∧ (nI (2 * d.val + o.val) / 2 = 8 ↔ d.val = 8) := by decide
theorem bb_o {d o : Nat} (hd : d < 10) (ho : o < 2) : nI (2 * d + o) - nI (2 * d + o) / 2 * 2 = nI o := (bb_odd ⟨d, hd⟩ ⟨o, ho⟩).1
theorem bb_8 {d o : Nat} (hd : d < 10) (ho : o < 2) : nI (2 * d + o) / 2 = 8 ↔ d = 8 := (bb_odd ⟨d, hd⟩ ⟨o, ho⟩).2
section CPBT
variable {S : cp_S} {l : List cp_I} {n1 rf c d o : Nat} {p : Int32}
/-- a term begins -/
theorem MC_bt_s {x v : Int32} (h : PS S l n1 rf) (hn : n1 < 2720) (hr : rf ≤ n1) (hr2 : n1 - rf < 82) (hc : c < 200) (hd : d < 10) (ho : o < 2) (hk : (isV c ∧ x = 1 ∧ v = nI (c - 97)) ∨ (isD c ∧ x = 2 ∧ v = nI (c - 48)) ∨ (c = 35 ∧ x = 3 ∧ v = 0) ∨ (c = 95 ∧ o = 1 ∧ x = 4 ∧ v = 0)) : MC 1 m_M_beginTerm [.int (nI c), .int p, .int (nI (2 * d + o))] S (some (.int 1)) (ndS S n1 rf x v p) := by
  have hnd : ∀ x v, MC 0 m_M_node [.int x, .int v, .int p] S (some (.int (nI n1))) (ndS S n1 rf x v p) := fun x v => MC_node h hn hr hr2
  refine c_M_beginTerm (b_M_beginTerm_0 ?_)
  rcases hk with ⟨hv, rfl, rfl⟩ | ⟨hv, rfl, rfl⟩ | ⟨rfl, rfl, rfl⟩ | ⟨rfl, rfl, rfl, rfl⟩
  · refine ⟨1, SC_V (by omega) (fun _ => rfl) (fun q => absurd hv q), fun _ => b_M_beginTerm_14 ⟨1, SC_V (by omega) (fun _ => rfl) (fun q => absurd hv q), fun q => absurd q (by decide), fun _ => ⟨1, SC_V (by omega) (fun _ => rfl) (fun q => absurd hv q), fun q => absurd q (by decide), fun _ => ⟨nI n1, _, ?_, rfl, rfl, rfl⟩⟩⟩, fun q => absurd q (by decide)⟩
    rw [show nI c - 97 = nI (c - 97) from pk_sub (a := c) (b := 97) hv.1]
    exact hnd _ _
  · have nv : ¬ isV c := fun q => by have := q.1; have := hv.2; omega
    refine ⟨0, SC_V (by omega) (fun q => absurd q nv) (fun _ => rfl), fun q => absurd rfl q, fun _ => ⟨1, SC_D (by omega) (fun _ => rfl) (fun q => absurd hv q), fun q => absurd q (by decide), fun _ => b_M_beginTerm_14 ⟨0, SC_V (by omega) (fun q => absurd q nv) (fun _ => rfl), fun _ => ⟨0, SC_V (by omega) (fun q => absurd q nv) (fun _ => rfl), fun _ => ⟨nI n1, _, ?_, rfl, rfl, rfl⟩, fun q => absurd rfl q⟩, fun q => absurd rfl q⟩⟩⟩
    rw [show nI c - 48 = nI (c - 48) from pk_sub (a := c) (b := 48) hv.1]
    exact hnd _ _
  · refine ⟨0, SC_V (by omega) (fun q => absurd q.1 (by omega)) (fun _ => rfl), fun q => absurd rfl q, fun _ => ⟨0, SC_D (by omega) (fun q => absurd q.1 (by omega)) (fun _ => rfl), fun _ => ⟨fun _ => b_M_beginTerm_71 ⟨fun q => absurd rfl q, fun _ => ⟨nI n1, _, hnd _ _, rfl, rfl, rfl⟩⟩, fun q => absurd rfl q⟩, fun q => absurd rfl q⟩⟩
  · refine ⟨0, SC_V (by omega) (fun q => absurd q.1 (by omega)) (fun _ => rfl), fun q => absurd rfl q, fun _ => ⟨0, SC_D (by omega) (fun q => absurd q.2 (by omega)) (fun _ => rfl), fun _ => ⟨fun q => absurd q (by decide), fun _ => ⟨fun q => absurd rfl q, fun _ => ⟨fun q => absurd ?_ q, fun _ => b_M_beginTerm_71 ⟨fun _ => ⟨nI n1, _, hnd _ _, rfl, rfl, rfl⟩, fun q => absurd q (by decide)⟩⟩⟩⟩, fun q => absurd rfl q⟩⟩
    rw [bb_o hd (by omega)]; rfl
theorem bt_91 {c d o : Nat} {r : Option Value} {S' : cp_S} (hc : c < 200) (hd : d < 10) (ho : o < 2) (nv : ¬ isV c) (nd : ¬ isD c) (n35 : ¬ c = 35) (n95 : ¬ (c = 95 ∧ o = 1)) (w : JJ 1 m_M_beginTerm r S' 91 [(1, .int (nI c)), (2, .int p), (3, .int (nI (2 * d + o)))] S) : MC 1 m_M_beginTerm [.int (nI c), .int p, .int (nI (2 * d + o))] S r S' := by
  refine c_M_beginTerm (b_M_beginTerm_0 ⟨0, SC_V (by omega) (fun q => absurd q nv) (fun _ => rfl), fun q => absurd rfl q, fun _ => ⟨0, SC_D (by omega) (fun q => absurd q nd) (fun _ => rfl), fun _ => ⟨fun q => absurd ((nI_ch (a := 35) (by omega) (by omega)).mp q) n35, fun _ => ⟨fun _ => w, fun q95 => ⟨fun _ => w, fun q => ?_⟩⟩⟩, fun q => absurd rfl q⟩⟩)
  have h95 : c = 95 := (nI_ch (a := 95) (by omega) (by omega)).mp q95
  rw [bb_o hd ho] at q
  exact absurd ⟨h95, (nI_ch (a := 1) (by omega) (by omega)).mp q⟩ n95
theorem MC_bt_l (h : PS S l n1 rf) (hl : l.length < 400) (hn : n1 < 2720) (hr : rf ≤ n1) (hr2 : n1 - rf < 82) (hd : d < 10) (ho : o < 2) (hc : isL c) : MC 1 m_M_beginTerm [.int (nI c), .int p, .int (nI (2 * d + o))] S (some (.int 1)) (pshS (ndS S n1 rf 5 (nI (c - 65)) p) l.length 201 (nI n1) (nI (2 * d + o))) := by
  have h1 := hc.1
  have h2 := hc.2
  refine bt_91 (by omega) hd ho (fun q => by have := q.1; omega) (fun q => by have := q.2; omega) (by omega) (fun q => by have := q.1; omega) (b_M_beginTerm_91 ⟨1, SC_L (by omega) (fun _ => rfl) (fun q => absurd hc q), fun q => absurd q (by decide), fun _ => ⟨nI n1, _, ?_, _, MC_push h.node hl, rfl, rfl, rfl⟩⟩)
  rw [show nI c - 65 = nI (c - 65) from pk_sub (a := c) (b := 65) hc.1]
  exact MC_node h hn hr hr2
theorem MC_bt_no (hc : c < 200) (hd : d < 10) (ho : o < 2) (nv : ¬ isV c) (nd : ¬ isD c) (n35 : ¬ c = 35) (n95 : ¬ (c = 95 ∧ o = 1)) (nl : ¬ isL c) : MC 1 m_M_beginTerm [.int (nI c), .int p, .int (nI (2 * d + o))] S (some (.int 0)) S :=
  bt_91 hc hd ho nv nd n35 n95 (b_M_beginTerm_91 ⟨0, SC_L (by omega) (fun q => absurd q nl) (fun _ => rfl), fun _ => ⟨rfl, rfl, rfl⟩, fun q => absurd rfl q⟩)
end CPBT
/-! the class's nodes -/
section CPQN
variable {K : cp_K} {x y : Int32} {q p r : Nat}
theorem ql_n : (qlf K x y).1.1 = K.1.1 + 1 := rfl
theorem ql_t (h : q < K.1.1) : (qlf K x y).1.2 q = K.1.2 q := by
  show va_up K.1.2 K.1.1 9 q = _
  rw [cp_up_ne (by omega)]
theorem ql_ts : (qlf K x y).1.2 K.1.1 = 9 := by
  show va_up K.1.2 K.1.1 9 K.1.1 = _
  rw [va_up_at]
theorem ql_i (h1 : q ≠ 21) (h2 : q ≠ K.1.1) : (qlf K x y).2.1 q = K.2.1 q := by
  unfold qlf ninit kN kI kP
  simp only [cp_up_ne h1, cp_up_ne h2]
theorem ql_21 {f : Nat} (h86 : 86 ≤ K.1.1) : (qlf K x y).2.1 21 f = if f = 2 then K.2.1 21 2 + 1 else K.2.1 21 f := by
  unfold qlf ninit kN kI kP
  simp only [va_up_at, cp_up_ne (show 21 ≠ K.1.1 by omega)]
  by_cases hf : f = 2
  · rw [if_pos hf, hf, va_up_at]
  · rw [if_neg hf, cp_up_ne hf]
theorem ql_new (h86 : 86 ≤ K.1.1) : (qlf K x y).2.1 K.1.1 0 = x ∧ (qlf K x y).2.1 K.1.1 1 = y ∧ (qlf K x y).2.1 K.1.1 2 = K.2.1 21 2 ∧ (qlf K x y).2.1 K.1.1 3 = 0 := by
  unfold qlf ninit kN kI kP
  simp only [va_up_at, cp_up_ne (show K.1.1 ≠ 21 by omega)]
  refine ⟨?_, ?_, ?_, ?_⟩ <;> simp [va_up]
theorem ql_r (h2 : q ≠ K.1.1) : (qlf K x y).2.2.1 q = K.2.2.1 q := by
  unfold qlf ninit kN kI kP
  simp only [cp_up_ne h2]
theorem ql_rn {f : Nat} : (qlf K x y).2.2.1 K.1.1 f = 0 := by
  unfold qlf ninit kN kI kP
  simp [va_up]
theorem ql_w : (qlf K x y).2.2.2 = K.2.2.2 := rfl
theorem na_n : (nadd K p r).1 = K.1 := by unfold nadd; split <;> rfl
theorem na_w : (nadd K p r).2.2.2 = K.2.2.2 := by unfold nadd; split <;> rfl
theorem na_i (h : q ≠ p) : (nadd K p r).2.1 q = K.2.1 q := by
  unfold nadd
  split <;> exact cp_up_ne h
theorem na_ip {f : Nat} : (nadd K p r).2.1 p f = if f = 3 then K.2.1 p 3 + 1 else K.2.1 p f := by
  have : (nadd K p r).2.1 p = va_up (K.2.1 p) 3 (K.2.1 p 3 + 1) := by
    unfold nadd
    split <;> exact va_up_at
  rw [this]
  by_cases hf : f = 3
  · rw [if_pos hf, hf, va_up_at]
  · rw [if_neg hf, cp_up_ne hf]
theorem na_r (h1 : q ≠ p) (h2 : q ≠ K.2.2.1 p 5 ∨ K.2.2.1 p 5 = 0) : (nadd K p r).2.2.1 q = K.2.2.1 q := by
  unfold nadd
  by_cases h0 : K.2.2.1 p 5 = 0
  · rw [if_pos h0]
    unfold kI kP
    simp only [cp_up_ne h1]
  · rw [if_neg h0]
    unfold kI kP
    have : q ≠ K.2.2.1 p 5 := h2.resolve_right h0
    simp only [cp_up_ne h1, cp_up_ne this]
theorem na_rl {f : Nat} (h0 : ¬ K.2.2.1 p 5 = 0) (h1 : K.2.2.1 p 5 ≠ p) : (nadd K p r).2.2.1 (K.2.2.1 p 5) f = if f = 6 then r else K.2.2.1 (K.2.2.1 p 5) f := by
  unfold nadd
  rw [if_neg h0]
  unfold kI kP
  simp only [cp_up_ne h1, va_up_at]
  by_cases hf : f = 6
  · rw [if_pos hf, hf, va_up_at]
  · rw [if_neg hf, cp_up_ne hf]
theorem na_rp {f : Nat} (h1 : K.2.2.1 p 5 ≠ p ∨ K.2.2.1 p 5 = 0) : (nadd K p r).2.2.1 p f = if f = 5 then r else if f = 4 then (if K.2.2.1 p 5 = 0 then r else K.2.2.1 p 4) else K.2.2.1 p f := by
  unfold nadd
  by_cases h0 : K.2.2.1 p 5 = 0
  · rw [if_pos h0]
    unfold kI kP
    simp only [va_up_at]
    by_cases hf : f = 5
    · rw [if_pos hf, hf, va_up_at]
    · rw [if_neg hf, cp_up_ne hf]
      by_cases hf4 : f = 4
      · rw [if_pos hf4, hf4, va_up_at, if_pos h0]
      · rw [if_neg hf4, cp_up_ne hf4]
  · rw [if_neg h0]
    have h1 : K.2.2.1 p 5 ≠ p := h1.resolve_right h0
    unfold kI kP
    simp only [va_up_at, cp_up_ne (Ne.symm h1)]
    by_cases hf : f = 5
    · rw [if_pos hf, hf, va_up_at]
    · rw [if_neg hf, cp_up_ne hf]
      by_cases hf4 : f = 4
      · rw [if_pos hf4, hf4, if_neg h0]
      · rw [if_neg hf4]
theorem qtk_eq {p : Nat} {c : Int32} (h : qpk K = c) : qtk K c = kI K 21 2 (K.2.1 21 2 + 1) := by unfold qtk; rw [if_pos h]
theorem qtk_ne {c : Int32} (h : ¬ qpk K = c) : qtk K c = K := by unfold qtk; rw [if_neg h]
end CPQN
