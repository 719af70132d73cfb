/-! ===== reading codes: the reference's steps ===== -/
section CPTF
variable {S T : cp_S} {x2 x3 x4 x5 r : Int32}
theorem tc_code (w : MC 1 m_M_beginCode [.int x4, .int x5, .int x2] S (some (.int r)) T) (h : r = 0 ∨ r = 1) : MC 2 m_M_takeCoded [.int 210, .int x2, .int x3, .int x4, .int x5] S (some (.int r)) T := c_M_takeCoded (b_M_takeCoded_0 ⟨fun q => absurd q (by decide), fun _ => ⟨r, T, w, rfl, rfl, nb h⟩, fun q => absurd q (by decide), fun q => absurd q (by decide), fun q => absurd q (by decide), fun q => absurd q (by decide), fun q => absurd q (by decide), fun q => absurd q (by decide), fun q => absurd q (by decide), fun q => absurd rfl (q 210 (by decide))⟩)
theorem tc_mcode {T8 : cp_S} (v : vp_in x2 (cp_ml 41)) (w1 : MC 0 m_M_push [.int 212, .int x2, .int x3] (S.1, (va_up S.2 41 (upd (S.2 41) (Int32.toNatClampNeg x2) 1))) none T8) (w2 : MC 0 m_M_push [.int 210, .int (x3 + 1), .int 0] T8 none T) : MC 2 m_M_takeCoded [.int 211, .int x2, .int x3, .int x4, .int x5] S (some (.int 1)) T := c_M_takeCoded (b_M_takeCoded_0 ⟨fun q => absurd q (by decide), fun q => absurd q (by decide), fun _ => ⟨v, T8, w1, T, w2, rfl, rfl, rfl⟩, fun q => absurd q (by decide), fun q => absurd q (by decide), fun q => absurd q (by decide), fun q => absurd q (by decide), fun q => absurd q (by decide), fun q => absurd q (by decide), fun q => absurd rfl (q 211 (by decide))⟩)
theorem tc_212c (h : x4 = 41) : MC 2 m_M_takeCoded [.int 212, .int x2, .int x3, .int x4, .int x5] S (some (.int 1)) S := c_M_takeCoded (b_M_takeCoded_0 ⟨fun q => absurd q (by decide), fun q => absurd q (by decide), fun q => absurd q (by decide), fun _ => ⟨fun q => absurd h q, fun _ => ⟨rfl, rfl, rfl⟩⟩, fun q => absurd q (by decide), fun q => absurd q (by decide), fun q => absurd q (by decide), fun q => absurd q (by decide), fun q => absurd q (by decide), fun q => absurd rfl (q 212 (by decide))⟩)
theorem tc_212f (h : ¬ x4 = 41) (v : vp_in x2 (cp_ml 41)) (h6 : S.2 41 (Int32.toNatClampNeg x2) = 6) : MC 2 m_M_takeCoded [.int 212, .int x2, .int x3, .int x4, .int x5] S (some (.int 0)) S := c_M_takeCoded (b_M_takeCoded_0 ⟨fun q => absurd q (by decide), fun q => absurd q (by decide), fun q => absurd q (by decide), fun _ => ⟨fun _ => ⟨v, fun q => absurd h6 q, fun _ => ⟨rfl, rfl, rfl⟩⟩, fun q => absurd q h⟩, fun q => absurd q (by decide), fun q => absurd q (by decide), fun q => absurd q (by decide), fun q => absurd q (by decide), fun q => absurd q (by decide), fun q => absurd rfl (q 212 (by decide))⟩)
theorem tc_212n {T15 : cp_S} (h : ¬ x4 = 41) (v : vp_in x2 (cp_ml 41)) (h6 : ¬ S.2 41 (Int32.toNatClampNeg x2) = 6) (w1 : MC 0 m_M_push [.int 212, .int x2, .int x3] (S.1, (va_up S.2 41 (upd (S.2 41) (Int32.toNatClampNeg x2) (((S.2 41) (Int32.toNatClampNeg x2)) + 1)))) none T15) (w2 : MC 1 m_M_beginCode [.int x4, .int x5, .int (x3 + 1)] T15 (some (.int r)) T) (hr : r = 0 ∨ r = 1) : MC 2 m_M_takeCoded [.int 212, .int x2, .int x3, .int x4, .int x5] S (some (.int r)) T := c_M_takeCoded (b_M_takeCoded_0 ⟨fun q => absurd q (by decide), fun q => absurd q (by decide), fun q => absurd q (by decide), fun _ => ⟨fun _ => ⟨v, fun _ => ⟨v, v, T15, w1, r, T, w2, rfl, rfl, nb hr⟩, fun q => absurd q h6⟩, fun q => absurd q h⟩, fun q => absurd q (by decide), fun q => absurd q (by decide), fun q => absurd q (by decide), fun q => absurd q (by decide), fun q => absurd q (by decide), fun q => absurd rfl (q 212 (by decide))⟩)
theorem tc_213c (h : x4 = 125) (v : vp_in x2 (cp_ml 41)) (h6 : ¬ S.2 41 (Int32.toNatClampNeg x2) ≤ 0) : MC 2 m_M_takeCoded [.int 213, .int x2, .int x3, .int x4, .int x5] S (some (.int 1)) S := c_M_takeCoded (b_M_takeCoded_0 ⟨fun q => absurd q (by decide), fun q => absurd q (by decide), fun q => absurd q (by decide), fun q => absurd q (by decide), fun _ => ⟨fun q => absurd h q, fun _ => ⟨v, fun q => absurd q h6, fun _ => ⟨rfl, rfl, rfl⟩⟩⟩, fun q => absurd q (by decide), fun q => absurd q (by decide), fun q => absurd q (by decide), fun q => absurd q (by decide), fun q => absurd rfl (q 213 (by decide))⟩)
theorem tc_213z (h : x4 = 125) (v : vp_in x2 (cp_ml 41)) (h6 : S.2 41 (Int32.toNatClampNeg x2) ≤ 0) : MC 2 m_M_takeCoded [.int 213, .int x2, .int x3, .int x4, .int x5] S (some (.int 0)) S := c_M_takeCoded (b_M_takeCoded_0 ⟨fun q => absurd q (by decide), fun q => absurd q (by decide), fun q => absurd q (by decide), fun q => absurd q (by decide), fun _ => ⟨fun q => absurd h q, fun _ => ⟨v, fun _ => ⟨rfl, rfl, rfl⟩, fun q => absurd h6 q⟩⟩, fun q => absurd q (by decide), fun q => absurd q (by decide), fun q => absurd q (by decide), fun q => absurd q (by decide), fun q => absurd rfl (q 213 (by decide))⟩)
theorem tc_213o (h : ¬ x4 = 125) (h2 : ¬ x4 = 124) : MC 2 m_M_takeCoded [.int 213, .int x2, .int x3, .int x4, .int x5] S (some (.int 0)) S := c_M_takeCoded (b_M_takeCoded_0 ⟨fun q => absurd q (by decide), fun q => absurd q (by decide), fun q => absurd q (by decide), fun q => absurd q (by decide), fun _ => ⟨fun _ => ⟨fun _ => ⟨rfl, rfl, rfl⟩, fun q => absurd q h2⟩, fun q => absurd q h⟩, fun q => absurd q (by decide), fun q => absurd q (by decide), fun q => absurd q (by decide), fun q => absurd q (by decide), fun q => absurd rfl (q 213 (by decide))⟩)
theorem tc_213f (h : ¬ x4 = 125) (h2 : x4 = 124) (v : vp_in x2 (cp_ml 41)) (h6 : S.2 41 (Int32.toNatClampNeg x2) = 5) : MC 2 m_M_takeCoded [.int 213, .int x2, .int x3, .int x4, .int x5] S (some (.int 0)) S := c_M_takeCoded (b_M_takeCoded_0 ⟨fun q => absurd q (by decide), fun q => absurd q (by decide), fun q => absurd q (by decide), fun q => absurd q (by decide), fun _ => ⟨fun _ => ⟨fun q => absurd h2 q, fun _ => ⟨v, fun q => absurd h6 q, fun _ => ⟨rfl, rfl, rfl⟩⟩⟩, fun q => absurd q h⟩, fun q => absurd q (by decide), fun q => absurd q (by decide), fun q => absurd q (by decide), fun q => absurd q (by decide), fun q => absurd rfl (q 213 (by decide))⟩)
theorem tc_213n {T23 T25 T27 : cp_S} (h : ¬ x4 = 125) (h2 : x4 = 124) (v : vp_in x2 (cp_ml 41)) (h6 : ¬ S.2 41 (Int32.toNatClampNeg x2) = 5) (w1 : MC 0 m_M_push [.int 213, .int x2, .int x3] (S.1, (va_up S.2 41 (upd (S.2 41) (Int32.toNatClampNeg x2) (((S.2 41) (Int32.toNatClampNeg x2)) + 1)))) none T23) (w2 : MC 0 m_M_push [.int 210, .int (x3 + 1), .int 0] T23 none T25) (w3 : MC 0 m_M_push [.int 62, .int 0, .int 0] T25 none T27) (w4 : MC 0 m_M_push [.int 214, .int 0, .int 0] T27 none T) : MC 2 m_M_takeCoded [.int 213, .int x2, .int x3, .int x4, .int x5] S (some (.int 1)) T := c_M_takeCoded (b_M_takeCoded_0 ⟨fun q => absurd q (by decide), fun q => absurd q (by decide), fun q => absurd q (by decide), fun q => absurd q (by decide), fun _ => ⟨fun _ => ⟨fun q => absurd h2 q, fun _ => ⟨v, fun _ => ⟨v, v, T23, w1, T25, w2, T27, w3, T, w4, rfl, rfl, rfl⟩, fun q => absurd q h6⟩⟩, fun q => absurd q h⟩, fun q => absurd q (by decide), fun q => absurd q (by decide), fun q => absurd q (by decide), fun q => absurd q (by decide), fun q => absurd rfl (q 213 (by decide))⟩)
theorem tc_pat (w : MC 1 m_M_beginPattern [.int x4, .int x5] S (some (.int r)) T) (h : r = 0 ∨ r = 1) : MC 2 m_M_takeCoded [.int 214, .int x2, .int x3, .int x4, .int x5] S (some (.int r)) T := c_M_takeCoded (b_M_takeCoded_0 ⟨fun q => absurd q (by decide), fun q => absurd q (by decide), fun q => absurd q (by decide), fun q => absurd q (by decide), fun q => absurd q (by decide), fun _ => ⟨r, T, w, rfl, rfl, nb h⟩, fun q => absurd q (by decide), fun q => absurd q (by decide), fun q => absurd q (by decide), fun q => absurd rfl (q 214 (by decide))⟩)
theorem tc_215 (w : MC 0 m_M_push [.int 216, .int x2, .int 0] S none T) : MC 2 m_M_takeCoded [.int 215, .int x2, .int x3, .int x4, .int x5] S (some (.int 1)) T := c_M_takeCoded (b_M_takeCoded_0 ⟨fun q => absurd q (by decide), fun q => absurd q (by decide), fun q => absurd q (by decide), fun q => absurd q (by decide), fun q => absurd q (by decide), fun q => absurd q (by decide), fun _ => ⟨T, w, rfl, rfl, rfl⟩, fun q => absurd q (by decide), fun q => absurd q (by decide), fun q => absurd rfl (q 215 (by decide))⟩)
theorem tc_216c (h : x4 = 41) (v : vp_in x2 (cp_ml 41)) (h6 : ¬ S.2 41 (Int32.toNatClampNeg x2) ≤ 0) : MC 2 m_M_takeCoded [.int 216, .int x2, .int x3, .int x4, .int x5] S (some (.int 1)) S := c_M_takeCoded (b_M_takeCoded_0 ⟨fun q => absurd q (by decide), fun q => absurd q (by decide), fun q => absurd q (by decide), fun q => absurd q (by decide), fun q => absurd q (by decide), fun q => absurd q (by decide), fun q => absurd q (by decide), fun _ => ⟨fun q => absurd h q, fun _ => ⟨v, fun q => absurd q h6, fun _ => ⟨rfl, rfl, rfl⟩⟩⟩, fun q => absurd q (by decide), fun q => absurd rfl (q 216 (by decide))⟩)
theorem tc_216z (h : x4 = 41) (v : vp_in x2 (cp_ml 41)) (h6 : S.2 41 (Int32.toNatClampNeg x2) ≤ 0) : MC 2 m_M_takeCoded [.int 216, .int x2, .int x3, .int x4, .int x5] S (some (.int 0)) S := c_M_takeCoded (b_M_takeCoded_0 ⟨fun q => absurd q (by decide), fun q => absurd q (by decide), fun q => absurd q (by decide), fun q => absurd q (by decide), fun q => absurd q (by decide), fun q => absurd q (by decide), fun q => absurd q (by decide), fun _ => ⟨fun q => absurd h q, fun _ => ⟨v, fun _ => ⟨rfl, rfl, rfl⟩, fun q => absurd h6 q⟩⟩, fun q => absurd q (by decide), fun q => absurd rfl (q 216 (by decide))⟩)
theorem tc_216o (h : ¬ x4 = 41) (h2 : SC m_M_isVariable [.int x4] (some (.int 0))) : MC 2 m_M_takeCoded [.int 216, .int x2, .int x3, .int x4, .int x5] S (some (.int 0)) S := c_M_takeCoded (b_M_takeCoded_0 ⟨fun q => absurd q (by decide), fun q => absurd q (by decide), fun q => absurd q (by decide), fun q => absurd q (by decide), fun q => absurd q (by decide), fun q => absurd q (by decide), fun q => absurd q (by decide), fun _ => ⟨fun _ => ⟨0, h2, fun _ => ⟨rfl, rfl, rfl⟩, fun q => absurd rfl q⟩, fun q => absurd q h⟩, fun q => absurd q (by decide), fun q => absurd rfl (q 216 (by decide))⟩)
theorem tc_216f (h : ¬ x4 = 41) (h2 : SC m_M_isVariable [.int x4] (some (.int 1))) (v : vp_in x2 (cp_ml 41)) (h6 : S.2 41 (Int32.toNatClampNeg x2) = 6) : MC 2 m_M_takeCoded [.int 216, .int x2, .int x3, .int x4, .int x5] S (some (.int 0)) S := c_M_takeCoded (b_M_takeCoded_0 ⟨fun q => absurd q (by decide), fun q => absurd q (by decide), fun q => absurd q (by decide), fun q => absurd q (by decide), fun q => absurd q (by decide), fun q => absurd q (by decide), fun q => absurd q (by decide), fun _ => ⟨fun _ => ⟨1, h2, fun q => absurd q (by decide), fun _ => ⟨v, fun q => absurd h6 q, fun _ => ⟨rfl, rfl, rfl⟩⟩⟩, fun q => absurd q h⟩, fun q => absurd q (by decide), fun q => absurd rfl (q 216 (by decide))⟩)
theorem tc_216n {T40 : cp_S} {r41 : Int32} (h : ¬ x4 = 41) (h2 : SC m_M_isVariable [.int x4] (some (.int 1))) (v : vp_in x2 (cp_ml 41)) (h6 : ¬ S.2 41 (Int32.toNatClampNeg x2) = 6) (w1 : MC 0 m_M_node [.int 14, .int (x4 - 97), .int x5] S (some (.int r41)) T40) (w2 : MC 0 m_M_push [.int 216, .int x2, .int 0] (T40.1, (va_up T40.2 41 (upd (T40.2 41) (Int32.toNatClampNeg x2) (((T40.2 41) (Int32.toNatClampNeg x2)) + 1)))) none T) : MC 2 m_M_takeCoded [.int 216, .int x2, .int x3, .int x4, .int x5] S (some (.int 1)) T := c_M_takeCoded (b_M_takeCoded_0 ⟨fun q => absurd q (by decide), fun q => absurd q (by decide), fun q => absurd q (by decide), fun q => absurd q (by decide), fun q => absurd q (by decide), fun q => absurd q (by decide), fun q => absurd q (by decide), fun _ => ⟨fun _ => ⟨1, h2, fun q => absurd q (by decide), fun _ => ⟨v, fun _ => ⟨r41, T40, w1, v, v, T, w2, rfl, rfl, rfl⟩, fun q => absurd q h6⟩⟩, fun q => absurd q h⟩, fun q => absurd q (by decide), fun q => absurd rfl (q 216 (by decide))⟩)
theorem tc_217 (v : vp_in x2 (cp_ml 40)) (h : (x4 = 61 ∨ x4 = 60) ∧ r = 1 ∨ (¬ x4 = 61 ∧ ¬ x4 = 60) ∧ r = 0) : MC 2 m_M_takeCoded [.int 217, .int x2, .int x3, .int x4, .int x5] S (some (.int r)) (S.1, (va_up S.2 40 (upd (S.2 40) (Int32.toNatClampNeg x2) x4))) := c_M_takeCoded (b_M_takeCoded_0 ⟨fun q => absurd q (by decide), fun q => absurd q (by decide), fun q => absurd q (by decide), fun q => absurd q (by decide), fun q => absurd q (by decide), fun q => absurd q (by decide), fun q => absurd q (by decide), fun q => absurd q (by decide), fun _ => ⟨v, fun q => ⟨by rcases h with h | h; rw [h.2]; exact absurd q h.1.1, rfl, rfl⟩, fun q => ⟨fun q2 => ⟨by rcases h with h | h; rcases h.1 with h1 | h1; exact absurd h1 q; exact absurd h1 q2; rw [h.2], rfl, rfl⟩, fun q2 => ⟨by rcases h with h | h; rw [h.2]; exact absurd q2 h.1.2, rfl, rfl⟩⟩⟩, fun q => absurd rfl (q 217 (by decide))⟩)
theorem tc_209e (h : x4 = 61) (h0 : ¬ x2 ≤ 0) (w : MC 0 m_M_push [.int 210, .int 1, .int 0] S none T) : MC 2 m_M_takeCoded [.int 209, .int x2, .int x3, .int x4, .int x5] S (some (.int 1)) T := c_M_takeCoded (b_M_takeCoded_0 ⟨fun _ => ⟨fun q => absurd h q, fun _ => ⟨fun q => absurd q h0, fun _ => ⟨T, w, rfl, rfl, rfl⟩⟩⟩, fun q => absurd q (by decide), fun q => absurd q (by decide), fun q => absurd q (by decide), fun q => absurd q (by decide), fun q => absurd q (by decide), fun q => absurd q (by decide), fun q => absurd q (by decide), fun q => absurd q (by decide), fun q => absurd rfl (q 209 (by decide))⟩)
theorem tc_209 (h : ¬ x4 = 61 ∨ x2 ≤ 0) (w : JJ 2 m_M_takeCoded (some (.int r)) T 74 [(1, .int 209), (2, .int x2), (3, .int x3), (4, .int x4), (5, .int x5)] S) : MC 2 m_M_takeCoded [.int 209, .int x2, .int x3, .int x4, .int x5] S (some (.int r)) T := c_M_takeCoded (b_M_takeCoded_0 ⟨fun _ => ⟨fun _ => w, fun q => ⟨fun _ => w, fun q2 => absurd q2 (fun z => (h.elim (fun g => g q) (fun g => z g)))⟩⟩, fun q => absurd q (by decide), fun q => absurd q (by decide), fun q => absurd q (by decide), fun q => absurd q (by decide), fun q => absurd q (by decide), fun q => absurd q (by decide), fun q => absurd q (by decide), fun q => absurd q (by decide), fun q => absurd rfl (q 209 (by decide))⟩)
end CPTF
/-- a code is begun at p, then the text goes on -/
def BCK (X : Int32 × Int32 × Int32) (n : Nat) (o : Option Value) (Sx : cp_S) (S : cp_S) (p d : Nat) : Prop := ∃ r T, MC 1 m_M_beginCode [.int (S.2 27 p), .int (nI p), .int (nI d)] S (some (.int r)) T ∧ (r = 0 ∨ r = 1) ∧ (r = 0 → o = some (.int (nI p)) ∧ Sx = T) ∧ (¬ r = 0 → RD X n o Sx (p + 1) T)
section CPBC
variable {X : Int32 × Int32 × Int32} {n p d c n1 rf : Nat} {S : cp_S} {l : List cp_I} {o : Option Value} {Sx : cp_S}
theorem bc_leaf {x v : Int32} (h : PS S l n1 rf) (hn : n1 < 2720) (hr : rf ≤ n1) (hr2 : n1 - rf < 82) (hc : S.2 27 p = nI c) (hc2 : c < 200) (hk : (isV c ∧ x = 1 ∧ v = nI (c - 97)) ∨ (isD c ∧ x = 2 ∧ v = nI (c - 48)) ∨ (c = 126 ∧ x = 10 ∧ v = nI (c - 48))) (w : RD X n o Sx (p + 1) (ndS S n1 rf x v (nI p))) : BCK X n o Sx S p d := by
  refine ⟨1, _, ?_, Or.inr rfl, fun q => absurd q (by decide), fun _ => w⟩
  rw [hc]
  have nod : ∀ v', nI c - v' = v → MC 0 m_M_node [.int x, .int (nI c - v'), .int (nI p)] S (some (.int (nI n1))) (ndS S n1 rf x v (nI p)) := fun v' e => by rw [e]; exact MC_node h hn hr hr2
  rcases hk with ⟨k1, rfl, k3⟩ | ⟨k1, rfl, k3⟩ | ⟨k1, rfl, k3⟩
  · have e : nI c - 97 = v := by rw [k3]; exact pk_sub (a := c) (b := 97) k1.1
    refine c_M_beginCode (b_M_beginCode_0 ⟨1, SC_V (by omega) (fun _ => rfl) (fun q => absurd k1 q), fun _ => b_M_beginCode_20 ?_, fun q => absurd q (by decide)⟩)
    exact ⟨1, SC_V (by omega) (fun _ => rfl) (fun q => absurd k1 q), fun q => absurd q (by decide), fun _ => ⟨1, SC_V (by omega) (fun _ => rfl) (fun q => absurd k1 q), fun q => absurd q (by decide), fun _ => ⟨nI n1, _, nod 97 e, rfl, rfl, rfl⟩⟩⟩
  · have nv : ¬ isV c := fun q => by have := q.1; have := k1.2; omega
    have n126 : ¬ nI c = 126 := nI_cc (a := 126) hc2 (by omega) (by have := k1.2; omega)
    have e : nI c - 48 = v := by rw [k3]; exact pk_sub (a := c) (b := 48) k1.1
    refine c_M_beginCode (b_M_beginCode_0 ⟨0, SC_V (by omega) (fun q => absurd q nv) (fun _ => rfl), fun q => absurd rfl q, fun _ => ⟨1, SC_D (by omega) (fun _ => rfl) (fun q => absurd k1 q), fun _ => b_M_beginCode_20 ?_, fun q => absurd q (by decide)⟩⟩)
    exact ⟨0, SC_V (by omega) (fun q => absurd q nv) (fun _ => rfl), fun _ => ⟨fun _ => ⟨0, SC_V (by omega) (fun q => absurd q nv) (fun _ => rfl), fun _ => ⟨nI n1, _, nod 48 e, rfl, rfl, rfl⟩, fun q => absurd rfl q⟩, fun q => absurd q n126⟩, fun q => absurd rfl q⟩
  · have nv : ¬ isV c := fun q => by have := q.2; omega
    have nd : ¬ isD c := fun q => by have := q.2; omega
    have e126 : nI c = 126 := by rw [k1]; rfl
    have e : nI c - 48 = v := by rw [k3]; exact pk_sub (a := c) (b := 48) (by omega)
    refine c_M_beginCode (b_M_beginCode_0 ⟨0, SC_V (by omega) (fun q => absurd q nv) (fun _ => rfl), fun q => absurd rfl q, fun _ => ⟨0, SC_D (by omega) (fun q => absurd q nd) (fun _ => rfl), fun q => absurd rfl q, fun _ => ⟨fun q => absurd e126 q, fun _ => b_M_beginCode_20 ?_⟩⟩⟩)
    exact ⟨0, SC_V (by omega) (fun q => absurd q nv) (fun _ => rfl), fun _ => ⟨fun q => absurd e126 q, fun _ => ⟨0, SC_V (by omega) (fun q => absurd q nv) (fun _ => rfl), fun _ => ⟨nI n1, _, nod 48 e, rfl, rfl, rfl⟩, fun q => absurd rfl q⟩⟩, fun q => absurd rfl q⟩
/-- neither variable, digit nor ~ -/
theorem bc_sgn {r : Option Value} {T : cp_S} (hc2 : c < 200) (nv : ¬ isV c) (ndg : ¬ isD c) (n126 : ¬ c = 126) (wl : isL c → ∃ r35 T34, MC 0 m_M_node [.int 5, .int (nI c - 65), .int (nI p)] S (some (.int r35)) T34 ∧ ∃ T37, MC 0 m_M_push [.int 211, .int r35, .int (nI d)] T34 none T37 ∧ (r = some (.int 1) ∧ T = T37)) (w12 : ¬ isL c → d = 12 → r = some (.int 0) ∧ T = S) (hd : d < 100)
    (w : ¬ isL c → ¬ d = 12 → (c = 43 ∨ c = 45 → JJ 1 m_M_beginCode r T 116 [(1, .int (nI c)), (2, .int (nI p)), (3, .int (nI d))] S) ∧ (¬ (c = 43 ∨ c = 45 ∨ c = 123 ∨ c = 91) → r = some (.int 0) ∧ T = S) ∧ (c = 123 → ∃ r28 T27, MC 0 m_M_node [.int 8, .int 0, .int (nI p)] S (some (.int r28)) T27 ∧ ∃ T30, MC 0 m_M_push [.int 213, .int r28, .int (nI d)] T27 none T30 ∧ ∃ T32, MC 0 m_M_push [.int 210, .int (nI d + 1), .int 0] T30 none T32 ∧ (r = some (.int 1) ∧ T = T32)) ∧ (c = 91 → ∃ r9 T8, MC 0 m_M_node [.int 9, .int 0, .int (nI p)] S (some (.int r9)) T8 ∧ ∃ T11, MC 0 m_M_push [.int 93, .int 0, .int 0] T8 none T11 ∧ ∃ T13, MC 0 m_M_push [.int 210, .int (nI d + 1), .int 0] T11 none T13 ∧ ∃ T15, MC 0 m_M_push [.int 58, .int 0, .int 0] T13 none T15 ∧ ∃ T17, MC 0 m_M_push [.int 210, .int (nI d + 1), .int 0] T15 none T17 ∧ ∃ T19, MC 0 m_M_push [.int 63, .int 0, .int 0] T17 none T19 ∧ ∃ T21, MC 0 m_M_push [.int 210, .int (nI d + 1), .int 0] T19 none T21 ∧ ∃ T23, MC 0 m_M_push [.int 217, .int r9, .int 0] T21 none T23 ∧ ∃ T25, MC 0 m_M_push [.int 210, .int (nI d + 1), .int 0] T23 none T25 ∧ (r = some (.int 1) ∧ T = T25))) : MC 1 m_M_beginCode [.int (nI c), .int (nI p), .int (nI d)] S r T := by
  have cc : ∀ a, a < 200 → (nI c = nI a ↔ c = a) := fun a ha => nI_ch (by omega) (by omega)
  refine c_M_beginCode (b_M_beginCode_0 ⟨0, SC_V (by omega) (fun q => absurd q nv) (fun _ => rfl), fun q => absurd rfl q, fun _ => ⟨0, SC_D (by omega) (fun q => absurd q ndg) (fun _ => rfl), fun q => absurd rfl q, fun _ => ⟨fun _ => ?_, fun q => absurd ((cc 126 (by omega)).mp q) n126⟩⟩⟩)
  by_cases hL : isL c
  · obtain ⟨r35, T34, u1, T37, u2, u3, u4⟩ := wl hL
    exact ⟨1, SC_L (by omega) (fun _ => rfl) (fun q => absurd hL q), fun q => absurd q (by decide), fun _ => ⟨r35, T34, u1, T37, u2, u3, u4, rfl⟩⟩
  · refine ⟨0, SC_L (by omega) (fun q => absurd q hL) (fun _ => rfl), fun _ => ⟨fun q12 => ?_, fun q12 => ?_⟩, fun q => absurd rfl q⟩
    · obtain ⟨u1, u2, u3, u4⟩ := w hL (fun q => q12 (by rw [q]; rfl))
      refine ⟨fun q => u1 (Or.inl ((cc 43 (by omega)).mp q)), fun q43 => ⟨fun q45 => ⟨fun q123 => ⟨fun q91 => ?_, fun q91 => ?_⟩, fun q123 => ?_⟩, fun q45 => u1 (Or.inr ((cc 45 (by omega)).mp q45))⟩⟩
      · obtain ⟨r9, T8, v1, T11, v2, T13, v3, T15, v4, T17, v5, T19, v6, T21, v7, T23, v8, T25, v9, v10, v11⟩ := u4 ((cc 91 (by omega)).mp q91)
        exact ⟨r9, T8, v1, T11, v2, T13, v3, T15, v4, T17, v5, T19, v6, T21, v7, T23, v8, T25, v9, v10, v11, rfl⟩
      · obtain ⟨v1, v2⟩ := u2 (fun q => by
          rcases q with q | q | q | q
          · exact q43 ((cc 43 (by omega)).mpr q)
          · exact q45 ((cc 45 (by omega)).mpr q)
          · exact q123 ((cc 123 (by omega)).mpr q)
          · exact q91 ((cc 91 (by omega)).mpr q))
        exact ⟨v1, v2, rfl⟩
      · obtain ⟨r28, T27, v1, T30, v2, T32, v3, v4, v5⟩ := u3 ((cc 123 (by omega)).mp q123)
        exact ⟨r28, T27, v1, T30, v2, T32, v3, v4, v5, rfl⟩
    · obtain ⟨v1, v2⟩ := w12 hL ((nI_ch (a := 12) (by omega) (by omega)).mp q12)
      exact ⟨v1, v2, rfl⟩
theorem bc_let (h : PS S l n1 rf) (hl : l.length < 400) (hn : n1 < 2720) (hr : rf ≤ n1) (hr2 : n1 - rf < 82) (hd : d < 100) (hc : S.2 27 p = nI c) (hc2 : c < 200) (hL : isL c) (w : RD X n o Sx (p + 1) (pshS (ndS S n1 rf 5 (nI (c - 65)) (nI p)) l.length 211 (nI n1) (nI d))) : BCK X n o Sx S p d := by
  have l1 := hL.1
  have l2 := hL.2
  refine ⟨1, _, ?_, Or.inr rfl, fun q => absurd q (by decide), fun _ => w⟩
  rw [hc]
  refine bc_sgn hc2 (fun q => by have := q.1; omega) (fun q => by have := q.2; omega) (by omega) (fun _ => ⟨nI n1, ndS S n1 rf 5 (nI (c - 65)) (nI p), ?_, _, MC_push (PS.node h) hl, rfl, rfl⟩) (fun q => absurd hL q) hd (fun q => absurd hL q)
  rw [show nI c - 65 = nI (c - 65) from pk_sub (a := c) (b := 65) l1]
  exact MC_node h hn hr hr2
theorem bc_no (hc : S.2 27 p = nI c) (hc2 : c < 200) (nv : ¬ isV c) (ndg : ¬ isD c) (n126 : ¬ c = 126) (nl : ¬ isL c) (hd : d < 100) (hs : d = 12 ∨ ¬ (c = 43 ∨ c = 45 ∨ c = 123 ∨ c = 91)) (w : o = some (.int (nI p)) ∧ Sx = S) : BCK X n o Sx S p d := by
  refine ⟨0, S, ?_, Or.inl rfl, fun _ => w, fun q => absurd rfl q⟩
  rw [hc]
  refine bc_sgn hc2 nv ndg n126 (fun q => absurd q nl) (fun _ _ => ⟨rfl, rfl⟩) hd (fun _ q12 => ?_)
  have hs' := hs.resolve_left q12
  exact ⟨fun q => absurd (by rcases q with q | q; exact Or.inl q; exact Or.inr (Or.inl q)) hs', fun _ => ⟨rfl, rfl⟩, fun q => absurd (Or.inr (Or.inr (Or.inl q))) hs', fun q => absurd (Or.inr (Or.inr (Or.inr q))) hs'⟩
theorem bc_sum {x : Int32} (h : PS S l n1 rf) (hl : l.length + 2 < 400) (hn : n1 < 2720) (hr : rf ≤ n1) (hr2 : n1 - rf < 82) (hd : d < 12) (hc : S.2 27 p = nI c) (hk : (c = 43 ∧ x = 6) ∨ (c = 45 ∧ x = 7)) (w : RD X n o Sx (p + 1) (pshS (pshS (ndS S n1 rf x 0 (nI p)) l.length 210 (nI (d + 1)) 0) (l.length + 1) 210 (nI (d + 1)) 0)) : BCK X n o Sx S p d := by
  have hc43 : c = 43 ∨ c = 45 := by rcases hk with h | h; exact Or.inl h.1; exact Or.inr h.1
  refine ⟨1, _, ?_, Or.inr rfl, fun q => absurd q (by decide), fun _ => w⟩
  rw [hc]
  have nl : ¬ isL c := fun q => by have := q.1; omega
  have m1 : MC 0 m_M_push [.int 210, .int (nI d + 1), .int 0] (ndS S n1 rf x 0 (nI p)) none (pshS (ndS S n1 rf x 0 (nI p)) l.length 210 (nI (d + 1)) 0) := by rw [nI_1]; exact MC_push (PS.node h) (by omega)
  have m2 : MC 0 m_M_push [.int 210, .int (nI d + 1), .int 0] (pshS (ndS S n1 rf x 0 (nI p)) l.length 210 (nI (d + 1)) 0) none (pshS (pshS (ndS S n1 rf x 0 (nI p)) l.length 210 (nI (d + 1)) 0) (l.length + 1) 210 (nI (d + 1)) 0) := by rw [nI_1]; exact MC_push (l := (210, nI (d + 1), 0) :: l) (PS.push (PS.node h)) (by rw [List.length_cons]; omega)
  refine bc_sgn (by omega) (fun q => by have := q.1; omega) (fun q => by have := q.1; omega) (by omega) (fun q => absurd q nl) (fun _ q => by omega) (by omega) (fun _ _ => ⟨fun _ => b_M_beginCode_116 ⟨fun q => ?_, fun q => ?_⟩, fun q => absurd (by rcases hc43 with z | z; exact Or.inl z; exact Or.inr (Or.inl z)) q, fun q => by omega, fun q => by omega⟩)
  · rcases hk with ⟨k1, -⟩ | ⟨k1, k2⟩
    · exact absurd (by rw [k1]; rfl) q
    · subst k2
      exact ⟨nI n1, _, MC_node h hn hr hr2, _, m1, _, m2, rfl, rfl, rfl⟩
  · rcases hk with ⟨k1, k2⟩ | ⟨k1, -⟩
    · subst k2
      exact ⟨nI n1, _, MC_node h hn hr hr2, _, m1, _, m2, rfl, rfl, rfl⟩
    · rw [k1] at q; exact absurd q (by decide)
theorem bc_mat (h : PS S l n1 rf) (hl : l.length + 2 < 400) (hn : n1 < 2720) (hr : rf ≤ n1) (hr2 : n1 - rf < 82) (hd : d < 12) (hc : S.2 27 p = nI 123) (w : RD X n o Sx (p + 1) (pshS (pshS (ndS S n1 rf 8 0 (nI p)) l.length 213 (nI n1) (nI d)) (l.length + 1) 210 (nI (d + 1)) 0)) : BCK X n o Sx S p d := by
  refine ⟨1, _, ?_, Or.inr rfl, fun q => absurd q (by decide), fun _ => w⟩
  rw [hc]
  have m2 : MC 0 m_M_push [.int 210, .int (nI d + 1), .int 0] (pshS (ndS S n1 rf 8 0 (nI p)) l.length 213 (nI n1) (nI d)) none (pshS (pshS (ndS S n1 rf 8 0 (nI p)) l.length 213 (nI n1) (nI d)) (l.length + 1) 210 (nI (d + 1)) 0) := by rw [nI_1]; exact MC_push (l := (213, nI n1, nI d) :: l) (PS.push (PS.node h)) (by rw [List.length_cons]; omega)
  exact bc_sgn (by omega) (fun q => by have := q.2; omega) (fun q => by have := q.2; omega) (by omega) (fun q => by have := q.2; omega) (fun _ q => by omega) (by omega) (fun _ _ => ⟨fun q => by omega, fun q => absurd (Or.inr (Or.inr (Or.inl rfl))) q, fun _ => ⟨nI n1, _, MC_node h hn hr hr2, _, MC_push (PS.node h) (by omega), _, m2, rfl, rfl⟩, fun q => by omega⟩)
/-- the reference's state behind [ -/
def choS (S : cp_S) (k n1 rf d p : Nat) : cp_S := pshS (pshS (pshS (pshS (pshS (pshS (pshS (pshS (ndS S n1 rf 9 0 (nI p)) k 93 0 0) (k + 1) 210 (nI (d + 1)) 0) (k + 2) 58 0 0) (k + 3) 210 (nI (d + 1)) 0) (k + 4) 63 0 0) (k + 5) 210 (nI (d + 1)) 0) (k + 6) 217 (nI n1) 0) (k + 7) 210 (nI (d + 1)) 0
theorem choPS (h : PS S l n1 rf) : PS (choS S l.length n1 rf d p) ((210, nI (d + 1), 0) :: (217, nI n1, 0) :: (210, nI (d + 1), 0) :: (63, 0, 0) :: (210, nI (d + 1), 0) :: (58, 0, 0) :: (210, nI (d + 1), 0) :: (93, 0, 0) :: l) (n1 + 1) rf := by
  have p0 := PS.node (x := 9) (v := 0) (p := nI p) h
  have p1 := p0.push (w := 93) (x := 0) (y := 0)
  have p2 := p1.push (w := 210) (x := nI (d + 1)) (y := 0)
  have p3 := p2.push (w := 58) (x := 0) (y := 0)
  have p4 := p3.push (w := 210) (x := nI (d + 1)) (y := 0)
  have p5 := p4.push (w := 63) (x := 0) (y := 0)
  have p6 := p5.push (w := 210) (x := nI (d + 1)) (y := 0)
  have p7 := p6.push (w := 217) (x := nI n1) (y := 0)
  have p8 := p7.push (w := 210) (x := nI (d + 1)) (y := 0)
  simp only [List.length_cons] at p8
  exact p8
theorem bc_cho (h : PS S l n1 rf) (hl : l.length + 8 < 400) (hn : n1 < 2720) (hr : rf ≤ n1) (hr2 : n1 - rf < 82) (hd : d < 12) (hc : S.2 27 p = nI 91) (w : RD X n o Sx (p + 1) (choS S l.length n1 rf d p)) : BCK X n o Sx S p d := by
  refine ⟨1, _, ?_, Or.inr rfl, fun q => absurd q (by decide), fun _ => w⟩
  rw [hc]
  have p0 := PS.node (x := 9) (v := 0) (p := nI p) h
  have p1 := p0.push (w := 93) (x := 0) (y := 0)
  have p2 := p1.push (w := 210) (x := nI (d + 1)) (y := 0)
  have p3 := p2.push (w := 58) (x := 0) (y := 0)
  have p4 := p3.push (w := 210) (x := nI (d + 1)) (y := 0)
  have p5 := p4.push (w := 63) (x := 0) (y := 0)
  have p6 := p5.push (w := 210) (x := nI (d + 1)) (y := 0)
  have p7 := p6.push (w := 217) (x := nI n1) (y := 0)
  have m1 := MC_push (w := 93) (x := 0) (y := 0) p0 (by omega)
  have m2 := MC_push (w := 210) (x := nI (d + 1)) (y := 0) p1 (by simp only [List.length_cons]; omega)
  have m3 := MC_push (w := 58) (x := 0) (y := 0) p2 (by simp only [List.length_cons]; omega)
  have m4 := MC_push (w := 210) (x := nI (d + 1)) (y := 0) p3 (by simp only [List.length_cons]; omega)
  have m5 := MC_push (w := 63) (x := 0) (y := 0) p4 (by simp only [List.length_cons]; omega)
  have m6 := MC_push (w := 210) (x := nI (d + 1)) (y := 0) p5 (by simp only [List.length_cons]; omega)
  have m7 := MC_push (w := 217) (x := nI n1) (y := 0) p6 (by simp only [List.length_cons]; omega)
  have m8 := MC_push (w := 210) (x := nI (d + 1)) (y := 0) p7 (by simp only [List.length_cons]; omega)
  simp only [List.length_cons] at m2 m3 m4 m5 m6 m7 m8
  refine bc_sgn (by omega) (fun q => by have := q.1; omega) (fun q => by have := q.2; omega) (by omega) (fun q => by have := q.2; omega) (fun _ q => by omega) (by omega) (fun _ _ => ⟨fun q => by omega, fun q => absurd (Or.inr (Or.inr (Or.inr rfl))) q, fun q => by omega, fun _ => ?_⟩)
  rw [nI_1]
  exact ⟨nI n1, _, MC_node h hn hr hr2, _, m1, _, m2, _, m3, _, m4, _, m5, _, m6, _, m7, _, m8, rfl, rfl⟩
end CPBC
