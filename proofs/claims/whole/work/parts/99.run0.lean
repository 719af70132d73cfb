/-! ===== the reference's small methods of running ===== -/
def bnd (S : cp_S) (B : Nat) (x y z : Int32) : cp_S := (va_up S.1 70 (nI (B + 1)), va_up (va_up (va_up S.2 76 (upd (S.2 76) B x)) 77 (upd (S.2 77) B y)) 78 (upd (S.2 78) B z))
theorem MC_bind {S : cp_S} {B : Nat} {x y z : Int32} (e : S.1 70 = nI B) (h : B < 620) : MC 0 m_M_bind [.int x, .int y, .int z] S none (bnd S B x y z) := by
  have v : vp_in (nI B) 620 := vp_in_nI h (by omega)
  refine c_M_bind (b_M_bind_0 ?_)
  unfold wp_M_bind_0 bnd
  rw [e, nI_clamp (by omega), nI_1]
  exact ⟨v, v, v, rfl, rfl⟩
def ent (S : cp_S) (w e : Nat) (x y : Int32) : cp_S := (va_up (va_up (va_up S.1 61 (nI (w + 1))) 60 (S.1 60 + 1)) 62 (nI (e + 1)), va_up (va_up (va_up S.2 72 (upd (S.2 72) e x)) 73 (upd (S.2 73) e 0)) 74 (upd (S.2 74) e y))
def fld (S : cp_S) : cp_S := (va_up S.1 63 1, S.2)
theorem MC_enter {S : cp_S} {w e : Nat} {x y : Int32} (h61 : S.1 61 = nI w) (h62 : S.1 62 = nI e) (hw : w < 100) (he : e < 30) : MC 0 m_M_enter [.int x, .int y] S none (ent S w e x y) := by
  have v : vp_in (nI e) 32 := vp_in_nI (by omega) (by omega)
  refine c_M_enter (b_M_enter_0 ?_)
  unfold wp_M_enter_0 ent
  rw [h61, h62, nI_clamp (by omega), nI_1, nI_1]
  exact ⟨fun hn => absurd ((nI_eq (b := 100) (by omega) (by omega)).mp hn) (by omega), fun _ => ⟨fun _ => ⟨v, v, v, rfl, rfl⟩, fun hn => absurd ((nI_eq (b := 30) (by omega) (by omega)).mp hn) (by omega)⟩⟩
theorem MC_enter_f {S : cp_S} {w e : Nat} {x y : Int32} (h61 : S.1 61 = nI w) (h62 : S.1 62 = nI e) (hw : w ≤ 100) (he : e ≤ 30) (h : w = 100 ∨ e = 30) : MC 0 m_M_enter [.int x, .int y] S none (fld S) := by
  refine c_M_enter (b_M_enter_0 ?_)
  unfold wp_M_enter_0 fld
  rw [h61, h62]
  refine ⟨fun _ => ⟨rfl, rfl⟩, fun hn => ⟨fun hn2 => ?_, fun _ => ⟨rfl, rfl⟩⟩⟩
  rcases h with h | h
  · exact absurd (by rw [h]; rfl) hn
  · exact absurd (by rw [h]; rfl) hn2
def giv0 (S : cp_S) (x : Int32) : cp_S := (va_up (va_up S.1 62 (nI 0)) 64 x, S.2)
def giv (S : cp_S) (e s : Nat) (x : Int32) : cp_S := (va_up (va_up S.1 62 (nI (e + 1))) 64 x, va_up (va_up S.2 75 (upd (S.2 75) (8 * e + s) x)) 73 (upd (S.2 73) e (nI (s + 1))))
theorem MC_give0 {S : cp_S} {x : Int32} (h : S.1 62 = nI 1) : MC 0 m_M_give [.int x] S none (giv0 S x) := by
  refine c_M_give (b_M_give_0 ?_)
  unfold wp_M_give_0 giv0
  rw [h, show nI 1 - 1 = nI 0 by decide]
  exact ⟨fun _ => ⟨rfl, rfl⟩, fun hn => absurd (by decide) hn⟩
theorem MC_give {S : cp_S} {e s : Nat} {x : Int32} (h : S.1 62 = nI (e + 2)) (he : e < 30) (hs : S.2 73 e = nI s) (hs8 : s < 8) : MC 0 m_M_give [.int x] S none (giv S e s x) := by
  have v : vp_in (nI e) 32 := vp_in_nI (by omega) (by omega)
  refine c_M_give (b_M_give_0 ?_)
  unfold wp_M_give_0 giv
  rw [h, nI_pred, nI_pred, nI_clamp (by omega), hs, show (8 : Int32) = nI 8 from rfl, pk_mul, nI_add, nI_clamp (by omega), nI_1]
  exact ⟨fun hn => absurd hn (nI_nle (by omega) (by omega)), fun _ => ⟨v, vp_in_nI (show 8 * e + s < 256 by omega) (by decide), v, v, rfl, rfl⟩⟩
/-- the variable c means r in the chain that begins at x -/
def MN (b : Nat → Nat → Int32) (B : Nat) : Nat → Nat → Nat → Nat → Prop
  | 0, _, _, _ => False
  | n + 1, x, c, r => x < B ∧ ((b 76 x = nI c ∧ b 77 x = nI r) ∨ (¬ b 76 x = nI c ∧ ∃ y, b 78 x = nI y ∧ MN b B n y c r))
theorem MN.mv {b b' : Nat → Nat → Int32} {B B' : Nat} (h : ∀ p, 76 ≤ p → p ≤ 78 → ∀ x, x < B → b' p x = b p x) (hB : B ≤ B') : ∀ (n x c r : Nat), MN b B n x c r → MN b' B' n x c r
  | 0, _, _, _, q => q
  | n + 1, x, c, r, q => by
    obtain ⟨q0, q⟩ := q
    refine ⟨by omega, ?_⟩
    rw [h 76 (by omega) (by omega) x q0, h 77 (by omega) (by omega) x q0, h 78 (by omega) (by omega) x q0]
    rcases q with q | ⟨q1, y, q2, q3⟩
    · exact Or.inl q
    · exact Or.inr ⟨q1, y, q2, MN.mv h hB n y c r q3⟩
theorem MC_meaning {S : cp_S} {B : Nat} (hB : B ≤ 620) {z : Int32} : ∀ (n x c r : Nat), MN S.2 B n x c r → JJ 0 m_M_meaning (some (.int (nI r))) S 2 [(1, .int (nI c)), (2, .int z), (3, .int (nI x))] S
  | 0, _, _, _, h => h.elim
  | n + 1, x, c, r, h => by
    obtain ⟨h0, h⟩ := h
    have v : vp_in (nI x) 620 := vp_in_nI (by omega) (by omega)
    refine b_M_meaning_2 ?_
    unfold wp_M_meaning_2
    rw [nI_clamp (by omega)]
    rcases h with ⟨h1, h2⟩ | ⟨h1, y, h2, h3⟩
    · rw [h1, h2]
      exact ⟨v, fun _ => ⟨v, rfl, rfl⟩, fun hn => absurd rfl hn⟩
    · rw [h2]
      exact ⟨v, fun hn => absurd hn h1, fun _ => ⟨v, MC_meaning hB n y c r h3⟩⟩
theorem MC_mean {S : cp_S} {B n x c r : Nat} (hB : B ≤ 620) (h : MN S.2 B n x c r) : MC 0 m_M_meaning [.int (nI c), .int (nI x)] S (some (.int (nI r))) S := c_M_meaning (b_M_meaning_0 (MC_meaning hB n x c r h))
theorem child_J {S : cp_S} {k : Nat} {z : Int32} (t : Nat) (ht : t < 100) : ∀ (m i x s : Nat), SHL (SH S.2 k) m i x → x ≤ 2720 → s + m = t → JJ 2 m_M_child (some (.int (nI x))) S 7 [(1, .int z), (2, .int (nI t)), (3, .int (nI i)), (4, .int (nI s))] S
  | 0, i, x, s, h, hx, e => by
    have e1 : i = x := h
    subst e1
    exact b_M_child_7 ⟨fun _ => ⟨rfl, rfl⟩, fun hn => absurd (nI_le (by omega) (by omega)) hn⟩
  | m + 1, i, x, s, h, hx, e => by
    obtain ⟨i', h1, h2⟩ := h
    have := SHL_le (SH_lt k) m i' x h2
    refine b_M_child_7 ⟨fun hn => absurd hn (nI_ge (by omega) (by omega)), fun _ => ⟨nI i', S, MC_behind h1 (by omega), ?_⟩⟩
    rw [nI_1]
    exact child_J t ht m i' x (s + 1) h2 hx (by omega)
theorem MC_child {S : cp_S} {k t i x : Nat} (ht : t < 100) (h : SHL (SH S.2 k) t (i + 1) x) (hx : x ≤ 2720) : MC 2 m_M_child [.int (nI i), .int (nI t)] S (some (.int (nI x))) S := by
  refine c_M_child (b_M_child_0 ?_)
  unfold wp_M_child_0
  rw [nI_1]
  exact child_J t ht t (i + 1) x 0 h hx (by omega)
theorem SHL_app {R : Nat → Nat → Prop} : ∀ (m i j : Nat), SHL R (m + 1) i j ↔ ∃ x, SHL R m i x ∧ R x j
  | 0, i, j => by
    constructor
    · rintro ⟨x, h1, h2⟩
      have : x = j := h2
      subst this
      exact ⟨i, rfl, h1⟩
    · rintro ⟨x, h1, h2⟩
      have : i = x := h1
      subst this
      exact ⟨j, h2, rfl⟩
  | m + 1, i, j => by
    constructor
    · rintro ⟨x, h1, h2⟩
      obtain ⟨y, h3, h4⟩ := (SHL_app m x j).mp h2
      exact ⟨y, ⟨x, h1, h3⟩, h4⟩
    · rintro ⟨y, ⟨x, h1, h3⟩, h4⟩
      exact ⟨x, h1, (SHL_app m x j).mpr ⟨y, h3, h4⟩⟩
