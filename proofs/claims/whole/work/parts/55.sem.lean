/-! ===== the reference's values: seen, value, nothing ===== -/
/-- y is what x is when k filled holes are looked through -/
def rs_seen (a : Nat → Nat → Int32) : Nat → Int32 → Int32 → Prop
  | 0, x, y => x = y ∧ vp_in x 6000 ∧ (¬ a 52 x.toNatClampNeg = 2 ∨ a 53 x.toNatClampNeg < 0)
  | k + 1, x, y => vp_in x 6000 ∧ a 52 x.toNatClampNeg = 2 ∧ ¬ a 53 x.toNatClampNeg < 0 ∧ rs_seen a k (a 53 x.toNatClampNeg) y
theorem JJ_seen {S : cp_S} {x1 y : Int32} : ∀ (k : Nat) (x : Int32), rs_seen S.2 k x y → JJ 0 m_M_seen (some (.int y)) S 2 [(1, .int x1), (2, .int x)] S
  | 0, x, hk => by
    obtain ⟨rfl, hb, hc⟩ := hk
    refine b_M_seen_2 ?_
    refine ⟨hb, fun _ => ⟨rfl, rfl⟩, fun h2 => ⟨hb, fun _ => ⟨rfl, rfl⟩, fun h3 => ?_⟩⟩
    exact absurd (hc.resolve_left (fun h4 => h4 h2)) h3
  | k + 1, x, hk => by
    obtain ⟨hb, h2, h3, hr⟩ := hk
    refine b_M_seen_2 ?_
    exact ⟨hb, fun h4 => absurd h2 h4, fun _ => ⟨hb, fun h4 => absurd h4 h3, fun _ => ⟨hb, JJ_seen k _ hr⟩⟩⟩
theorem MC_seen {S : cp_S} {k : Nat} {x y : Int32} (hk : rs_seen S.2 k x y) : MC 0 m_M_seen [.int x] S (some (.int y)) S := c_M_seen (b_M_seen_0 (JJ_seen k x hk))
theorem MC_nothing {S : cp_S} : MC 0 m_M_nothing [] S none (va_up (va_up (va_up S.1 35 0) 40 0) 42 0, S.2) := c_M_nothing (b_M_nothing_0 ⟨rfl, rfl⟩)
/-- a value is made at the row's end -/
theorem MC_value {S : cp_S} {x y : Int32} {v : Nat} (e : S.1 35 = nI v) (hv : v < 6000) : MC 0 m_M_value [.int x, .int y] S (some (.int (nI v))) (va_up S.1 35 (nI (v + 1)), va_up (va_up (va_up (va_up S.2 52 (upd (S.2 52) v x)) 53 (upd (S.2 53) v y)) 54 (upd (S.2 54) v (S.1 40))) 55 (upd (S.2 55) v 0)) := by
  have hb : vp_in (S.1 35) 6000 := by rw [e]; exact vp_in_nI (by omega) (by omega)
  have h1 : (S.1 35).toNatClampNeg = v := by rw [e]; exact nI_clamp (by omega)
  refine c_M_value (b_M_value_0 ⟨hb, hb, hb, hb, ?_, ?_⟩)
  · rw [e, nI_1]
    exact congrArg (fun q => some (Value.int q)) (nI_pred v).symm
  · rw [h1, e, nI_1]
