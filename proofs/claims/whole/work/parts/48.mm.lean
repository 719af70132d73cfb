/-! ===== the reference's state: scalars by field number, arrays by place; the heap that holds it ===== -/
abbrev cp_S : Type := (Nat → Int32) × (Nat → Nat → Int32)
/-- where the array of a field lies; 0 for a scalar -/
def cp_mp (k : Nat) : Nat := ([0, 0, 27, 0, 28, 29, 30, 31, 32, 33, 34, 35, 36, 37, 0, 38, 0, 39, 40, 41, 0, 42, 43, 0, 44, 45, 46, 47, 48, 0, 49, 50, 51, 0, 0, 0, 52, 53, 54, 55, 0, 56, 0, 57, 0, 58, 59, 60, 61, 62, 63, 64, 65, 66, 67, 68, 69, 70, 0, 0, 0, 0, 0, 0, 0, 71, 72, 73, 74, 75, 0, 76, 77, 78, 0, 0, 79, 80, 81, 0, 0, 0, 0, 82, 83, 84] : List Nat).getD k 0
/-- how long the array at a place is -/
def cp_ml (p : Nat) : Nat := ([80, 100, 110, 26, 26, 26, 26, 26, 26, 26, 104, 26, 2720, 2720, 2720, 82, 82, 180, 180, 180, 180, 180, 400, 400, 400, 6000, 6000, 6000, 6000, 6000, 110, 1001, 1001, 1001, 210, 210, 260, 26, 10, 10, 10, 10, 10, 10, 6, 32, 32, 32, 256, 620, 620, 620, 101, 101, 101, 101, 101, 101] : List Nat).getD (p - 27) 0
def mg (G : cp_G) (s : Nat → Int32) : Nat → Value := fun k => if cp_mp k = 0 then .int (s k) else .ref (cp_b G + cp_mp k)
/-- the heap h, with the reference's state in its places 26 to 84 -/
def mm (G : cp_G) (h : Nat → cp_E) (S : cp_S) : Nat → cp_E := fun i => if i = 26 then .inr (11, mg G S.1) else if 27 ≤ i ∧ i < 85 then .inl (cp_cI G, cp_ml i, .inl (S.2 i)) else h i
theorem mm_26 {G : cp_G} {h : Nat → cp_E} {S : cp_S} : mm G h S 26 = .inr (11, mg G S.1) := by simp [mm]
theorem mm_a {G : cp_G} {h : Nat → cp_E} {S : cp_S} (p : Nat) (h1 : 27 ≤ p ∧ p < 85) : mm G h S p = .inl (cp_cI G, cp_ml p, .inl (S.2 p)) := by
  unfold mm
  rw [if_neg (by omega), if_pos h1]
theorem mm_o {G : cp_G} {h : Nat → cp_E} {S : cp_S} {p : Nat} (h1 : p < 26 ∨ 85 ≤ p) : mm G h S p = h p := by
  unfold mm
  rw [if_neg (by omega), if_neg (by omega)]
theorem mg_i {G : cp_G} {s : Nat → Int32} (k : Nat) (h1 : cp_mp k = 0) : mg G s k = .int (s k) := by unfold mg; rw [if_pos h1]
theorem mg_r {G : cp_G} {s : Nat → Int32} (k p : Nat) (h1 : cp_mp k = p) (h2 : p ≠ 0) : mg G s k = .ref (cp_b G + p) := by unfold mg; rw [h1, if_neg h2]
theorem mg_up {G : cp_G} {s : Nat → Int32} {k : Nat} {x : Int32} (h1 : cp_mp k = 0) : va_up (mg G s) k (.int x) = mg G (va_up s k x) := by
  funext q
  by_cases h2 : q = k
  · subst h2; simp [va_up, mg, h1]
  · simp [va_up, mg, h2]
/-- a put into a scalar -/
theorem mm_up {G : cp_G} {h : Nat → cp_E} {S : cp_S} {k : Nat} {x : Int32} (h1 : cp_mp k = 0) : va_up (mm G h S) 26 (.inr (11, va_up (mg G S.1) k (.int x))) = mm G h (va_up S.1 k x, S.2) := by
  rw [mg_up h1]
  funext q
  by_cases h2 : q = 26
  · subst h2; simp [va_up, mm]
  · simp [va_up, mm, h2]
/-- a put into an array -/
theorem mm_ua {G : cp_G} {h : Nat → cp_E} {S : cp_S} {p : Nat} {f : Nat → Int32} (h1 : 27 ≤ p ∧ p < 85) : va_up (mm G h S) p (.inl (cp_cI G, cp_ml p, .inl f)) = mm G h (S.1, va_up S.2 p f) := by
  funext q
  by_cases h2 : q = p
  · subst h2
    have : ¬ q = 26 := by omega
    simp [va_up, mm, h1, this]
  · simp [va_up, mm, h2]
section CPMM
variable {G : cp_G} {mt : cp_M} {d n0 z0 : Nat} {o : cp_O} {h' : Nat → cp_E} {n' z' pc : Nat} {lv : List (Nat × Value)} {rest : List Value} {h : Nat → cp_E} {n z : Nat} {s : Nat → Int32} {a : Nat → Nat → Int32}
/-- a scalar is read -/
theorem ww_gi {idx : Nat} (k : Nat) (hd : decode mt.2.1 pc = .ok (.getfield idx, 3)) (hF : cp_fl mt.1.cls idx 11 k) (hn : 85 ≤ n) (hk : cp_mp k = 0) (kk : cp_V G mt d n0 z0 o h' n' z' (pc + 3) lv (.int (s k) :: rest) (mm G h (s, a)) n z) :
    cp_V G mt d n0 z0 o h' n' z' pc lv (.ref (cp_b G + 26) :: rest) (mm G h (s, a)) n z := vv_getf hd hF (by omega) mm_26 (mg_i k hk) kk
/-- an array's place is read -/
theorem ww_gr {idx : Nat} (k p : Nat) (hd : decode mt.2.1 pc = .ok (.getfield idx, 3)) (hF : cp_fl mt.1.cls idx 11 k) (hn : 85 ≤ n) (hk : cp_mp k = p) (hp : p ≠ 0) (kk : cp_V G mt d n0 z0 o h' n' z' (pc + 3) lv (.ref (cp_b G + p) :: rest) (mm G h (s, a)) n z) :
    cp_V G mt d n0 z0 o h' n' z' pc lv (.ref (cp_b G + 26) :: rest) (mm G h (s, a)) n z := vv_getf hd hF (by omega) mm_26 (mg_r k p hk hp) kk
/-- a scalar is put -/
theorem ww_pi {idx : Nat} {x : Int32} (k : Nat) (hd : decode mt.2.1 pc = .ok (.putfield idx, 3)) (hF : cp_fl mt.1.cls idx 11 k) (hn : 85 ≤ n) (hk : cp_mp k = 0) (hfin : (cp_F 11 k).2.2.2 = false) (hx : narrow (cp_ty 11 k) (.int x) = .int x) (hfit : fits (cp_ty 11 k) (.int x) = true) (kk : cp_V G mt d n0 z0 o h' n' z' (pc + 3) lv rest (mm G h (va_up s k x, a)) n z) :
    cp_V G mt d n0 z0 o h' n' z' pc lv (.int x :: .ref (cp_b G + 26) :: rest) (mm G h (s, a)) n z := vv_putf hd hF (by omega) mm_26 hfin hx hfit (by rw [mm_up (S := (s, a)) hk]; exact kk)
/-- an array's item is read -/
theorem ww_ld {j : Int32} (p : Nat) (hd : decode mt.2.1 pc = .ok (.iaload, 1)) (hn : 85 ≤ n) (hp : 27 ≤ p ∧ p < 85) (hin : vp_in j (cp_ml p)) (kk : cp_V G mt d n0 z0 o h' n' z' (pc + 1) lv (.int (a p j.toNatClampNeg) :: rest) (mm G h (s, a)) n z) :
    cp_V G mt d n0 z0 o h' n' z' pc lv (.int j :: .ref (cp_b G + p) :: rest) (mm G h (s, a)) n z := vv_iald hd (by omega) (mm_a p hp) hin kk
/-- an array's item is put -/
theorem ww_st {j x : Int32} (p : Nat) (hd : decode mt.2.1 pc = .ok (.iastore, 1)) (hn : 85 ≤ n) (hp : 27 ≤ p ∧ p < 85) (hin : vp_in j (cp_ml p)) (kk : cp_V G mt d n0 z0 o h' n' z' (pc + 1) lv rest (mm G h (s, va_up a p (upd (a p) j.toNatClampNeg x))) n z) :
    cp_V G mt d n0 z0 o h' n' z' pc lv (.int x :: .int j :: .ref (cp_b G + p) :: rest) (mm G h (s, a)) n z := vv_iast hd (by omega) (mm_a p hp) hin (by rw [mm_ua (S := (s, a)) hp]; exact kk)
end CPMM
