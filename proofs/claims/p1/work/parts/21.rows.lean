section CPR
variable {G : cp_G} {mt : cp_M} {d n0 z0 : Nat} {o : cp_O} {h' : Nat → cp_E} {n' z' pc : Nat} {lv : List (Nat × Value)} {rest : List Value} {h : Nat → cp_E} {n z : Nat}
def cp_ld (lv : List (Nat × Value)) (i : Nat) : Option Value := (lv.find? (fun q => q.1 == i)).map (fun q => q.2)
theorem cp_ld_at {ls : Array Slot} {nL : Nat} {lv : List (Nat × Value)} {i : Nat} {v : Value} (hl : lv_has ls nL lv) (h : cp_ld lv i = some v) : ls[i]? = some (.val v) := by
  unfold cp_ld at h
  cases hf : lv.find? (fun q => q.1 == i) with
  | none => rw [hf] at h; cases h
  | some q =>
    rw [hf] at h
    have h1 := List.mem_of_find?_eq_some hf
    have h2 := List.find?_some hf
    have h3 : q.1 = i := by simpa using h2
    have h4 : q.2 = v := by simpa using h
    have h5 := hl.2.2 q h1
    rw [h3, h4] at h5
    exact h5
theorem vv_iconst {i : Int} {v : Int32} (hd : decode mt.2.1 pc = .ok (.iconst i, 1)) (hv : Int32.ofInt i = v) (k : cp_V G mt d n0 z0 o h' n' z' (pc + 1) (lv) (.int v :: rest) h n z) : cp_V G mt d n0 z0 o h' n' z' (pc) (lv) (rest) h n z :=
  cp_go k (fun p l e R s m args below meth c H locs cells slots Q ls B X w => lv_iconst B.1 B.2.1 hd hv w)
theorem vv_bipush {i : Int} {v : Int32} (hd : decode mt.2.1 pc = .ok (.bipush i, 2)) (hv : (Int8.ofInt i).toInt32 = v) (k : cp_V G mt d n0 z0 o h' n' z' (pc + 2) (lv) (.int v :: rest) h n z) : cp_V G mt d n0 z0 o h' n' z' (pc) (lv) (rest) h n z :=
  cp_go k (fun p l e R s m args below meth c H locs cells slots Q ls B X w => lv_bipush B.1 B.2.1 hd hv w)
theorem vv_sipush {i : Int} {v : Int32} (hd : decode mt.2.1 pc = .ok (.sipush i, 3)) (hv : (Int16.ofInt i).toInt32 = v) (k : cp_V G mt d n0 z0 o h' n' z' (pc + 3) (lv) (.int v :: rest) h n z) : cp_V G mt d n0 z0 o h' n' z' (pc) (lv) (rest) h n z :=
  cp_go k (fun p l e R s m args below meth c H locs cells slots Q ls B X w => lv_sipush B.1 B.2.1 hd hv w)
theorem vv_lconst {i : Fin 2} {v : Int64} (hd : decode mt.2.1 pc = .ok (.lconst i, 1)) (hv : Int64.ofNat (i : Nat) = v) (k : cp_V G mt d n0 z0 o h' n' z' (pc + 1) (lv) (.long v :: rest) h n z) : cp_V G mt d n0 z0 o h' n' z' (pc) (lv) (rest) h n z :=
  cp_go k (fun p l e R s m args below meth c H locs cells slots Q ls B X w => lv_lconst B.1 B.2.1 hd hv w)
theorem vv_null  (hd : decode mt.2.1 pc = .ok (.aconst_null, 1))  (k : cp_V G mt d n0 z0 o h' n' z' (pc + 1) (lv) (.null :: rest) h n z) : cp_V G mt d n0 z0 o h' n' z' (pc) (lv) (rest) h n z :=
  cp_go k (fun p l e R s m args below meth c H locs cells slots Q ls B X w => lv_null B.1 B.2.1 hd w)
theorem vv_iload_n {i : Fin 4} {x : Int32} (hd : decode mt.2.1 pc = .ok (.iload_n i, 1)) (hl : cp_ld lv i = some (.int x)) (k : cp_V G mt d n0 z0 o h' n' z' (pc + 1) (lv) (.int x :: rest) h n z) : cp_V G mt d n0 z0 o h' n' z' (pc) (lv) (rest) h n z :=
  cp_go k (fun p l e R s m args below meth c H locs cells slots Q ls B X w => lv_iload_n B.1 B.2.1 hd rfl (cp_ld_at X.2.2 hl) w)
theorem vv_iload {i : Nat} {x : Int32} (hd : decode mt.2.1 pc = .ok (.iload i, 2)) (hl : cp_ld lv i = some (.int x)) (k : cp_V G mt d n0 z0 o h' n' z' (pc + 2) (lv) (.int x :: rest) h n z) : cp_V G mt d n0 z0 o h' n' z' (pc) (lv) (rest) h n z :=
  cp_go k (fun p l e R s m args below meth c H locs cells slots Q ls B X w => lv_iload B.1 B.2.1 hd (cp_ld_at X.2.2 hl) w)
theorem vv_lload_n {i : Fin 4} {x : Int64} (hd : decode mt.2.1 pc = .ok (.lload_n i, 1)) (hl : cp_ld lv i = some (.long x)) (k : cp_V G mt d n0 z0 o h' n' z' (pc + 1) (lv) (.long x :: rest) h n z) : cp_V G mt d n0 z0 o h' n' z' (pc) (lv) (rest) h n z :=
  cp_go k (fun p l e R s m args below meth c H locs cells slots Q ls B X w => lv_lload_n B.1 B.2.1 hd rfl (cp_ld_at X.2.2 hl) w)
theorem vv_lload {i : Nat} {x : Int64} (hd : decode mt.2.1 pc = .ok (.lload i, 2)) (hl : cp_ld lv i = some (.long x)) (k : cp_V G mt d n0 z0 o h' n' z' (pc + 2) (lv) (.long x :: rest) h n z) : cp_V G mt d n0 z0 o h' n' z' (pc) (lv) (rest) h n z :=
  cp_go k (fun p l e R s m args below meth c H locs cells slots Q ls B X w => lv_lload B.1 B.2.1 hd (cp_ld_at X.2.2 hl) w)
def cp_isr (v : Value) : Prop := v = .null ∨ ∃ a, v = .ref a
theorem cp_isr_r {a : Nat} : cp_isr (.ref a) := Or.inr ⟨a, rfl⟩
theorem cp_isr_n : cp_isr .null := Or.inl rfl
theorem cp_isr_rf (r : Option Nat) : cp_isr (va_rf r) := by cases r; exact Or.inl rfl; exact Or.inr ⟨_, rfl⟩
theorem vv_aload_n {i : Fin 4} {x : Nat} (hd : decode mt.2.1 pc = .ok (.aload_n i, 1)) (hl : cp_ld lv i = some (.ref x)) (k : cp_V G mt d n0 z0 o h' n' z' (pc + 1) (lv) (.ref x :: rest) h n z) : cp_V G mt d n0 z0 o h' n' z' (pc) (lv) (rest) h n z :=
  cp_go k (fun p l e R s m args below meth c H locs cells slots Q ls B X w => lv_aload_n B.1 B.2.1 hd rfl (cp_ld_at X.2.2 hl) w)
theorem vv_aload {i : Nat} {x : Nat} (hd : decode mt.2.1 pc = .ok (.aload i, 2)) (hl : cp_ld lv i = some (.ref x)) (k : cp_V G mt d n0 z0 o h' n' z' (pc + 2) (lv) (.ref x :: rest) h n z) : cp_V G mt d n0 z0 o h' n' z' (pc) (lv) (rest) h n z :=
  cp_go k (fun p l e R s m args below meth c H locs cells slots Q ls B X w => lv_aload B.1 B.2.1 hd (cp_ld_at X.2.2 hl) w)
theorem vv_aload_nN {i : Fin 4} (hd : decode mt.2.1 pc = .ok (.aload_n i, 1)) (hl : cp_ld lv i = some .null) (k : cp_V G mt d n0 z0 o h' n' z' (pc + 1) (lv) (.null :: rest) h n z) : cp_V G mt d n0 z0 o h' n' z' (pc) (lv) (rest) h n z :=
  cp_go k (fun p l e R s m args below meth c H locs cells slots Q ls B X w => lv_aload_nN B.1 B.2.1 hd rfl (cp_ld_at X.2.2 hl) w)
theorem vv_aloadN {i : Nat} (hd : decode mt.2.1 pc = .ok (.aload i, 2)) (hl : cp_ld lv i = some .null) (k : cp_V G mt d n0 z0 o h' n' z' (pc + 2) (lv) (.null :: rest) h n z) : cp_V G mt d n0 z0 o h' n' z' (pc) (lv) (rest) h n z :=
  cp_go k (fun p l e R s m args below meth c H locs cells slots Q ls B X w => lv_aloadN B.1 B.2.1 hd (cp_ld_at X.2.2 hl) w)
theorem vv_aload_nr {i : Fin 4} {v : Value} (hd : decode mt.2.1 pc = .ok (.aload_n i, 1)) (hr : cp_isr v) (hl : cp_ld lv i = some v) (k : cp_V G mt d n0 z0 o h' n' z' (pc + 1) (lv) (v :: rest) h n z) : cp_V G mt d n0 z0 o h' n' z' (pc) (lv) (rest) h n z := by
  rcases hr with rfl | ⟨a, rfl⟩
  · exact vv_aload_nN hd hl k
  · exact vv_aload_n hd hl k
theorem vv_aloadr {i : Nat} {v : Value} (hd : decode mt.2.1 pc = .ok (.aload i, 2)) (hr : cp_isr v) (hl : cp_ld lv i = some v) (k : cp_V G mt d n0 z0 o h' n' z' (pc + 2) (lv) (v :: rest) h n z) : cp_V G mt d n0 z0 o h' n' z' (pc) (lv) (rest) h n z := by
  rcases hr with rfl | ⟨a, rfl⟩
  · exact vv_aloadN hd hl k
  · exact vv_aload hd hl k
theorem vv_iadd {x y : Int32} (hd : decode mt.2.1 pc = .ok (.iadd, 1))  (k : cp_V G mt d n0 z0 o h' n' z' (pc + 1) (lv) (.int (x + y) :: rest) h n z) : cp_V G mt d n0 z0 o h' n' z' (pc) (lv) (.int y :: .int x :: rest) h n z :=
  cp_go k (fun p l e R s m args below meth c H locs cells slots Q ls B X w => lv_iadd B.1 B.2.1 hd w)
theorem vv_isub {x y : Int32} (hd : decode mt.2.1 pc = .ok (.isub, 1))  (k : cp_V G mt d n0 z0 o h' n' z' (pc + 1) (lv) (.int (x - y) :: rest) h n z) : cp_V G mt d n0 z0 o h' n' z' (pc) (lv) (.int y :: .int x :: rest) h n z :=
  cp_go k (fun p l e R s m args below meth c H locs cells slots Q ls B X w => lv_isub B.1 B.2.1 hd w)
theorem vv_imul {x y : Int32} (hd : decode mt.2.1 pc = .ok (.imul, 1))  (k : cp_V G mt d n0 z0 o h' n' z' (pc + 1) (lv) (.int (x * y) :: rest) h n z) : cp_V G mt d n0 z0 o h' n' z' (pc) (lv) (.int y :: .int x :: rest) h n z :=
  cp_go k (fun p l e R s m args below meth c H locs cells slots Q ls B X w => lv_imul B.1 B.2.1 hd w)
theorem vv_iand {x y : Int32} (hd : decode mt.2.1 pc = .ok (.iand, 1))  (k : cp_V G mt d n0 z0 o h' n' z' (pc + 1) (lv) (.int (x &&& y) :: rest) h n z) : cp_V G mt d n0 z0 o h' n' z' (pc) (lv) (.int y :: .int x :: rest) h n z :=
  cp_go k (fun p l e R s m args below meth c H locs cells slots Q ls B X w => lv_iand B.1 B.2.1 hd w)
theorem vv_idiv {x y : Int32} (hd : decode mt.2.1 pc = .ok (.idiv, 1)) (hne : ¬ y = 0) (k : cp_V G mt d n0 z0 o h' n' z' (pc + 1) (lv) (.int (x / y) :: rest) h n z) : cp_V G mt d n0 z0 o h' n' z' (pc) (lv) (.int y :: .int x :: rest) h n z :=
  cp_go k (fun p l e R s m args below meth c H locs cells slots Q ls B X w => lv_idiv B.1 B.2.1 hd hne w)
theorem vv_irem {x y : Int32} (hd : decode mt.2.1 pc = .ok (.irem, 1)) (hne : ¬ y = 0) (k : cp_V G mt d n0 z0 o h' n' z' (pc + 1) (lv) (.int (x - x / y * y) :: rest) h n z) : cp_V G mt d n0 z0 o h' n' z' (pc) (lv) (.int y :: .int x :: rest) h n z :=
  cp_go k (fun p l e R s m args below meth c H locs cells slots Q ls B X w => lv_irem B.1 B.2.1 hd hne w)
theorem vv_ladd {x y : Int64} (hd : decode mt.2.1 pc = .ok (.ladd, 1))  (k : cp_V G mt d n0 z0 o h' n' z' (pc + 1) (lv) (.long (x + y) :: rest) h n z) : cp_V G mt d n0 z0 o h' n' z' (pc) (lv) (.long y :: .long x :: rest) h n z :=
  cp_go k (fun p l e R s m args below meth c H locs cells slots Q ls B X w => lv_ladd B.1 B.2.1 hd w)
theorem vv_lmul {x y : Int64} (hd : decode mt.2.1 pc = .ok (.lmul, 1))  (k : cp_V G mt d n0 z0 o h' n' z' (pc + 1) (lv) (.long (x * y) :: rest) h n z) : cp_V G mt d n0 z0 o h' n' z' (pc) (lv) (.long y :: .long x :: rest) h n z :=
  cp_go k (fun p l e R s m args below meth c H locs cells slots Q ls B X w => lv_lmul B.1 B.2.1 hd w)
theorem vv_ldiv {x y : Int64} (hd : decode mt.2.1 pc = .ok (.ldiv, 1)) (hne : ¬ y = 0) (k : cp_V G mt d n0 z0 o h' n' z' (pc + 1) (lv) (.long (x / y) :: rest) h n z) : cp_V G mt d n0 z0 o h' n' z' (pc) (lv) (.long y :: .long x :: rest) h n z :=
  cp_go k (fun p l e R s m args below meth c H locs cells slots Q ls B X w => lv_ldiv B.1 B.2.1 hd hne w)
theorem vv_lrem {x y : Int64} (hd : decode mt.2.1 pc = .ok (.lrem, 1)) (hne : ¬ y = 0) (k : cp_V G mt d n0 z0 o h' n' z' (pc + 1) (lv) (.long (x - x / y * y) :: rest) h n z) : cp_V G mt d n0 z0 o h' n' z' (pc) (lv) (.long y :: .long x :: rest) h n z :=
  cp_go k (fun p l e R s m args below meth c H locs cells slots Q ls B X w => lv_lrem B.1 B.2.1 hd hne w)
theorem vv_lneg {x : Int64} (hd : decode mt.2.1 pc = .ok (.lneg, 1))  (k : cp_V G mt d n0 z0 o h' n' z' (pc + 1) (lv) (.long (-x) :: rest) h n z) : cp_V G mt d n0 z0 o h' n' z' (pc) (lv) (.long x :: rest) h n z :=
  cp_go k (fun p l e R s m args below meth c H locs cells slots Q ls B X w => lv_lneg B.1 B.2.1 hd w)
theorem vv_lcmp {x y : Int64} (hd : decode mt.2.1 pc = .ok (.lcmp, 1))  (k : cp_V G mt d n0 z0 o h' n' z' (pc + 1) (lv) (.int (lg_cmp x y) :: rest) h n z) : cp_V G mt d n0 z0 o h' n' z' (pc) (lv) (.long y :: .long x :: rest) h n z :=
  cp_go k (fun p l e R s m args below meth c H locs cells slots Q ls B X w => W.lcmp B.1 B.2.1 hd w)
theorem vv_i2l {x : Int32} (hd : decode mt.2.1 pc = .ok (.i2l, 1))  (k : cp_V G mt d n0 z0 o h' n' z' (pc + 1) (lv) (.long x.toInt64 :: rest) h n z) : cp_V G mt d n0 z0 o h' n' z' (pc) (lv) (.int x :: rest) h n z :=
  cp_go k (fun p l e R s m args below meth c H locs cells slots Q ls B X w => lv_i2l B.1 B.2.1 hd rfl w)
theorem vv_l2i {x : Int64} (hd : decode mt.2.1 pc = .ok (.l2i, 1))  (k : cp_V G mt d n0 z0 o h' n' z' (pc + 1) (lv) (.int x.toInt32 :: rest) h n z) : cp_V G mt d n0 z0 o h' n' z' (pc) (lv) (.long x :: rest) h n z :=
  cp_go k (fun p l e R s m args below meth c H locs cells slots Q ls B X w => lv_l2i B.1 B.2.1 hd rfl w)
theorem vv_i2c {x : Int32} (hd : decode mt.2.1 pc = .ok (.i2c, 1))  (k : cp_V G mt d n0 z0 o h' n' z' (pc + 1) (lv) (.int (x.toUInt32 % 65536).toInt32 :: rest) h n z) : cp_V G mt d n0 z0 o h' n' z' (pc) (lv) (.int x :: rest) h n z :=
  cp_go k (fun p l e R s m args below meth c H locs cells slots Q ls B X w => lv_i2c B.1 B.2.1 hd rfl w)
theorem vv_dup {v : Value} (hd : decode mt.2.1 pc = .ok (.dup, 1)) (hv : v.category = 1) (k : cp_V G mt d n0 z0 o h' n' z' (pc + 1) (lv) (v :: v :: rest) h n z) : cp_V G mt d n0 z0 o h' n' z' (pc) (lv) (v :: rest) h n z :=
  cp_go k (fun p l e R s m args below meth c H locs cells slots Q ls B X w => lv_dup B.1 B.2.1 hd hv w)
theorem vv_pop {v : Value} (hd : decode mt.2.1 pc = .ok (.pop, 1)) (hv : v.category = 1) (k : cp_V G mt d n0 z0 o h' n' z' (pc + 1) (lv) (rest) h n z) : cp_V G mt d n0 z0 o h' n' z' (pc) (lv) (v :: rest) h n z :=
  cp_go k (fun p l e R s m args below meth c H locs cells slots Q ls B X w => lv_pop B.1 B.2.1 hd hv w)
theorem vv_dup2 {u v : Value} (hd : decode mt.2.1 pc = .ok (.dup2, 1)) (hu : u.category = 1) (hv : v.category = 1) (k : cp_V G mt d n0 z0 o h' n' z' (pc + 1) (lv) (u :: v :: u :: v :: rest) h n z) : cp_V G mt d n0 z0 o h' n' z' (pc) (lv) (u :: v :: rest) h n z :=
  cp_go k (fun p l e R s m args below meth c H locs cells slots Q ls B X w => lv_dup2_11 B.1 B.2.1 hd hu hv w)
theorem vv_goto {off : Int} {tgt : Nat} (hd : decode mt.2.1 pc = .ok (.goto off, 3)) (ht : (pc : Int) + off = (tgt : Int)) (k : cp_V G mt d n0 z0 o h' n' z' (tgt) (lv) (rest) h n z) : cp_V G mt d n0 z0 o h' n' z' (pc) (lv) (rest) h n z :=
  cp_go k (fun p l e R s m args below meth c H locs cells slots Q ls B X w => lv_goto B.1 B.2.1 hd ht w)
theorem vv_ldc2 {idx : Nat} {v : Int64} (hd : decode mt.2.1 pc = .ok (.ldc2_w idx, 3)) (hw : Cond.constantLong mt.1.cls idx v ∈ cp_WS) (k : cp_V G mt d n0 z0 o h' n' z' (pc + 3) (lv) (.long v :: rest) h n z) : cp_V G mt d n0 z0 o h' n' z' (pc) (lv) (rest) h n z :=
  cp_go k (fun p l e R s m args below meth c H locs cells slots Q ls B X w => lv_ldc2 B.1 B.2.1 B.2.2.2.2.2.1 (B.2.2.2.2.2.2.2.1 _ hw) hd w)
theorem vv_ifnonnull {x : Nat} {off : Int} {tgt : Nat} (hd : decode mt.2.1 pc = .ok (.ifnonnull off, 3)) (ht : (pc : Int) + off = (tgt : Int)) (k : cp_V G mt d n0 z0 o h' n' z' (tgt) (lv) (rest) h n z) : cp_V G mt d n0 z0 o h' n' z' (pc) (lv) (.ref x :: rest) h n z :=
  cp_go k (fun p l e R s m args below meth c H locs cells slots Q ls B X w => lv_ifnonnull B.1 B.2.1 hd ht w)
theorem vv_ifnull {x : Nat} {off : Int} (hd : decode mt.2.1 pc = .ok (.ifnull off, 3))  (k : cp_V G mt d n0 z0 o h' n' z' (pc + 3) (lv) (rest) h n z) : cp_V G mt d n0 z0 o h' n' z' (pc) (lv) (.ref x :: rest) h n z :=
  cp_go k (fun p l e R s m args below meth c H locs cells slots Q ls B X w => lv_ifnull B.1 B.2.1 hd w)
theorem vv_ifnullN {off : Int} {tgt : Nat} (hd : decode mt.2.1 pc = .ok (.ifnull off, 3)) (ht : (pc : Int) + off = (tgt : Int)) (k : cp_V G mt d n0 z0 o h' n' z' (tgt) (lv) (rest) h n z) : cp_V G mt d n0 z0 o h' n' z' (pc) (lv) (.null :: rest) h n z :=
  cp_go k (fun p l e R s m args below meth c H locs cells slots Q ls B X w => lv_ifnullN B.1 B.2.1 hd ht w)
theorem vv_ifnonnullN {off : Int} (hd : decode mt.2.1 pc = .ok (.ifnonnull off, 3))  (k : cp_V G mt d n0 z0 o h' n' z' (pc + 3) (lv) (rest) h n z) : cp_V G mt d n0 z0 o h' n' z' (pc) (lv) (.null :: rest) h n z :=
  cp_go k (fun p l e R s m args below meth c H locs cells slots Q ls B X w => lv_ifnonnullN B.1 B.2.1 hd w)
theorem vv_lookup {dflt off : Int} {ps : Array (Int × Int)} {len tgt : Nat} {x : Int32} (hd : decode mt.2.1 pc = .ok (.lookupswitch dflt ps, len)) (hp : (ps.toList.zip (ps.toList.drop 1)).all (fun (a, next) => a.1 < next.1) = true) (ho : Op.lookupswitch.offset ps.toList dflt x.toInt = off) (ht : (pc : Int) + off = (tgt : Int)) (k : cp_V G mt d n0 z0 o h' n' z' (tgt) (lv) (rest) h n z) : cp_V G mt d n0 z0 o h' n' z' (pc) (lv) (.int x :: rest) h n z :=
  cp_go k (fun p l e R s m args below meth c H locs cells slots Q ls B X w => lv_lookup B.1 B.2.1 hd hp ho ht w)
theorem vv_tableOut {dflt lo hi : Int} {offs : Array Int} {len tgt : Nat} {x : Int32} (hd : decode mt.2.1 pc = .ok (.tableswitch dflt lo hi offs, len)) (h0 : x.toInt < lo ∨ hi < x.toInt) (ht : (pc : Int) + dflt = (tgt : Int)) (k : cp_V G mt d n0 z0 o h' n' z' (tgt) (lv) (rest) h n z) : cp_V G mt d n0 z0 o h' n' z' (pc) (lv) (.int x :: rest) h n z :=
  cp_go k (fun p l e R s m args below meth c H locs cells slots Q ls B X w => lv_tableOut B.1 B.2.1 hd h0 ht w)
theorem vv_tableIn {dflt lo hi off : Int} {offs : Array Int} {len tgt : Nat} {x : Int32} (hd : decode mt.2.1 pc = .ok (.tableswitch dflt lo hi offs, len)) (h1 : ¬ x.toInt < lo) (h2 : ¬ hi < x.toInt) (ho : offs[(x.toInt - lo).toNat]? = some off) (ht : (pc : Int) + off = (tgt : Int)) (k : cp_V G mt d n0 z0 o h' n' z' (tgt) (lv) (rest) h n z) : cp_V G mt d n0 z0 o h' n' z' (pc) (lv) (.int x :: rest) h n z :=
  cp_go k (fun p l e R s m args below meth c H locs cells slots Q ls B X w => lv_tableIn B.1 B.2.1 hd h1 h2 ho ht w)
theorem vv_istore_n {i : Fin 4} {x : Int32} (hd : decode mt.2.1 pc = .ok (.istore_n i, 1)) (hn : (i : Nat) < mt.2.2.1) (k : cp_V G mt d n0 z0 o h' n' z' (pc + 1) (cp_st (i : Nat) (.int x) lv) (rest) h n z) : cp_V G mt d n0 z0 o h' n' z' (pc) (lv) (.int x :: rest) h n z :=
  cp_gs k (fun p l e R s m args below meth c H locs cells slots Q ls B X w => lv_istore_n B.1 B.2.1 hd rfl X hn rfl w)
theorem vv_istore {i : Nat} {x : Int32} (hd : decode mt.2.1 pc = .ok (.istore i, 2)) (hn : i < mt.2.2.1) (k : cp_V G mt d n0 z0 o h' n' z' (pc + 2) (cp_st i (.int x) lv) (rest) h n z) : cp_V G mt d n0 z0 o h' n' z' (pc) (lv) (.int x :: rest) h n z :=
  cp_gs k (fun p l e R s m args below meth c H locs cells slots Q ls B X w => lv_istore B.1 B.2.1 hd X hn rfl w)
theorem vv_astore_n1 {i : Fin 4} {x : Nat} (hd : decode mt.2.1 pc = .ok (.astore_n i, 1)) (hn : (i : Nat) < mt.2.2.1) (k : cp_V G mt d n0 z0 o h' n' z' (pc + 1) (cp_st (i : Nat) (.ref x) lv) (rest) h n z) : cp_V G mt d n0 z0 o h' n' z' (pc) (lv) (.ref x :: rest) h n z :=
  cp_gs k (fun p l e R s m args below meth c H locs cells slots Q ls B X w => lv_astore_n B.1 B.2.1 hd rfl X hn rfl w)
theorem vv_astore1 {i : Nat} {x : Nat} (hd : decode mt.2.1 pc = .ok (.astore i, 2)) (hn : i < mt.2.2.1) (k : cp_V G mt d n0 z0 o h' n' z' (pc + 2) (cp_st i (.ref x) lv) (rest) h n z) : cp_V G mt d n0 z0 o h' n' z' (pc) (lv) (.ref x :: rest) h n z :=
  cp_gs k (fun p l e R s m args below meth c H locs cells slots Q ls B X w => lv_astore B.1 B.2.1 hd X hn rfl w)
theorem vv_astore_nN {i : Fin 4} (hd : decode mt.2.1 pc = .ok (.astore_n i, 1)) (hn : (i : Nat) < mt.2.2.1) (k : cp_V G mt d n0 z0 o h' n' z' (pc + 1) (cp_st (i : Nat) (.null) lv) (rest) h n z) : cp_V G mt d n0 z0 o h' n' z' (pc) (lv) (.null :: rest) h n z :=
  cp_gs k (fun p l e R s m args below meth c H locs cells slots Q ls B X w => lv_astore_nN B.1 B.2.1 hd rfl X hn rfl w)
theorem vv_astoreN {i : Nat} (hd : decode mt.2.1 pc = .ok (.astore i, 2)) (hn : i < mt.2.2.1) (k : cp_V G mt d n0 z0 o h' n' z' (pc + 2) (cp_st i (.null) lv) (rest) h n z) : cp_V G mt d n0 z0 o h' n' z' (pc) (lv) (.null :: rest) h n z :=
  cp_gs k (fun p l e R s m args below meth c H locs cells slots Q ls B X w => lv_astoreN B.1 B.2.1 hd X hn rfl w)
theorem vv_lstore_n {i : Fin 4} {x : Int64} (hd : decode mt.2.1 pc = .ok (.lstore_n i, 1)) (hn : (i : Nat) + 1 < mt.2.2.1) (k : cp_V G mt d n0 z0 o h' n' z' (pc + 1) (cp_st2 (i : Nat) (.long x) lv) (rest) h n z) : cp_V G mt d n0 z0 o h' n' z' (pc) (lv) (.long x :: rest) h n z :=
  cp_gs k (fun p l e R s m args below meth c H locs cells slots Q ls B X w => lv_lstore_n B.1 B.2.1 hd rfl X hn rfl w)
theorem vv_lstore {i : Nat} {x : Int64} (hd : decode mt.2.1 pc = .ok (.lstore i, 2)) (hn : i + 1 < mt.2.2.1) (k : cp_V G mt d n0 z0 o h' n' z' (pc + 2) (cp_st2 i (.long x) lv) (rest) h n z) : cp_V G mt d n0 z0 o h' n' z' (pc) (lv) (.long x :: rest) h n z :=
  cp_gs k (fun p l e R s m args below meth c H locs cells slots Q ls B X w => lv_lstore B.1 B.2.1 hd X hn rfl w)
theorem vv_astore_n {i : Fin 4} {v : Value} (hd : decode mt.2.1 pc = .ok (.astore_n i, 1)) (hr : cp_isr v) (hn : (i : Nat) < mt.2.2.1) (k : cp_V G mt d n0 z0 o h' n' z' (pc + 1) (cp_st i v lv) (rest) h n z) : cp_V G mt d n0 z0 o h' n' z' (pc) (lv) (v :: rest) h n z := by
  rcases hr with rfl | ⟨a, rfl⟩
  · exact vv_astore_nN hd hn k
  · exact vv_astore_n1 hd hn k
theorem vv_astore {i : Nat} {v : Value} (hd : decode mt.2.1 pc = .ok (.astore i, 2)) (hr : cp_isr v) (hn : i < mt.2.2.1) (k : cp_V G mt d n0 z0 o h' n' z' (pc + 2) (cp_st i v lv) (rest) h n z) : cp_V G mt d n0 z0 o h' n' z' (pc) (lv) (v :: rest) h n z := by
  rcases hr with rfl | ⟨a, rfl⟩
  · exact vv_astoreN hd hn k
  · exact vv_astore1 hd hn k
theorem cp_ld_mem {lv : List (Nat × Value)} {i : Nat} {v : Value} (h : cp_ld lv i = some v) : ∃ k : Nat, lv[k]? = some (i, v) := by
  unfold cp_ld at h
  cases hf : lv.find? (fun q => q.1 == i) with
  | none => rw [hf] at h; cases h
  | some q =>
    rw [hf] at h
    have h1 := List.mem_of_find?_eq_some hf
    have h2 := List.find?_some hf
    have h3 : q.1 = i := by simpa using h2
    have h4 : q.2 = v := by simpa using h
    obtain ⟨k, hk⟩ := List.getElem?_of_mem h1
    exact ⟨k, by rw [hk, ← h3, ← h4]⟩
theorem vv_iinc {i : Nat} {j : Int} {x v : Int32} (hd : decode mt.2.1 pc = .ok (.iinc i j, 3)) (hl : cp_ld lv i = some (.int x)) (hv : x + Int32.ofInt j = v) (hn : i < mt.2.2.1) (k : cp_V G mt d n0 z0 o h' n' z' (pc + 3) (cp_st i (.int v) lv) (rest) h n z) : cp_V G mt d n0 z0 o h' n' z' (pc) (lv) (rest) h n z := by
  obtain ⟨q, hq⟩ := cp_ld_mem hl
  exact cp_gs k (fun p l e R s m args below meth c H locs cells slots Q ls B X w => lv_iinc B.1 B.2.1 hd X hq hv hn rfl w)
theorem vv_if_eq {x : Int32} {off : Int} {tgt : Nat} (hd : decode mt.2.1 pc = .ok (.ifCond .eq off, 3)) (ht : (pc : Int) + off = (tgt : Int)) (kt : x = 0 → cp_V G mt d n0 z0 o h' n' z' (tgt) (lv) (rest) h n z) (kf : ¬ x = 0 → cp_V G mt d n0 z0 o h' n' z' (pc + 3) (lv) (rest) h n z) : cp_V G mt d n0 z0 o h' n' z' (pc) (lv) (.int x :: rest) h n z :=
  cp_br kt kf (fun p l e R s m args below meth c H locs cells slots Q ls B a b => lv_if_eq B.1 B.2.1 hd ht a b)
theorem vv_icmp_eq {x y : Int32} {off : Int} {tgt : Nat} (hd : decode mt.2.1 pc = .ok (.if_icmp .eq off, 3)) (ht : (pc : Int) + off = (tgt : Int)) (kt : x = y → cp_V G mt d n0 z0 o h' n' z' (tgt) (lv) (rest) h n z) (kf : ¬ x = y → cp_V G mt d n0 z0 o h' n' z' (pc + 3) (lv) (rest) h n z) : cp_V G mt d n0 z0 o h' n' z' (pc) (lv) (.int y :: .int x :: rest) h n z :=
  cp_br kt kf (fun p l e R s m args below meth c H locs cells slots Q ls B a b => lv_icmp_eq B.1 B.2.1 hd ht a b)
theorem vv_if_ne {x : Int32} {off : Int} {tgt : Nat} (hd : decode mt.2.1 pc = .ok (.ifCond .ne off, 3)) (ht : (pc : Int) + off = (tgt : Int)) (kt : ¬ x = 0 → cp_V G mt d n0 z0 o h' n' z' (tgt) (lv) (rest) h n z) (kf : x = 0 → cp_V G mt d n0 z0 o h' n' z' (pc + 3) (lv) (rest) h n z) : cp_V G mt d n0 z0 o h' n' z' (pc) (lv) (.int x :: rest) h n z :=
  cp_br kf kt (fun p l e R s m args below meth c H locs cells slots Q ls B a b => lv_if_ne B.1 B.2.1 hd ht b a)
theorem vv_icmp_ne {x y : Int32} {off : Int} {tgt : Nat} (hd : decode mt.2.1 pc = .ok (.if_icmp .ne off, 3)) (ht : (pc : Int) + off = (tgt : Int)) (kt : ¬ x = y → cp_V G mt d n0 z0 o h' n' z' (tgt) (lv) (rest) h n z) (kf : x = y → cp_V G mt d n0 z0 o h' n' z' (pc + 3) (lv) (rest) h n z) : cp_V G mt d n0 z0 o h' n' z' (pc) (lv) (.int y :: .int x :: rest) h n z :=
  cp_br kf kt (fun p l e R s m args below meth c H locs cells slots Q ls B a b => lv_icmp_ne B.1 B.2.1 hd ht b a)
theorem vv_if_lt {x : Int32} {off : Int} {tgt : Nat} (hd : decode mt.2.1 pc = .ok (.ifCond .lt off, 3)) (ht : (pc : Int) + off = (tgt : Int)) (kt : x < 0 → cp_V G mt d n0 z0 o h' n' z' (tgt) (lv) (rest) h n z) (kf : ¬ x < 0 → cp_V G mt d n0 z0 o h' n' z' (pc + 3) (lv) (rest) h n z) : cp_V G mt d n0 z0 o h' n' z' (pc) (lv) (.int x :: rest) h n z :=
  cp_br kt kf (fun p l e R s m args below meth c H locs cells slots Q ls B a b => lv_if_lt B.1 B.2.1 hd ht a b)
theorem vv_icmp_lt {x y : Int32} {off : Int} {tgt : Nat} (hd : decode mt.2.1 pc = .ok (.if_icmp .lt off, 3)) (ht : (pc : Int) + off = (tgt : Int)) (kt : x < y → cp_V G mt d n0 z0 o h' n' z' (tgt) (lv) (rest) h n z) (kf : ¬ x < y → cp_V G mt d n0 z0 o h' n' z' (pc + 3) (lv) (rest) h n z) : cp_V G mt d n0 z0 o h' n' z' (pc) (lv) (.int y :: .int x :: rest) h n z :=
  cp_br kt kf (fun p l e R s m args below meth c H locs cells slots Q ls B a b => lv_icmp_lt B.1 B.2.1 hd ht a b)
theorem vv_if_ge {x : Int32} {off : Int} {tgt : Nat} (hd : decode mt.2.1 pc = .ok (.ifCond .ge off, 3)) (ht : (pc : Int) + off = (tgt : Int)) (kt : 0 ≤ x → cp_V G mt d n0 z0 o h' n' z' (tgt) (lv) (rest) h n z) (kf : ¬ 0 ≤ x → cp_V G mt d n0 z0 o h' n' z' (pc + 3) (lv) (rest) h n z) : cp_V G mt d n0 z0 o h' n' z' (pc) (lv) (.int x :: rest) h n z :=
  cp_br kt kf (fun p l e R s m args below meth c H locs cells slots Q ls B a b => lv_if_ge B.1 B.2.1 hd ht a b)
theorem vv_icmp_ge {x y : Int32} {off : Int} {tgt : Nat} (hd : decode mt.2.1 pc = .ok (.if_icmp .ge off, 3)) (ht : (pc : Int) + off = (tgt : Int)) (kt : y ≤ x → cp_V G mt d n0 z0 o h' n' z' (tgt) (lv) (rest) h n z) (kf : ¬ y ≤ x → cp_V G mt d n0 z0 o h' n' z' (pc + 3) (lv) (rest) h n z) : cp_V G mt d n0 z0 o h' n' z' (pc) (lv) (.int y :: .int x :: rest) h n z :=
  cp_br kt kf (fun p l e R s m args below meth c H locs cells slots Q ls B a b => lv_icmp_ge B.1 B.2.1 hd ht a b)
theorem vv_if_gt {x : Int32} {off : Int} {tgt : Nat} (hd : decode mt.2.1 pc = .ok (.ifCond .gt off, 3)) (ht : (pc : Int) + off = (tgt : Int)) (kt : 0 < x → cp_V G mt d n0 z0 o h' n' z' (tgt) (lv) (rest) h n z) (kf : ¬ 0 < x → cp_V G mt d n0 z0 o h' n' z' (pc + 3) (lv) (rest) h n z) : cp_V G mt d n0 z0 o h' n' z' (pc) (lv) (.int x :: rest) h n z :=
  cp_br kt kf (fun p l e R s m args below meth c H locs cells slots Q ls B a b => lv_if_gt B.1 B.2.1 hd ht a b)
theorem vv_icmp_gt {x y : Int32} {off : Int} {tgt : Nat} (hd : decode mt.2.1 pc = .ok (.if_icmp .gt off, 3)) (ht : (pc : Int) + off = (tgt : Int)) (kt : y < x → cp_V G mt d n0 z0 o h' n' z' (tgt) (lv) (rest) h n z) (kf : ¬ y < x → cp_V G mt d n0 z0 o h' n' z' (pc + 3) (lv) (rest) h n z) : cp_V G mt d n0 z0 o h' n' z' (pc) (lv) (.int y :: .int x :: rest) h n z :=
  cp_br kt kf (fun p l e R s m args below meth c H locs cells slots Q ls B a b => lv_icmp_gt B.1 B.2.1 hd ht a b)
theorem vv_if_le {x : Int32} {off : Int} {tgt : Nat} (hd : decode mt.2.1 pc = .ok (.ifCond .le off, 3)) (ht : (pc : Int) + off = (tgt : Int)) (kt : x ≤ 0 → cp_V G mt d n0 z0 o h' n' z' (tgt) (lv) (rest) h n z) (kf : ¬ x ≤ 0 → cp_V G mt d n0 z0 o h' n' z' (pc + 3) (lv) (rest) h n z) : cp_V G mt d n0 z0 o h' n' z' (pc) (lv) (.int x :: rest) h n z :=
  cp_br kt kf (fun p l e R s m args below meth c H locs cells slots Q ls B a b => lv_if_le B.1 B.2.1 hd ht a b)
theorem vv_icmp_le {x y : Int32} {off : Int} {tgt : Nat} (hd : decode mt.2.1 pc = .ok (.if_icmp .le off, 3)) (ht : (pc : Int) + off = (tgt : Int)) (kt : x ≤ y → cp_V G mt d n0 z0 o h' n' z' (tgt) (lv) (rest) h n z) (kf : ¬ x ≤ y → cp_V G mt d n0 z0 o h' n' z' (pc + 3) (lv) (rest) h n z) : cp_V G mt d n0 z0 o h' n' z' (pc) (lv) (.int y :: .int x :: rest) h n z :=
  cp_br kt kf (fun p l e R s m args below meth c H locs cells slots Q ls B a b => lv_icmp_le B.1 B.2.1 hd ht a b)
theorem vv_acmp_eq {rx ry : Option Nat} {off : Int} {tgt : Nat} (hd : decode mt.2.1 pc = .ok (.if_acmp .eq off, 3)) (ht : (pc : Int) + off = (tgt : Int)) (kt : rx = ry → cp_V G mt d n0 z0 o h' n' z' (tgt) (lv) (rest) h n z) (kf : ¬ rx = ry → cp_V G mt d n0 z0 o h' n' z' (pc + 3) (lv) (rest) h n z) : cp_V G mt d n0 z0 o h' n' z' (pc) (lv) (va_rf ry :: va_rf rx :: rest) h n z :=
  cp_br kt kf (fun p l e R s m args below meth c H locs cells slots Q ls B a b => lv_acmp_eq B.1 B.2.1 hd ht a b)
theorem vv_acmp_ne {rx ry : Option Nat} {off : Int} {tgt : Nat} (hd : decode mt.2.1 pc = .ok (.if_acmp .ne off, 3)) (ht : (pc : Int) + off = (tgt : Int)) (kt : ¬ rx = ry → cp_V G mt d n0 z0 o h' n' z' (tgt) (lv) (rest) h n z) (kf : rx = ry → cp_V G mt d n0 z0 o h' n' z' (pc + 3) (lv) (rest) h n z) : cp_V G mt d n0 z0 o h' n' z' (pc) (lv) (va_rf ry :: va_rf rx :: rest) h n z :=
  cp_br kf kt (fun p l e R s m args below meth c H locs cells slots Q ls B a b => lv_acmp_ne B.1 B.2.1 hd ht b a)
end CPR
