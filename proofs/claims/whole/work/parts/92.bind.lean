/-! ===== the class's bindings; a constant is made ===== -/
def BS (K : cp_K) (n : Nat) : Prop := rsz K 15 = n ∧ rsz K 17 = n ∧ rsz K 19 = n
/-- the index i is the last one from 'frame' on, below n, that has the name -/
def IX (K : cp_K) (x : Int32) (frame n i : Nat) : Prop := frame ≤ i ∧ i < n ∧ rat K 15 i = x ∧ ∀ j, i < j → j < n → ¬ rat K 15 j = x
section CPBI
variable {K : cp_K} {x y : Int32} {frame n : Nat}
theorem ix_found {i : Nat} (h : IX K x frame n i) (hn : n ≤ rsz K 15) (hz : rsz K 15 < 2 ^ 30) : ∀ (b j : Nat), i + 1 + b = j → j ≤ n → JC 6 m_B_indexOf (fun _ => .inl (some (.int (nI i)))) K 5 (fun G => [(0, .ref (cp_b G + 14)), (1, .int x), (2, .int (nI frame)), (3, .int y), (4, .int (nI j - 1))]) (fun _ => []) K
  | 0, j, e, hj => by
    obtain ⟨h1, h2, h3, h4⟩ := h
    have ej : j = i + 1 := by omega
    subst ej
    rw [nI_pred]
    refine b_B_indexOf_5 (D := 0) ⟨fun hn => absurd hn (nI_nlt (by omega) (by omega)), fun _ => ?_⟩
    rw [rget_of (by omega) (by omega)]
    exact ⟨fun hn => absurd h3 hn, fun _ => ⟨rfl, rfl⟩⟩
  | b + 1, j, e, hj => by
    obtain ⟨j', rfl⟩ : ∃ j', j = j' + 1 := ⟨j - 1, by omega⟩
    have ih := ix_found h hn hz b j' (by omega) (by omega)
    obtain ⟨h1, h2, h3, h4⟩ := h
    rw [nI_pred]
    refine b_B_indexOf_5 (D := 0) ⟨fun hn => absurd hn (nI_nlt (by omega) (by omega)), fun _ => ?_⟩
    rw [rget_of (by omega) (by omega)]
    refine ⟨fun _ => ?_, fun hn => absurd hn (h4 j' (by omega) (by omega))⟩
    rw [show nI j' + (-1) = nI j' - 1 from (Int32.sub_eq_add_neg _ _).symm]
    exact ih
theorem ix_none (hn : n ≤ rsz K 15) (hz : rsz K 15 < 2 ^ 30) (hf : frame < 2 ^ 30) (h : ∀ i, frame ≤ i → i < n → ¬ rat K 15 i = x) : ∀ (j : Nat), j ≤ n → JC 6 m_B_indexOf (fun _ => .inl (some (.int (-1)))) K 5 (fun G => [(0, .ref (cp_b G + 14)), (1, .int x), (2, .int (nI frame)), (3, .int y), (4, .int (nI j - 1))]) (fun _ => []) K
  | 0, _ => by
    refine b_B_indexOf_5 (D := 0) ⟨fun _ => ⟨rfl, rfl⟩, fun hn => absurd ?_ hn⟩
    rw [show nI 0 - 1 = -1 by decide]
    exact Int32.lt_of_lt_of_le (show (-1 : Int32) < 0 by decide) (nI_pos' (by omega))
  | j + 1, hj => by
    have ih := ix_none hn hz hf h j (by omega)
    rw [nI_pred]
    by_cases hfj : frame ≤ j
    · refine b_B_indexOf_5 (D := 0) ⟨fun hn => absurd hn (nI_nlt (by omega) (by omega)), fun _ => ?_⟩
      rw [rget_of (by omega) (by omega)]
      refine ⟨fun _ => ?_, fun hn => absurd hn (h j hfj (by omega))⟩
      rw [show nI j + (-1) = nI j - 1 from (Int32.sub_eq_add_neg _ _).symm]
      exact ih
    · exact b_B_indexOf_5 (D := 0) ⟨fun _ => ⟨rfl, rfl⟩, fun hn => absurd (nI_lt (by omega) (by omega)) hn⟩
theorem K_indexOf {i : Nat} (h : IX K x frame n i) (hn : n ≤ rsz K 15) (hz : rsz K 15 < 2 ^ 30) : KC 6 m_B_indexOf (fun G => [.ref (cp_b G + 14), .int x, .int (nI frame), .int (nI n)]) K (fun _ => some (.int (nI i))) K := by
  have := h.2.1
  exact c_B_indexOf (D := 0) (ix_found h hn hz (n - i - 1) n (by omega) (Nat.le_refl _))
theorem K_indexOf0 (hn : n ≤ rsz K 15) (hz : rsz K 15 < 2 ^ 30) (hf : frame < 2 ^ 30) (h : ∀ i, frame ≤ i → i < n → ¬ rat K 15 i = x) : KC 6 m_B_indexOf (fun G => [.ref (cp_b G + 14), .int x, .int (nI frame), .int (nI n)]) K (fun _ => some (.int (-1))) K :=
  c_B_indexOf (D := 0) (ix_none hn hz hf h n (Nat.le_refl _))
/-- the variable c has the value v -/
def LU (K : cp_K) (frame c v : Nat) : Prop := ∃ i, IX K (nI (97 + c)) frame (rsz K 15) i ∧ rat K 17 i = nI v
theorem K_valueOf {c v : Nat} (h : LU K frame c v) (hb : BS K n) (hz : n < 2 ^ 30) : KC 8 m_B_valueOf (fun G => [.ref (cp_b G + 14), .int (nI (97 + c)), .int (nI frame)]) K (fun _ => some (.int (nI v))) K := by
  obtain ⟨i, h1, h2⟩ := h
  have := h1.2.1
  refine c_B_valueOf (D := 0) ⟨nI i, K, (K_indexOf h1 (Nat.le_refl _) (by rw [hb.1]; exact hz)).mono (by omega), ?_, rfl⟩
  rw [rget_of (by rw [hb.2.1, ← hb.1]; exact this) (by rw [hb.2.1]; omega), h2]
/-- an unnamed binding is laid on top -/
theorem BS.push {a1 a2 a3 : Int32} (h : BS K n) : BS (bpush K a1 a2 a3) (n + 1) := ⟨by rw [bpush_sz15, h.1], by rw [bpush_sz17, h.2.1], by rw [bpush_sz19, h.2.2]⟩
theorem bpush_at15 {a1 a2 a3 : Int32} : rat (bpush K a1 a2 a3) 15 = va_up (rat K 15) (rsz K 15) a1 := by unfold bpush; rw [kpush_at, if_neg (by decide), kpush_at, if_neg (by decide), kpush_at, if_pos rfl]
theorem bpush_at17 {a1 a2 a3 : Int32} : rat (bpush K a1 a2 a3) 17 = va_up (rat K 17) (rsz K 17) a2 := by unfold bpush; rw [kpush_at, if_neg (by decide), kpush_at, if_pos rfl, kpush_at, if_neg (by decide), kpush_sz, if_neg (by decide)]
theorem bpush_at19 {a1 a2 a3 : Int32} : rat (bpush K a1 a2 a3) 19 = va_up (rat K 19) (rsz K 19) a3 := by unfold bpush; rw [kpush_at, if_pos rfl, kpush_at, if_neg (by decide), kpush_at, if_neg (by decide), kpush_sz, if_neg (by decide), kpush_sz, if_neg (by decide)]
theorem KF.bpush {a1 a2 a3 : Int32} : KF [15, 17, 19] K (bpush K a1 a2 a3) := (((KF.push (by decide)).sub (by decide)).trans ((KF.push (by decide)).sub (by decide))).trans ((KF.push (by decide)).sub (by decide))
theorem KF.bcut {i : Int32} : KF [15, 17, 19] K (bcut K i) := ((KF.cut.sub (by decide)).trans (KF.cut.sub (by decide))).trans (KF.cut.sub (by decide))
theorem bcut_at {q : Nat} {i : Int32} : rat (bcut K i) q = rat K q := by unfold bcut; rw [kcut_at, kcut_at, kcut_at]
theorem bcut_BS {m : Nat} (h : BS K n) (hm : m ≤ n) (hn : n < 2 ^ 30) : BS (bcut K (nI m)) m := by
  unfold bcut
  have s1 : ∀ q, rsz (kcut K 15 (nI m)) q = if q = 15 then m else rsz K q := fun q => kcut_sz (by rw [h.1]; exact hm) (by rw [h.1]; omega)
  have s2 : ∀ q, rsz (kcut (kcut K 15 (nI m)) 17 (nI m)) q = if q = 17 then m else rsz (kcut K 15 (nI m)) q := fun q => kcut_sz (by rw [s1, if_neg (by decide), h.2.1]; exact hm) (by rw [s1, if_neg (by decide), h.2.1]; omega)
  have s3 : ∀ q, rsz (kcut (kcut (kcut K 15 (nI m)) 17 (nI m)) 19 (nI m)) q = if q = 19 then m else rsz (kcut (kcut K 15 (nI m)) 17 (nI m)) q := fun q => kcut_sz (by rw [s2, if_neg (by decide), s1, if_neg (by decide), h.2.2]; exact hm) (by rw [s2, if_neg (by decide), s1, if_neg (by decide), h.2.2]; omega)
  refine ⟨?_, ?_, ?_⟩
  · rw [s3, if_neg (by decide), s2, if_neg (by decide), s1, if_pos rfl]
  · rw [s3, if_neg (by decide), s2, if_pos rfl]
  · rw [s3, if_pos rfl]
theorem LU.push {c v : Nat} {a2 a3 : Int32} (h : LU K frame c v) (hb : BS K n) (hc : c < 26) : LU (bpush K 0 a2 a3) frame c v := by
  obtain ⟨i, ⟨h1, h2, h3, h4⟩, h5⟩ := h
  have e15 := hb.1
  have e17 := hb.2.1
  refine ⟨i, ⟨h1, by rw [bpush_sz15]; omega, ?_, fun j j1 j2 => ?_⟩, ?_⟩
  · rw [bpush_at15, cp_up_ne (by omega)]; exact h3
  · rw [bpush_sz15] at j2
    rw [bpush_at15]
    by_cases hj : j = rsz K 15
    · rw [hj, va_up_at]
      intro e
      exact absurd e.symm (nI_ne0 (by omega) (by omega))
    · rw [cp_up_ne hj]; exact h4 j j1 (by omega)
  · rw [bpush_at17, cp_up_ne (by omega)]; exact h5
end CPBI
/-- makeConstant: the arguments are the held values from 'from' on -/
theorem mkc_loop {x1 : Int32} {v from0 m N : Nat} {h : Nat → Int32} : ∀ (b i : Nat) (K : cp_K), i + b = m → rat K 17 = h → rsz K 17 = from0 + m → from0 + m < 2 ^ 30 → rsz K 7 = N + i → N + m < 1048576 →
    ∃ K', KF [7] K K' ∧ rsz K' 7 = N + m ∧ (∀ j, j < N + i → rat K' 7 j = rat K 7 j) ∧ (∀ j, i ≤ j → j < m → rat K' 7 (N + j) = h (from0 + j)) ∧ JC 8 m_V_makeConstant (fun _ => .inl (some (.int (nI v)))) K' 33 (fun G => [(0, .ref (cp_b G + 6)), (1, .int x1), (2, .ref (cp_b G + 14)), (3, .int (nI from0)), (4, .int (nI v)), (5, .int (nI m)), (6, .int (nI i))]) (fun _ => []) K
  | 0, i, K, e, e17, s17, h30, s7, hN => by
    refine ⟨K, KF.refl, by omega, fun _ _ => rfl, fun j j1 j2 => by omega, b_V_makeConstant_33 (D := 0) ⟨fun _ => ⟨rfl, rfl⟩, fun hn => absurd (nI_le (by omega) (by omega)) hn⟩⟩
  | b + 1, i, K, e, e17, s17, h30, s7, hN => by
    have kf : KF [7] K (kpush K 7 (h (from0 + i))) := KF.push (by decide)
    obtain ⟨K', k1, k2, k3, k4, k5⟩ := mkc_loop (x1 := x1) (v := v) (h := h) b (i + 1) (kpush K 7 (h (from0 + i))) (by omega) (by rw [(kf.2.2.1 17 (by decide)).2]; exact e17) (by rw [(kf.2.2.1 17 (by decide)).1]; exact s17) h30 (by rw [kpush_sz, if_pos rfl, s7]; omega) hN
    refine ⟨K', kf.trans k1, k2, fun j hj => ?_, fun j j1 j2 => ?_, b_V_makeConstant_33 (D := 0) ⟨fun hn => absurd hn (nI_ge (by omega) (by omega)), fun _ => ⟨by show rsz K 7 < 1048576; omega, ?_⟩⟩⟩
    · rw [k3 j (by omega), kpush_at, if_pos rfl, cp_up_ne (by omega)]
    · by_cases hj : j = i
      · subst hj
        rw [k3 (N + j) (by omega), kpush_at, if_pos rfl, s7, va_up_at]
      · exact k4 j (by omega) j2
    · rw [nI_add, rget_of (by omega) (by omega), e17, nI_1]
      exact k5
theorem mks_at {K : cp_K} {x y : Int32} : rat (mks K x y) 7 = va_up (va_up (va_up (rat K 7) (rsz K 7) x) (rsz K 7 + 1) y) (rsz K 7 + 2) 0 := by
  unfold mks
  rw [kpush_at, if_pos rfl, kpush_at, if_pos rfl, kpush_at, if_pos rfl, kpush_sz, if_pos rfl, kpush_sz, if_pos rfl, kpush_sz, if_pos rfl]
theorem mks_at_ne {K : cp_K} {x y : Int32} {q : Nat} (h : q ≠ 7) : rat (mks K x y) q = rat K q := by unfold mks; rw [kpush_at, if_neg h, kpush_at, if_neg h, kpush_at, if_neg h]
theorem KF.mks {K : cp_K} {x y : Int32} : KF [7] K (mks K x y) := ((KF.push (by decide)).trans (KF.push (by decide))).trans (KF.push (by decide))
theorem K_makeConstant {K : cp_K} {x1 : Int32} {n from0 m : Nat} (hb : BS K n) (hn : n < 16384) (hm : from0 + m = n) (hN : rsz K 7 + 3 + m < 1048576) :
    ∃ K', KF [7] K K' ∧ rsz K' 7 = rsz K 7 + 3 + m ∧ (∀ j, j < rsz K 7 → rat K' 7 j = rat K 7 j) ∧ rat K' 7 (rsz K 7) = 6 ∧ rat K' 7 (rsz K 7 + 1) = x1 ∧ rat K' 7 (rsz K 7 + 2) = nI m ∧ (∀ i, i < m → rat K' 7 (rsz K 7 + 3 + i) = rat K 17 (from0 + i)) ∧ KC 8 m_V_makeConstant (fun G => [.ref (cp_b G + 6), .int x1, .ref (cp_b G + 14), .int (nI from0)]) K (fun _ => some (.int (nI (rsz K 7)))) K' := by
  have kf : KF [7] K (mks K 6 x1) := KF.mks
  have s15 : rsz (mks K 6 x1) 15 = n := by rw [(kf.2.2.1 15 (by decide)).1]; exact hb.1
  have s7 : rsz (mks K 6 x1) 7 = rsz K 7 + 3 := by rw [mks_sz, if_pos rfl]
  have ec : nI (rsz (mks K 6 x1) 15) - nI from0 = nI m := by rw [s15, pk_sub (by omega)]; congr 1; omega
  have kf2 : KF [7] K (kset (mks K 6 x1) 7 (nI (rsz K 7) + 2) (nI m)) := kf.trans KF.set
  have e2 : nI (rsz K 7) + 2 = nI (rsz K 7 + 2) := by rw [show (2 : Int32) = nI 2 from rfl, nI_add]
  have at2 : rat (kset (mks K 6 x1) 7 (nI (rsz K 7) + 2) (nI m)) 7 = va_up (rat (mks K 6 x1) 7) (rsz K 7 + 2) (nI m) := by rw [e2, kset_at (by omega) (by omega), if_pos rfl]
  obtain ⟨K', k1, k2, k3, k4, k5⟩ := mkc_loop (x1 := x1) (v := rsz K 7) (from0 := from0) (m := m) (N := rsz K 7 + 3) (h := rat K 17) m 0 (kset (mks K 6 x1) 7 (nI (rsz K 7) + 2) (nI m)) (by omega) (kf2.2.2.1 17 (by decide)).2 (by rw [(kf2.2.2.1 17 (by decide)).1, hb.2.1]; omega) (by omega) (by rw [kset_sz, s7]) (by omega)
  have lo : ∀ j, j < rsz K 7 + 3 → rat K' 7 j = va_up (va_up (va_up (va_up (rat K 7) (rsz K 7) 6) (rsz K 7 + 1) x1) (rsz K 7 + 2) 0) (rsz K 7 + 2) (nI m) j := fun j hj => by rw [k3 j (by omega), at2, mks_at]
  refine ⟨K', kf2.trans k1, k2, fun j hj => ?_, ?_, ?_, ?_, fun i hi => k4 i (by omega) hi, ?_⟩
  · rw [lo j (by omega), cp_up_ne (by omega), cp_up_ne (by omega), cp_up_ne (by omega), cp_up_ne (by omega)]
  · rw [lo _ (by omega), cp_up_ne (by omega), cp_up_ne (by omega), cp_up_ne (by omega), va_up_at]
  · rw [lo _ (by omega), cp_up_ne (by omega), cp_up_ne (by omega), va_up_at]
  · rw [lo _ (by omega), va_up_at]
  · refine c_V_makeConstant (D := 0) ⟨by show rsz K 7 + 2 < 1048576; omega, ?_⟩
    rw [ec]
    exact k5
