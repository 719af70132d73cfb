/-! ===== Row over the class's state ===== -/
/-- a method of the class, at most D calls deep, brings K to K' and gives o -/
def KC (D : Nat) (mk : cp_M) (As : cp_G → List Value) (K : cp_K) (o : cp_G → Option Value) (K' : cp_K) : Prop := ∀ (G : cp_G) (H h : Nat → cp_E) (z d : Nat), D ≤ d → CK G H h z K → ∃ h' z', CK G H h' z' K' ∧ cp_C G d mk (As G) h K.1.1 z (o G) h' K'.1.1 z'
theorem KC.mono {D D' : Nat} {mk : cp_M} {As : cp_G → List Value} {K K' : cp_K} {o : cp_G → Option Value} (k : KC D mk As K o K') (h : D ≤ D') : KC D' mk As K o K' := fun G H h0 z d hd c => k G H h0 z d (Nat.le_trans h hd) c
theorem k_tab_hi {i : Nat} (h : 26 ≤ i) : k_tab i = 99 := by
  unfold k_tab
  rw [List.getD_eq_getElem?_getD, List.getElem?_eq_none (by simpa using h)]
  rfl
theorem CK.row {G : cp_G} {H h h' : Nat → cp_E} {z z' r : Nat} {K K' : cp_K} (C : CK G H h z K) (hr : r ∈ k_rows) (e2 : K'.2.1 = K.2.1) (e3 : K'.2.2.1 = K.2.2.1) (e4 : ∀ q, q ≠ r → K'.2.2.2 q = K.2.2.2 q) (hn : K.1.1 ≤ K'.1.1) (ht : ∀ p, p < K.1.1 → kt K' p = kt K p) (hnew : ∀ p, K.1.1 ≤ p → p < K'.1.1 → ¬ kt K' p < 14)
    (hh : ∀ p, p < K.1.1 → p ≠ r → kt K p ≠ 100 + r → h' p = h p) (hR : k_row G h' K' r) (hz : z' ≤ 49035 + 7 * (K'.1.1 - 86) + 2 * k_caps K') : CK G H h' z' K' := by
  obtain ⟨c1, c2, c3, c4, c5, c6, c7⟩ := C
  have hrt := k_rt hr
  refine ⟨by omega, fun i h1 h2 => ?_, fun p h1 h2 => ?_, fun q hq => ?_, ?_, fun q hq => ?_, hz⟩
  · rw [hh i (by omega) (by omega) (by rw [kt_lo h2, k_tab_hi h1]; omega)]
    exact c2 i h1 h2
  · by_cases hp : p < K.1.1
    · rw [ht p hp] at h2 ⊢
      rw [hh p hp (by intro e; subst e; rw [kt_lo (by omega)] at h2; omega) (by omega), c3 p hp h2]
      congr 2
      funext k
      unfold kg
      rw [e2, e3]
    · exact absurd h2 (hnew p (by omega) h1)
  · have h3 := k_ct hq
    rw [hh q.1 (by omega) (by intro e; exact h3.2.2.2 (e ▸ hr)) (by rw [kt_lo (by omega)]; omega), c4 q hq, e2]
  · rw [hh 4 (by omega) (by intro e; rw [← e] at hr; revert hr; decide) (by rw [kt_lo (by omega), show k_tab 4 = 99 from rfl]; omega), c5]
    unfold k_ent
    rw [e3]
  · by_cases hqr : q = r
    · rw [hqr]; exact hR
    · refine (c6 q hq).mv hn ht (e4 q hqr) hq (fun p h1 h2 => hh p h1 ?_ ?_)
      · intro e
        rcases h2 with h2 | h2
        · exact hqr (h2.symm.trans e)
        · rw [e, kt_lo (by omega)] at h2
          omega
      · rcases h2 with h2 | h2
        · have := k_rt hq
          rw [h2, kt_lo (by omega)]; omega
        · rw [h2]; omega
def rsz (K : cp_K) (r : Nat) : Nat := (K.2.2.2 r).1
def rcap (K : cp_K) (r : Nat) : Nat := (K.2.2.2 r).2.1
def rat (K : cp_K) (r : Nat) : Nat → Int32 := (K.2.2.2 r).2.2
def rget (K : cp_K) (r : Nat) (i : Int32) : Int32 := if i < 0 ∨ nI (rsz K r) ≤ i then -1 else rat K r i.toNatClampNeg
def kset (K : cp_K) (r : Nat) (i x : Int32) : cp_K := if i < 0 ∨ nI (rsz K r) ≤ i then K else kS K r (rsz K r, rcap K r, va_up (rat K r) i.toNatClampNeg x)
def kcut (K : cp_K) (r : Nat) (i : Int32) : cp_K := if i < 0 ∨ nI (rsz K r) ≤ i then K else kS K r (i.toNatClampNeg, rcap K r, rat K r)
def rtop (K : cp_K) (r : Nat) : Int32 := if rsz K r = 0 then -1 else rat K r (rsz K r - 1)
def kpop (K : cp_K) (r : Nat) : cp_K := if rsz K r = 0 then K else kS K r (rsz K r - 1, rcap K r, rat K r)
def kpush (K : cp_K) (r : Nat) (x : Int32) : cp_K := if rsz K r = rcap K r then ((K.1.1 + 1, va_up K.1.2 K.1.1 (100 + r)), K.2.1, K.2.2.1, va_up K.2.2.2 r (rsz K r + 1, 2 * rcap K r, va_up (rat K r) (rsz K r) x)) else kS K r (rsz K r + 1, rcap K r, va_up (rat K r) (rsz K r) x)
theorem CK.rw {G : cp_G} {H h : Nat → cp_E} {z r : Nat} {K : cp_K} (C : CK G H h z K) (hr : r ∈ k_rows) : k_row G h K r := C.2.2.2.2.2.1 r hr
theorem k_caps_S {K : cp_K} {r s : Nat} {f : Nat → Int32} : k_caps (kS K r (s, rcap K r, f)) = k_caps K := by
  have : ∀ q, ((kS K r (s, rcap K r, f)).2.2.2 q).2.1 = (K.2.2.2 q).2.1 := by
    intro q
    unfold kS
    by_cases h : q = r
    · subst h; simp only [va_up_at]; rfl
    · simp only [cp_up_ne h]
  unfold k_caps
  simp only [this]
/-- the Row changes, its room stays -/
theorem CK.rowS {G : cp_G} {H h h' : Nat → cp_E} {z r s a : Nat} {K : cp_K} {f f' : Nat → Int32} {g g' : Nat → Value} (C : CK G H h z K) (hr : r ∈ k_rows) (ha : kt K a = 100 + r) (hR : cp_row G h' K.1.1 r g a (rcap K r) s f') (hf : ∀ j, j < s → f' j = f j) (hh : ∀ p, p ≠ r → p ≠ a → h' p = h p) :
    CK G H h' z (kS K r (s, rcap K r, f)) := by
  refine C.row hr rfl rfl (fun q hq => cp_up_ne hq) (Nat.le_refl _) (fun p _ => rfl) (fun p h1 h2 => absurd (show p < K.1.1 from h2) (by omega)) (fun p h1 h2 h3 => hh p h2 (by intro e; exact h3 (e ▸ ha))) ?_ (by rw [k_caps_S]; exact C.2.2.2.2.2.2)
  have e : (kS K r (s, rcap K r, f)).2.2.2 r = (s, rcap K r, f) := va_up_at
  refine ⟨⟨g, a, f', ?_, ha, ?_⟩, ?_⟩
  · rw [e]; exact hR
  · rw [e]; exact hf
  · rw [e]; exact (C.rw hr).2
section CPRK
variable {K : cp_K} {r : Nat} {i x : Int32}
theorem K_size (hr : r ∈ k_rows) : KC 0 m_R_size (fun G => [.ref (cp_b G + r)]) K (fun _ => some (.int (nI (rsz K r)))) K := fun G H h z d _ C => by
  obtain ⟨⟨g, a, f, R, -, -⟩, -⟩ := C.rw hr
  exact ⟨h, z, C, c_R_size R⟩
theorem K_get (hr : r ∈ k_rows) : KC 0 m_R_get (fun G => [.ref (cp_b G + r), .int i]) K (fun _ => some (.int (rget K r i))) K := fun G H h z d _ C => by
  obtain ⟨⟨g, a, f, R, -, hf⟩, hl⟩ := C.rw hr
  refine ⟨h, z, C, ?_⟩
  have hs : rsz K r < 2 ^ 31 := by
    have := R.2.2.2.2.1
    have := R.2.2.2.2.2.2
    unfold rsz
    omega
  unfold rget
  by_cases hi : i < 0 ∨ nI (rsz K r) ≤ i
  · rw [if_pos hi]; exact c_R_get_out R hi
  · rw [if_neg hi]
    rcases pk_ix i hs with h1 | h1 | ⟨j, hj, rfl⟩
    · exact absurd (Or.inl h1) hi
    · exact absurd (Or.inr h1) hi
    · rw [nI_clamp (by omega), show rat K r j = f j from (hf j hj).symm]
      exact c_R_get R hj
theorem K_set (hr : r ∈ k_rows) : KC 0 m_R_set (fun G => [.ref (cp_b G + r), .int i, .int x]) K (fun _ => none) (kset K r i x) := fun G H h z d _ C => by
  obtain ⟨⟨g, a, f, R, hta, hf⟩, hl⟩ := C.rw hr
  have hs : rsz K r < 2 ^ 31 := by
    have := R.2.2.2.2.1
    have := R.2.2.2.2.2.2
    unfold rsz
    omega
  unfold kset
  by_cases hi : i < 0 ∨ nI (rsz K r) ≤ i
  · rw [if_pos hi]; exact ⟨h, z, C, c_R_set_out R hi⟩
  · rw [if_neg hi]
    rcases pk_ix i hs with h1 | h1 | ⟨j, hj, rfl⟩
    · exact absurd (Or.inl h1) hi
    · exact absurd (Or.inr h1) hi
    · rw [nI_clamp (by omega)]
      refine ⟨_, z, ?_, c_R_set R hj⟩
      obtain ⟨q1, q2, ⟨q3, q4, q5⟩, q6, q7, q8, q9⟩ := R
      have hra : r ≠ a := by
        intro e
        rw [e, q6] at q3
        cases q3
      refine C.rowS (g := g) hr hta ⟨q1, q2, ⟨?_, q4, q5⟩, va_up_at, q7, q8, q9⟩ (fun k hk => ?_) (fun p h1 h2 => cp_up_ne h2) (g' := g)
      · rw [cp_up_ne hra]; exact q3
      · rw [upd_up]
        by_cases hkj : k = j
        · subst hkj; rw [va_up_at, va_up_at]
        · rw [cp_up_ne hkj, cp_up_ne hkj]; exact hf k hk
theorem K_cut (hr : r ∈ k_rows) : KC 0 m_R_cut (fun G => [.ref (cp_b G + r), .int i]) K (fun _ => none) (kcut K r i) := fun G H h z d _ C => by
  obtain ⟨⟨g, a, f, R, hta, hf⟩, hl⟩ := C.rw hr
  have hs : rsz K r < 2 ^ 31 := by
    have := R.2.2.2.2.1
    have := R.2.2.2.2.2.2
    unfold rsz
    omega
  unfold kcut
  by_cases hi : i < 0 ∨ nI (rsz K r) ≤ i
  · rw [if_pos hi]; exact ⟨h, z, C, c_R_cut_out R hi⟩
  · rw [if_neg hi]
    rcases pk_ix i hs with h1 | h1 | ⟨j, hj, rfl⟩
    · exact absurd (Or.inl h1) hi
    · exact absurd (Or.inr h1) hi
    · rw [nI_clamp (by omega)]
      refine ⟨_, z, ?_, c_R_cut R hj⟩
      obtain ⟨q1, q2, ⟨q3, q4, q5⟩, q6, q7, q8, q9⟩ := R
      have hra : a ≠ r := by
        intro e
        rw [e, q3] at q6
        cases q6
      have hj2 : j < (K.2.2.2 r).1 := hj
      refine C.rowS (g := va_up g 1 (.int (nI j))) hr hta ⟨q1, q2, ⟨va_up_at, ?_, va_up_at⟩, ?_, by unfold rcap; omega, q8, q9⟩ (fun k hk => hf k (by omega)) (fun p h1 h2 => cp_up_ne h1) (g' := g)
      · rw [cp_up_ne (by omega)]; exact q4
      · rw [cp_up_ne hra]; exact q6
theorem c_R_pop0 {G : cp_G} {h : Nat → cp_E} {n z d r a cap : Nat} {g : Nat → Value} {f : Nat → Int32} (R : cp_row G h n r g a cap 0 f) : cp_C G d m_R_pop [.ref (cp_b G + r)] h n z (some (.int (-1))) h n z := by
  obtain ⟨hr, ha, ⟨hg, g0, g1⟩, hf, hk2, hc1, hc2⟩ := R
  refine cp_C.of rfl (Nat.le_of_ble_eq_true rfl) ?_
  refine vv_aload_n (pc := 0) d_R_pop_0 rfl ?_
  refine vv_getf (pc := 1) d_R_pop_1 fl_R_21 hr hg g1 ?_
  refine vv_if_ne (pc := 4) (tgt := 9) d_R_pop_4 rfl (fun hc => absurd rfl hc) (fun _ => ?_)
  refine vv_iconst (pc := 7) (v := -1) d_R_pop_7 rfl ?_
  exact vv_iret (pc := 8) d_R_pop_8 rfl
theorem K_pop (hr : r ∈ k_rows) : KC 0 m_R_pop (fun G => [.ref (cp_b G + r)]) K (fun _ => some (.int (rtop K r))) (kpop K r) := fun G H h z d _ C => by
  obtain ⟨⟨g, a, f, R, hta, hf⟩, hl⟩ := C.rw hr
  unfold kpop rtop
  by_cases hs : rsz K r = 0
  · rw [if_pos hs, if_pos hs]
    have e : (K.2.2.2 r).1 = 0 := hs
    rw [e] at R
    exact ⟨h, z, C, c_R_pop0 R⟩
  · rw [if_neg hs, if_neg hs]
    obtain ⟨k, hk⟩ : ∃ k, rsz K r = k + 1 := ⟨rsz K r - 1, by omega⟩
    have e : (K.2.2.2 r).1 = k + 1 := hk
    rw [e] at R hf
    rw [hk, Nat.add_sub_cancel, show rat K r k = f k from (hf k (by omega)).symm]
    refine ⟨_, z, ?_, c_R_pop R⟩
    obtain ⟨q1, q2, ⟨q3, q4, q5⟩, q6, q7, q8, q9⟩ := R
    have hra : a ≠ r := by
      intro e
      rw [e, q3] at q6
      cases q6
    refine C.rowS (g := va_up g 1 (.int (nI k))) hr hta ⟨q1, q2, ⟨va_up_at, ?_, va_up_at⟩, ?_, by unfold rcap; omega, q8, q9⟩ (fun j hj => hf j (by omega)) (fun p h1 h2 => cp_up_ne h1) (g' := g)
    · rw [cp_up_ne (by omega)]; exact q4
    · rw [cp_up_ne hra]; exact q6
theorem k_caps_W {K K' : cp_K} {r s : Nat} {f : Nat → Int32} (hr : r ∈ k_rows) (e : K'.2.2.2 = va_up K.2.2.2 r (s, 2 * rcap K r, f)) : k_caps K' = k_caps K + rcap K r := by
  simp only [k_rows, List.mem_cons, List.not_mem_nil, or_false] at hr
  unfold k_caps rcap at *
  rw [e]
  rcases hr with rfl | rfl | rfl | rfl | rfl | rfl <;> simp only [va_up] <;> simp <;> omega
theorem K_push (hr : r ∈ k_rows) (hs : rsz K r < k_lim r) : KC 2 m_R_push (fun G => [.ref (cp_b G + r), .int x]) K (fun _ => none) (kpush K r x) := fun G H h z d hd C => by
  obtain ⟨⟨g, a, f, R, hta, hf⟩, hl⟩ := C.rw hr
  have hlim : k_lim r ≤ 1048576 := by unfold k_lim; split <;> omega
  have hrt := k_rt hr
  have hC1 := C.1
  unfold kpush
  by_cases hc : rsz K r = rcap K r
  · rw [if_pos hc]
    have e : (K.2.2.2 r).1 = (K.2.2.2 r).2.1 := hc
    rw [e] at R
    refine ⟨_, z + 2 * rcap K r, ?_, c_R_push_full R hd (by show 2 * (K.2.2.2 r).2.1 ≤ _; unfold rsz at hs; omega)⟩
    obtain ⟨q1, q2, ⟨q3, q4, q5⟩, q6, q7, q8, q9⟩ := R
    have e1 : K.1.1 ≠ r := by omega
    refine C.row hr rfl rfl (fun q hq => cp_up_ne hq) (Nat.le_succ _) (fun p hp => ?_) (fun p h1 h2 => ?_) (fun p h1 h2 h3 => ?_) ?_ ?_
    · unfold kt
      simp only [cp_up_ne (Nat.ne_of_lt hp)]
    · have h2' : p < K.1.1 + 1 := h2
      have : p = K.1.1 := by omega
      subst this
      unfold kt
      rw [if_neg (by omega)]
      simp only [va_up_at]
      omega
    · rw [cp_up_ne h2, cp_up_ne (by omega), cp_up_ne h2]
    · refine ⟨⟨va_up (va_up g 0 (.ref (cp_b G + K.1.1))) 1 (.int (nI ((K.2.2.2 r).2.1 + 1))), K.1.1, upd (va_cpy f (fun _ => 0) 0 0 (K.2.2.2 r).2.1) (K.2.2.2 r).2.1 x, ⟨by show r < K.1.1 + 1; omega, Nat.lt_succ_self _, ⟨?_, ?_, ?_⟩, ?_, ?_, ?_, ?_⟩, ?_, ?_⟩, ?_⟩
      · exact va_up_at
      · rw [cp_up_ne (by omega), va_up_at]
      · rw [va_up_at]; simp only [va_up_at]; rw [hc]; rfl
      · rw [cp_up_ne e1, va_up_at]; simp only [va_up_at]; rfl
      · simp only [va_up_at]; rw [hc]; unfold rcap; omega
      · simp only [va_up_at]; unfold rcap; omega
      · simp only [va_up_at]; unfold rsz at hs; unfold rcap; omega
      · unfold kt
        rw [if_neg (by omega)]
        simp only [va_up_at]
      · intro j hj
        simp only [va_up_at] at hj ⊢
        rw [upd_up, hc]
        by_cases hj2 : j = (K.2.2.2 r).2.1
        · rw [hj2, va_up_at]; exact va_up_at.symm
        · rw [cp_up_ne hj2, cp_up_ne (by unfold rcap; exact hj2), pk_cpy_in (Nat.zero_le _) (by unfold rsz at hj; omega), show 0 + (j - 0) = j by omega]
          exact hf j (by unfold rsz at hj; omega)
      · simp only [va_up_at]; unfold rsz at hs; unfold rcap; omega
    · rw [k_caps_W hr rfl]
      have := C.2.2.2.2.2.2
      show z + 2 * rcap K r ≤ 49035 + 7 * (K.1.1 + 1 - 86) + 2 * (k_caps K + rcap K r)
      omega
  · rw [if_neg hc]
    have hlt : rsz K r < rcap K r := by have := R.2.2.2.2.1; unfold rsz rcap at *; omega
    refine ⟨_, z, ?_, c_R_push_room R hlt⟩
    obtain ⟨q1, q2, ⟨q3, q4, q5⟩, q6, q7, q8, q9⟩ := R
    have hra : a ≠ r := by
      intro e
      rw [e, q3] at q6
      cases q6
    refine C.rowS (g := va_up g 1 (.int (nI ((K.2.2.2 r).1 + 1)))) hr hta ⟨q1, q2, ⟨va_up_at, ?_, va_up_at⟩, ?_, hlt, q8, q9⟩ (f' := upd f (K.2.2.2 r).1 x) (fun j hj => ?_) (fun p h1 h2 => ?_) (g' := g)
    · rw [cp_up_ne (by omega)]; exact q4
    · rw [cp_up_ne hra, va_up_at]; rfl
    · rw [upd_up]
      by_cases hj2 : j = (K.2.2.2 r).1
      · subst hj2; rw [va_up_at]; exact va_up_at.symm
      · rw [cp_up_ne hj2, cp_up_ne (by unfold rsz; exact hj2)]
        exact hf j (by unfold rsz at hj; omega)
    · rw [cp_up_ne h1, cp_up_ne h2]
end CPRK
