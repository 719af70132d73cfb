/-! ===== simple methods of the class as functions of the state ===== -/
section CPSM
variable {K : cp_K} {r p q k c : Nat} {x y a b i : Int32}
theorem kI_i : (kI K p k x).2.1 = va_up K.2.1 p (va_up (K.2.1 p) k x) := rfl
theorem kI_r : (kI K p k x).2.2.1 = K.2.2.1 := rfl
theorem kI_w : (kI K p k x).2.2.2 = K.2.2.2 := rfl
theorem kI_1 : (kI K p k x).1 = K.1 := rfl
theorem kP_i : (kP K p k q).2.1 = K.2.1 := rfl
theorem kP_r : (kP K p k q).2.2.1 = va_up K.2.2.1 p (va_up (K.2.2.1 p) k q) := rfl
theorem kP_w : (kP K p k q).2.2.2 = K.2.2.2 := rfl
theorem kP_1 : (kP K p k q).1 = K.1 := rfl
theorem kN_w : (kN K c).2.2.2 = K.2.2.2 := rfl
theorem kpush_i : (kpush K r x).2.1 = K.2.1 := by unfold kpush kS; split <;> rfl
theorem kpush_r : (kpush K r x).2.2.1 = K.2.2.1 := by unfold kpush kS; split <;> rfl
theorem kpush_n : (kpush K r x).1.1 = K.1.1 ∨ (kpush K r x).1.1 = K.1.1 + 1 := by unfold kpush kS; split; exact Or.inr rfl; exact Or.inl rfl
theorem kpush_t (hp : p < K.1.1) : (kpush K r x).1.2 p = K.1.2 p := by
  unfold kpush kS
  split
  · exact cp_up_ne (by omega)
  · rfl
theorem kpush_sz : rsz (kpush K r x) q = if q = r then rsz K r + 1 else rsz K q := by
  unfold kpush kS rsz
  by_cases h : q = r
  · subst h; split <;> simp [va_up]
  · split <;> simp [va_up, h]
theorem kpush_at : rat (kpush K r x) q = if q = r then va_up (rat K r) (rsz K r) x else rat K q := by
  unfold kpush kS rat
  by_cases h : q = r
  · subst h; split <;> simp [va_up]
  · split <;> simp [va_up, h]
theorem kset_i : (kset K r i x).2.1 = K.2.1 := by unfold kset kS; split <;> rfl
theorem kset_r : (kset K r i x).2.2.1 = K.2.2.1 := by unfold kset kS; split <;> rfl
theorem kset_1 : (kset K r i x).1 = K.1 := by unfold kset kS; split <;> rfl
theorem kset_sz : rsz (kset K r i x) q = rsz K q := by
  unfold kset kS rsz
  by_cases h : q = r
  · subst h; split <;> simp [va_up]
  · split <;> simp [va_up, h]
theorem kset_at {j : Nat} (hj : j < rsz K r) (h31 : rsz K r < 2 ^ 31) : rat (kset K r (nI j) x) q = if q = r then va_up (rat K r) j x else rat K q := by
  unfold kset kS rat
  rw [if_neg (by
    intro hn
    rcases hn with hn | hn
    · exact nI_pos (by omega) hn
    · exact nI_ge hj (by omega) hn), nI_clamp (by omega)]
  by_cases h : q = r
  · subst h; simp [va_up]
  · simp [va_up, h]
theorem kcut_i : (kcut K r i).2.1 = K.2.1 := by unfold kcut kS; split <;> rfl
theorem kcut_r : (kcut K r i).2.2.1 = K.2.2.1 := by unfold kcut kS; split <;> rfl
theorem kcut_1 : (kcut K r i).1 = K.1 := by unfold kcut kS; split <;> rfl
theorem kcut_at : rat (kcut K r i) q = rat K q := by
  unfold kcut kS rat
  by_cases h : q = r
  · subst h; split <;> simp [va_up]
  · split <;> simp [va_up, h]
theorem kcut_sz {j : Nat} (hj : j ≤ rsz K r) (h31 : rsz K r < 2 ^ 31) : rsz (kcut K r (nI j)) q = if q = r then j else rsz K q := by
  by_cases hj2 : j = rsz K r
  · unfold kcut
    rw [if_pos (Or.inr (by rw [hj2]; exact nI_le (Nat.le_refl _) h31))]
    by_cases h : q = r
    · subst h; rw [if_pos rfl]; exact hj2.symm
    · rw [if_neg h]
  · unfold kcut kS rsz
    rw [if_neg (by
      intro hn
      rcases hn with hn | hn
      · exact nI_pos (by omega) hn
      · exact nI_ge (show j < rsz K r by omega) (by omega) hn), nI_clamp (by omega)]
    by_cases h : q = r
    · subst h; simp [va_up]
    · simp [va_up, h]
theorem kpop_i : (kpop K r).2.1 = K.2.1 := by unfold kpop kS; split <;> rfl
theorem kpop_r : (kpop K r).2.2.1 = K.2.2.1 := by unfold kpop kS; split <;> rfl
theorem kpop_1 : (kpop K r).1 = K.1 := by unfold kpop kS; split <;> rfl
theorem kpop_at : rat (kpop K r) q = rat K q := by
  unfold kpop kS rat
  by_cases h : q = r
  · subst h; split <;> simp [va_up]
  · split <;> simp [va_up, h]
theorem kpop_sz : rsz (kpop K r) q = if q = r then rsz K r - 1 else rsz K q := by
  unfold kpop kS rsz
  by_cases h : q = r
  · subst h; split
    · next h0 => simp only [if_true]; omega
    · simp [va_up]
  · split <;> simp [va_up, h]
theorem rget_of {j : Nat} (hj : j < rsz K r) (h31 : rsz K r < 2 ^ 31) : rget K r (nI j) = rat K r j := by
  unfold rget
  rw [if_neg (by
    intro hn
    rcases hn with hn | hn
    · exact nI_pos (by omega) hn
    · exact nI_ge hj (by omega) hn), nI_clamp (by omega)]
theorem rget_out (h : i < 0 ∨ nI (rsz K r) ≤ i) : rget K r i = -1 := if_pos h
theorem nd_push (h : nd K p c) : nd (kpush K r x) p c := ⟨h.1, by have := h.2.1; have := kpush_n (K := K) (r := r) (x := x); omega, by rw [kpush_t h.2.1]; exact h.2.2⟩
theorem nd_set (h : nd K p c) : nd (kset K r i x) p c := by unfold nd; rw [kset_1]; exact h
theorem nd_cut (h : nd K p c) : nd (kcut K r i) p c := by unfold nd; rw [kcut_1]; exact h
theorem nd_pop (h : nd K p c) : nd (kpop K r) p c := by unfold nd; rw [kpop_1]; exact h
theorem nd_new (h : nd K p c) : nd (kN K k) p c := ⟨h.1, by have := h.2.1; show p < K.1.1 + 1; omega, by show va_up K.1.2 K.1.1 k p = c; rw [cp_up_ne (by have := h.2.1; omega)]; exact h.2.2⟩
theorem nd_self (h : 86 ≤ K.1.1) : nd (kN K k) K.1.1 k := ⟨h, Nat.lt_succ_self _, va_up_at⟩
def bpush (K : cp_K) (a b c : Int32) : cp_K := kpush (kpush (kpush K 15 a) 17 b) 19 c
def bcut (K : cp_K) (i : Int32) : cp_K := kcut (kcut (kcut K 15 i) 17 i) 19 i
def mks (K : cp_K) (s d : Int32) : cp_K := kpush (kpush (kpush K 7 s) 7 d) 7 0
def ninit (K : cp_K) (p : Nat) (s y l : Int32) : cp_K := (kP (kP (kP (kI (kI (kI (kI K p 0 s) p 1 y) p 2 l) p 3 0) p 4 0) p 5 0) p 6 0)
def nadd (K : cp_K) (p q : Nat) : cp_K := kI (kP (if K.2.2.1 p 5 = 0 then kP K p 4 q else kP K (K.2.2.1 p 5) 6 q) p 5 q) p 3 (K.2.1 p 3 + 1)
def qpk (K : cp_K) : Int32 := if K.2.1 21 2 < 0 ∨ K.2.1 21 1 ≤ K.2.1 21 2 then 0 else K.2.1 1 (K.2.1 21 2).toNatClampNeg
def qok (K : cp_K) : Prop := K.2.2.1 21 0 = 1 ∧ K.2.1 21 1 ≤ 80 ∧ ∀ j, j < 80 → narrow .char (.int (K.2.1 1 j)) = .int (K.2.1 1 j)
def dfind (K : cp_K) (x : Int32) : Nat := if x - 65 < 0 ∨ 26 ≤ x - 65 then 0 else K.2.2.1 4 (x - 65).toNatClampNeg
def hsh (K : cp_K) (x y : Int32) : Int32 := if rget K 7 x = rget K 7 y ∧ rget K 7 (x + 1) = rget K 7 (y + 1) ∧ rget K 7 (x + 2) = rget K 7 (y + 2) then 1 else 0
def wput (K : cp_K) (x : Int32) : cp_K := if 101 ≤ K.2.1 6 4 then K else kI (kI K 13 (K.2.1 6 4).toNatClampNeg (vp_nar .char x)) 6 4 (K.2.1 6 4 + 1)
theorem C_Bsize : KC 6 m_B_size (fun G => [.ref (cp_b G + 14)]) K (fun _ => some (.int (nI (rsz K 15)))) K := c_B_size (D := 0) ⟨rfl, rfl⟩
theorem C_Bpush {z : Int32} (h : rsz K 15 < k_lim 15 ∧ rsz K 17 < k_lim 17 ∧ rsz K 19 < k_lim 19) : KC 6 m_B_push (fun G => [.ref (cp_b G + 14), .int x, .int y, .int z]) K (fun _ => none) (bpush K x y z) := c_B_push (D := 0) ⟨h.1, by rw [kpush_sz, if_neg (by decide)]; exact h.2.1, by rw [kpush_sz, if_neg (by decide), kpush_sz, if_neg (by decide)]; exact h.2.2, rfl, rfl⟩
theorem C_Brename : KC 6 m_B_rename (fun G => [.ref (cp_b G + 14), .int i, .int x]) K (fun _ => none) (kset K 15 i x) := c_B_rename (D := 0) ⟨rfl, rfl⟩
theorem C_Bcut : KC 6 m_B_cut (fun G => [.ref (cp_b G + 14), .int i]) K (fun _ => none) (bcut K i) := c_B_cut (D := 0) ⟨rfl, rfl⟩
theorem C_BvalueAt : KC 6 m_B_valueAt (fun G => [.ref (cp_b G + 14), .int i]) K (fun _ => some (.int (rget K 17 i))) K := c_B_valueAt (D := 0) ⟨rfl, rfl⟩
theorem C_BtypeAt : KC 6 m_B_typeAt (fun G => [.ref (cp_b G + 14), .int i]) K (fun _ => some (.int (rget K 19 i))) K := c_B_typeAt (D := 0) ⟨rfl, rfl⟩
theorem C_Vclear : KC 6 m_V_clear (fun G => [.ref (cp_b G + 6)]) K (fun _ => none) (kcut K 7 0) := c_V_clear (D := 0) ⟨rfl, rfl⟩
theorem C_VsortOf : KC 6 m_V_sortOf (fun G => [.ref (cp_b G + 6), .int x]) K (fun _ => some (.int (rget K 7 x))) K := c_V_sortOf (D := 0) ⟨rfl, rfl⟩
theorem C_VdatumOf : KC 6 m_V_datumOf (fun G => [.ref (cp_b G + 6), .int x]) K (fun _ => some (.int (rget K 7 (x + 1)))) K := c_V_datumOf (D := 0) ⟨rfl, rfl⟩
theorem C_VcountOf : KC 6 m_V_countOf (fun G => [.ref (cp_b G + 6), .int x]) K (fun _ => some (.int (rget K 7 (x + 2)))) K := c_V_countOf (D := 0) ⟨rfl, rfl⟩
theorem C_VargumentOf : KC 6 m_V_argumentOf (fun G => [.ref (cp_b G + 6), .int x, .int i]) K (fun _ => some (.int (rget K 7 ((x + 3) + i)))) K := c_V_argumentOf (D := 0) ⟨rfl, rfl⟩
theorem C_VmakeSimple (h : rsz K 7 + 2 < k_lim 7) : KC 6 m_V_makeSimple (fun G => [.ref (cp_b G + 6), .int x, .int y]) K (fun _ => some (.int (nI (rsz K 7)))) (mks K x y) := c_V_makeSimple (D := 0) ⟨by omega, by rw [kpush_sz, if_pos rfl]; omega, by rw [kpush_sz, if_pos rfl, kpush_sz, if_pos rfl]; omega, rfl, rfl⟩
theorem C_VisOpenHole : KC 6 m_V_isOpenHole (fun G => [.ref (cp_b G + 6), .int x]) K (fun _ => some (.int (if rget K 7 x = 4 then 1 else 0))) K := by
  refine c_V_isOpenHole (D := 0) ?_
  unfold wp_V_isOpenHole_0
  by_cases h : rget K 7 x = 4 <;> simp [h]
theorem C_VhaveSameHead : KC 6 m_V_haveSameHead (fun G => [.ref (cp_b G + 6), .int x, .int y]) K (fun _ => some (.int (hsh K x y))) K := by
  refine c_V_haveSameHead (D := 0) ?_
  unfold wp_V_haveSameHead_0 hsh
  by_cases h1 : rget K 7 x = rget K 7 y
  · by_cases h2 : rget K 7 (x + 1) = rget K 7 (y + 1)
    · by_cases h3 : rget K 7 (x + 2) = rget K 7 (y + 2) <;> simp [h1, h2, h3]
    · simp [h1, h2]
  · simp [h1]
theorem C_VstartPairs (h : rsz K 11 < 16000) : KC 6 m_V_startPairs (fun G => [.ref (cp_b G + 6), .int x, .int y]) K (fun _ => none) (kpush (kpush (kcut K 11 0) 11 x) 11 y) := by
  have e : rsz (kcut K 11 0) 11 = 0 := by rw [show (0 : Int32) = nI 0 from rfl, kcut_sz (Nat.zero_le _) (by omega), if_pos rfl]
  exact c_V_startPairs (D := 0) ⟨by rw [e]; decide, by rw [kpush_sz, if_pos rfl, e]; decide, rfl, rfl⟩
theorem C_Vput (h : ¬ K.2.1 6 4 < 0) : KC 6 m_V_put (fun G => [.ref (cp_b G + 6), .int x]) K (fun _ => none) (wput K x) := by
  refine c_V_put (D := 0) ?_
  unfold wp_V_put_0 wput
  by_cases h1 : (101 : Int32) ≤ K.2.1 6 4
  · exact ⟨fun _ => ⟨rfl, by rw [if_pos h1]⟩, fun hn => absurd h1 hn⟩
  · refine ⟨fun hn => absurd hn h1, fun _ => ⟨?_, rfl, by rw [if_neg h1]; rfl⟩⟩
    obtain ⟨j, hj, e⟩ := nI_of h
    rw [e] at h1 ⊢
    exact vp_in_nI (Nat.lt_of_not_le fun hn => h1 (nI_le (a := 101) hn hj)) (by omega)
theorem C_Ninit (h : nd K p 9) : KC 6 m_N_init (fun G => [va_rf (kr G p), .int x, .int y, .int i]) K (fun _ => none) (ninit K p x y i) := c_N_init (D := 0) ⟨h, h, h, h, h, h, h, h, rfl, rfl⟩
theorem C_Nadd (h : nd K p 9) (h2 : ¬ K.2.2.1 p 5 = 0 → nd K (K.2.2.1 p 5) 9) : KC 6 m_N_add (fun G => [va_rf (kr G p), va_rf (kr G q)]) K (fun _ => none) (nadd K p q) := by
  refine c_N_add (D := 0) ?_
  unfold wp_N_add_0 nadd
  by_cases h3 : K.2.2.1 p 5 = 0
  · refine ⟨h, fun hn => absurd h3 hn, fun _ => ⟨h, b_N_add_23 ⟨h, h, h, rfl, ?_⟩⟩⟩
    rw [if_pos h3]
    rfl
  · refine ⟨h, fun _ => ⟨h, h2 h3, b_N_add_23 ⟨h, h, h, rfl, ?_⟩⟩, fun hn => absurd hn h3⟩
    rw [if_neg h3]
    rfl
theorem C_Qopen : KC 6 m_Q_open (fun G => [.ref (cp_b G + 21), .ref (cp_b G + 1), .int x]) K (fun _ => none) (kI (kI (kP K 21 0 1) 21 1 (if (nI 80) < x then (nI 80) else x)) 21 2 0) := c_Q_open (D := 0) ⟨rfl, rfl⟩
theorem C_Qplace : KC 6 m_Q_place (fun G => [.ref (cp_b G + 21)]) K (fun _ => some (.int (K.2.1 21 2))) K := c_Q_place (D := 0) ⟨rfl, rfl⟩
theorem C_Qpeek (h : qok K) : KC 6 m_Q_peek (fun G => [.ref (cp_b G + 21)]) K (fun _ => some (.int (qpk K))) K := by
  refine c_Q_peek (D := 0) ?_
  unfold wp_Q_peek_0 qpk
  by_cases h1 : K.2.1 21 2 < 0
  · exact ⟨fun _ => ⟨by rw [if_pos (Or.inl h1)], rfl, rfl⟩, fun hn => absurd h1 hn⟩
  · refine ⟨fun hn => absurd hn h1, fun _ => ?_⟩
    by_cases h2 : K.2.1 21 1 ≤ K.2.1 21 2
    · exact ⟨fun _ => ⟨by rw [if_pos (Or.inr h2)], rfl, rfl⟩, fun hn => absurd h2 hn⟩
    · obtain ⟨j, hj, e⟩ := nI_of h1
      have h80 := h.2.1
      have hj80 : j < 80 := by
        apply Nat.lt_of_not_le
        intro hn
        apply h2
        rw [e]
        exact Int32.le_trans h80 (nI_le (a := 80) hn hj)
      refine ⟨fun hn => absurd hn h2, fun _ => ⟨h.1, ?_, by rw [if_neg (fun hn => hn.elim h1 h2)], rfl, ?_⟩⟩
      · rw [e]; exact vp_in_nI hj80 (by omega)
      · rw [e, nI_clamp hj]; exact h.2.2 j hj80
theorem C_Dfind : KC 6 m_D_find (fun G => [.ref (cp_b G + 3), .int x]) K (fun G => some (va_rf (kr G (dfind K x)))) K := by
  refine c_D_find (D := 0) ?_
  unfold wp_D_find_0 dfind
  by_cases h1 : x - 65 < 0
  · exact ⟨fun _ => ⟨by simp only [h1, true_or, if_true], rfl⟩, fun hn => absurd h1 hn⟩
  · refine ⟨fun hn => absurd hn h1, fun _ => ?_⟩
    by_cases h2 : (26 : Int32) ≤ x - 65
    · exact ⟨fun _ => ⟨by simp only [h2, or_true, if_true], rfl⟩, fun hn => absurd h2 hn⟩
    · refine ⟨fun hn => absurd hn h2, fun _ => ⟨?_, by simp only [h1, h2, or_self, if_false], rfl⟩⟩
      obtain ⟨j, hj, e⟩ := nI_of h1
      rw [e] at h2 ⊢
      exact vp_in_nI (Nat.lt_of_not_le fun hn => h2 (nI_le (a := 26) hn hj)) (by omega)
theorem C_DisEmpty : KC 6 m_D_isEmpty (fun G => [.ref (cp_b G + 3)]) K (fun _ => some (.int (if K.2.1 3 2 = 0 then 1 else 0))) K := by
  refine c_D_isEmpty (D := 0) ?_
  unfold wp_D_isEmpty_0
  by_cases h : K.2.1 3 2 = 0 <;> simp [h]
theorem C_Qwhole : KC 6 m_Q_whole (fun G => [.ref (cp_b G + 21), va_rf (kr G p)]) K (fun G => some (va_rf (kr G (if K.2.1 21 2 = K.2.1 21 1 then p else 0)))) K := by
  refine c_Q_whole (D := 0) ?_
  unfold wp_Q_whole_0
  by_cases h : K.2.1 21 2 = K.2.1 21 1 <;> simp [h]
theorem C_TwrongPlace : KC 6 m_T_wrongPlace (fun G => [.ref (cp_b G + 24)]) K (fun _ => some (.int (K.2.1 24 6))) K := c_T_wrongPlace (D := 0) ⟨rfl, rfl⟩
theorem C_Tbegin (h : x = 0 ∨ x = 1) : KC 6 m_T_begin (fun G => [.ref (cp_b G + 24), .int x]) K (fun _ => none) (kI (kI (kI K 24 4 x) 24 5 0) 24 6 (-1)) := c_T_begin (D := 0) ⟨by rcases h with rfl | rfl <;> exact ⟨rfl, rfl⟩, rfl, rfl⟩
theorem C_UforgetSteps : KC 6 m_U_forgetSteps (fun G => [.ref (cp_b G + 23)]) K (fun _ => none) (kI K 23 4 0) := c_U_forgetSteps (D := 0) ⟨rfl, rfl⟩
theorem C_UallSteps : KC 6 m_U_allSteps (fun G => [.ref (cp_b G + 23)]) K (fun _ => some (.int (K.2.1 23 4))) K := c_U_allSteps (D := 0) ⟨rfl, rfl⟩
theorem kv_86 {G : cp_G} {H : Nat → cp_E} {mt : cp_M} {d n0 z0 : Nat} {o : cp_O} {K' K : cp_K} {pc : Nat} {lv : List (Nat × Value)} {st : List Value} (k : 86 ≤ K.1.1 → kV G H mt d n0 z0 o K' pc lv st K) : kV G H mt d n0 z0 o K' pc lv st K := fun h z C => k C.1 h z C
end CPSM
