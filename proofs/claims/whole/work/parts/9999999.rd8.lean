/-! ===== reading: a term alone, the terms of a run ===== -/
def RIN (tx : Nat → Nat) (n rf : Nat) (K : cp_K) (S : cp_S) : Prop := (K.2.1 21 2 = nI 0 ∧ K.2.1 21 1 = nI n ∧ qok K ∧ 86 ≤ K.1.1) ∧ (S.1 1 = nI n ∧ S.1 16 = nI rf ∧ n ≤ 80 ∧ rf ≤ 2630) ∧ ∀ x, x < n → (32 ≤ tx x ∧ tx x ≤ 126) ∧ K.2.1 1 x = nI (tx x) ∧ S.2 27 x = nI (tx x)
def iniS (S : cp_S) (x w y : Int32) : cp_S := pshS ((va_up (va_up (va_up (va_up S.1 1 0) 29 0) 33 (S.1 23)) 20 (S.1 16)), S.2) 0 x w y
/-- what reading leaves of the reference -/
def RDF (S S' : cp_S) (rf P : Nat) : Prop := (∀ k, k ∉ ([1, 16, 20, 29, 33, 34] : List Nat) → S'.1 k = S.1 k) ∧ (∀ q, (q < 39 ∨ 51 < q) → q ≠ 71 → S'.2 q = S.2 q) ∧ (∀ q, 39 ≤ q → q ≤ 41 → ∀ x, x < rf → S'.2 q x = S.2 q x) ∧ (S'.1 1 = 0 ∧ S'.1 20 = nI rf) ∧ ∀ q, 44 ≤ q → q ≤ 48 → ∀ x, x < P → S'.2 q x = S.2 q x
section CPR8
variable {tx : Nat → Nat} {n rf : Nat} {K : cp_K} {S : cp_S} {x w y : Int32}
theorem ini_ps (h16 : S.1 16 = nI rf) : PS (iniS S x w y) [(x, w, y)] rf rf := by
  unfold iniS
  refine PS.push (l := []) ⟨?_, trivial, ?_, ?_⟩
  · show va_up (va_up (va_up (va_up S.1 1 0) 29 0) 33 (S.1 23)) 20 (S.1 16) 29 = nI 0
    rw [cp_up_ne (by decide), cp_up_ne (by decide), va_up_at]; rfl
  · show va_up (va_up (va_up (va_up S.1 1 0) 29 0) 33 (S.1 23)) 20 (S.1 16) 16 = nI rf
    rw [cp_up_ne (by decide), cp_up_ne (by decide), cp_up_ne (by decide), cp_up_ne (by decide)]; exact h16
  · show va_up (va_up (va_up (va_up S.1 1 0) 29 0) 33 (S.1 23)) 20 (S.1 16) 20 = nI rf
    rw [va_up_at]; exact h16
theorem ini_2 {q : Nat} (h : q < 49 ∨ 51 < q) : (iniS S x w y).2 q = S.2 q := by unfold iniS; rw [psh_2 h]
theorem ini_1 {k : Nat} (h : k ∉ ([1, 20, 29, 33] : List Nat)) : (iniS S x w y).1 k = S.1 k := by
  simp only [List.mem_cons, List.not_mem_nil, or_false, not_or] at h
  unfold iniS
  rw [psh_1 h.2.2.1]
  show va_up (va_up (va_up (va_up S.1 1 0) 29 0) 33 (S.1 23)) 20 (S.1 16) k = _
  rw [cp_up_ne h.2.1, cp_up_ne h.2.2.2, cp_up_ne h.2.2.1, cp_up_ne h.1]
theorem ini_33 : (iniS S x w y).1 33 = S.1 23 := by
  unfold iniS
  rw [psh_1 (by decide)]
  show va_up (va_up (va_up (va_up S.1 1 0) 29 0) 33 (S.1 23)) 20 (S.1 16) 33 = _
  rw [cp_up_ne (by decide), va_up_at]
theorem ini_1' : (iniS S x w y).1 1 = 0 := by
  unfold iniS
  rw [psh_1 (by decide)]
  show va_up (va_up (va_up (va_up S.1 1 0) 29 0) 33 (S.1 23)) 20 (S.1 16) 1 = _
  rw [cp_up_ne (by decide), cp_up_ne (by decide), cp_up_ne (by decide), va_up_at]
theorem ini_p0 (h16 : S.1 16 = nI rf) : PS ((va_up (va_up (va_up (va_up S.1 1 0) 29 0) 33 (S.1 23)) 20 (S.1 16)), S.2) [] rf rf := by
  refine ⟨?_, trivial, ?_, ?_⟩
  · show va_up (va_up (va_up (va_up S.1 1 0) 29 0) 33 (S.1 23)) 20 (S.1 16) 29 = nI 0
    rw [cp_up_ne (by decide), cp_up_ne (by decide), va_up_at]; rfl
  · show va_up (va_up (va_up (va_up S.1 1 0) 29 0) 33 (S.1 23)) 20 (S.1 16) 16 = nI rf
    rw [cp_up_ne (by decide), cp_up_ne (by decide), cp_up_ne (by decide), cp_up_ne (by decide)]; exact h16
  · show va_up (va_up (va_up (va_up S.1 1 0) 29 0) 33 (S.1 23)) 20 (S.1 16) 20 = nI rf
    rw [va_up_at]; exact h16
theorem ini_read {o : Option Value} {Sx : cp_S} (h1 : S.1 1 = nI n) (h16 : S.1 16 = nI rf) (w' : RD (x, w, y) n o Sx 0 (iniS S x w y)) : MC 5 m_M_read [.int x, .int w, .int y] S o Sx :=
  c_M_read (b_M_read_0 ⟨iniS S x w y, MC_push (l := []) (ini_p0 h16) (by simp), by rw [h1]; exact w'⟩)
theorem RIN.rj (h : RIN tx n rf K S) : RJ tx n rf K (iniS S x w y) [(x, w, y)] 0 rf := by
  obtain ⟨h1, ⟨h2, h3, h4, h5⟩, h6⟩ := h
  refine ⟨h1, ini_ps h3, ⟨h4, Nat.zero_le _, Nat.le_refl _, by omega, h5⟩, fun z hz => ?_, ⟨fun i i1 i2 => by omega, fun i i' i1 i2 i3 => by omega⟩⟩
  obtain ⟨a1, a2, a3⟩ := h6 z hz
  exact ⟨a1, a2, by rw [ini_2 (by omega)]; exact a3⟩
theorem RDF.of {S' : cp_S} {len pt P : Nat} (h16 : S.1 16 = nI rf) (h : RFZ rf rf len pt (iniS S x w y) S') (hP : P ≤ pt) : RDF S S' rf P := by
  obtain ⟨a1, a2, a3, a4, a5, a6⟩ := h
  refine ⟨fun k hk => ?_, fun q hq _ => (a2 q hq).trans (ini_2 (by omega)), fun q q1 q2 z hz => (a3 q q1 q2 z hz).trans (by rw [ini_2 (by omega)]), ⟨?_, ?_⟩, fun q q1 q2 z hz => (a5 q q1 q2 z (Or.inl (by omega))).trans (by rw [ini_2 (by omega)])⟩
  · simp only [List.mem_cons, List.not_mem_nil, or_false, not_or] at hk
    rw [a1 k hk.2.1 hk.2.2.2.1 hk.2.2.2.2.2]
    exact ini_1 (by simp only [List.mem_cons, List.not_mem_nil, or_false, not_or]; exact ⟨hk.1, hk.2.2.1, hk.2.2.2.1, hk.2.2.2.2.1⟩)
  · rw [a1 1 (by decide) (by decide) (by decide)]; exact ini_1'
  · rw [a1 20 (by decide) (by decide) (by decide)]; exact (ini_ps h16).2.2.2
theorem tk_e {S : cp_S} {l : List cp_I} {n1 : Nat} {c p : Int32} (h : PS S [] n1 rf) : JT (some (.int 0)) S c p S := b_M_take_0 ⟨fun _ => ⟨rfl, rfl, rfl⟩, fun q => absurd (by rw [h.1]; decide) q⟩
theorem tk_jk0 {n1 : Nat} {c p : Int32} : ∀ (jk : List cp_I) (S : cp_S), PS S jk n1 rf → jk.length ≤ 400 → (∀ j ∈ jk, SKP c j) → ∃ T, SPO S T ∧ JT (some (.int 0)) T c p S
  | [], S, h, _, _ => ⟨S, ⟨fun _ _ => rfl, rfl⟩, tk_e (l := []) h⟩
  | j :: jk, S, h, hl, hs => by
    have hl2 : jk.length < 400 := by rw [List.length_cons] at hl; omega
    obtain ⟨T, t2, t3⟩ := tk_jk0 (n1 := n1) (c := c) (p := p) jk (popS S jk.length) (PS.pop h) (by omega) (fun x hx => hs x (List.mem_cons_of_mem _ hx))
    exact ⟨T, pop_spo.trans t2, tk_skip h hl2 (hs j List.mem_cons_self) t3⟩
/-- a term alone -/
theorem read_term_m {P : Nat} (h : RIN tx n rf K S) : (∃ (K' : cp_K) (S' : cp_S) (p' : Nat), KC 50 m_Q_readTerm (fun G => [.ref (cp_b G + 21)]) K (fun G => some (va_rf (kr G 0))) K' ∧ K'.2.1 21 2 = nI p' ∧ p' ≤ n ∧ MC 5 m_M_read [.int 200, .int 2, .int 1] S (some (.int (nI p'))) S' ∧ KRX K.1.1 K.1.1 K K' ∧ RDF S S' rf P ∧ K'.1.1 ≤ K.1.1 + 80) ∨
    ∃ (K' : cp_K) (S' : cp_S) (n1' : Nat), KC 50 m_Q_readTerm (fun G => [.ref (cp_b G + 21)]) K (fun G => some (va_rf (kr G K.1.1))) K' ∧ MC 5 m_M_read [.int 200, .int 2, .int 1] S (some (.int (-1))) S' ∧ RTR K' S'.2 rf 8 K.1.1 rf n1' K'.1.1 ∧ K'.2.2.1 K.1.1 6 = 0 ∧ KRX K.1.1 K.1.1 K K' ∧ RDF S S' rf P ∧ S'.1 16 = nI n1' ∧ TW S'.2 1 0 n rf n1' ∧ PLI S' rf n1' n ∧ K'.1.1 ≤ K.1.1 + 80 := by
  have rj : RJ tx n rf K (iniS S 200 2 1) [(200, 2, 1)] 0 rf := h.rj
  obtain ⟨⟨h1, h2, h3, h4⟩, ⟨h5, h6, h7, h8⟩, h9⟩ := id h
  have nm : ¬ may (200, 2, 1) := by
    rintro (q | q | q | ⟨q, -⟩)
    · exact absurd (show (200 : Int32) = 201 from q) (by decide)
    · exact absurd (show (200 : Int32) = 211 from q) (by decide)
    · exact absurd (show (200 : Int32) = 215 from q) (by decide)
    · exact absurd (show (200 : Int32) = 218 from q) (by decide)
  by_cases hn0 : n = 0
  · subst hn0
    refine Or.inl ⟨K, iniS S 200 2 1, 0, (c_Q_readTerm (D := 1) ⟨0, K, piece_end (o := 1) (d := 1) (by omega) rj, ?_, rfl⟩).mono (by omega), h1, Nat.le_refl _, ini_read h5 h6 (rd_end_no rj.2.1 (by simp) h7 List.mem_cons_self nm), KRX.refl, RDF.of h6 (RFZ.refl (len := 0) (pt := P)) (Nat.le_refl _), by omega⟩
    simp
  · have hp : 0 < n := by omega
    have sp : SPO (iniS S 200 2 1) (popS (iniS S 200 2 1) 0) := pop_spo
    have rj1 : RJ tx n rf K (popS (iniS S 200 2 1) 0) [] 0 rf := rj.mvz (KRX.refl (q0 := 0) (ql := 0)) rfl (PS.pop rj.2.1) h1 (Nat.zero_le _) ⟨Nat.le_refl _, by omega⟩ (rj.2.2.2.2.eq (fun _ _ => rfl) (Nat.le_refl _)) (by omega)
    have rd0 : ∀ r Sx, BTK (200, 2, 1) n r Sx (popS (iniS S 200 2 1) 0) 0 (2 * 1 + 1) → MC 5 m_M_read [.int 200, .int 2, .int 1] S r Sx := fun r Sx w => ini_read h5 h6 (rd_term (bb := 3) rj.2.1 (by simp) hp h7 (by decide) w)
    have hw : ∀ (r : Nat) (K' : cp_K) (q : Nat), KC 42 m_Q_piece (fun G => [.ref (cp_b G + 21), .int (nI (2 - 1)), .int (nI 1)]) K (fun G => some (va_rf (kr G r))) K' → (K'.2.1 21 2 = K'.2.1 21 1 → q = r) → (¬ K'.2.1 21 2 = K'.2.1 21 1 → q = 0) → KC 50 m_Q_readTerm (fun G => [.ref (cp_b G + 21)]) K (fun G => some (va_rf (kr G q))) K' := fun r K' q kc w1 w2 => by
      refine (c_Q_readTerm (D := 35) ⟨r, K', kc, ?_, rfl⟩).mono (by omega)
      by_cases e : K'.2.1 21 2 = K'.2.1 21 1
      · simp only [if_pos e]; rw [w1 e]
      · simp only [if_neg e]; rw [w2 e]
    rcases pj_all (X := (200, 2, 1)) (tx := tx) (n := n) (rf := rf) 7 1 1 K (popS (iniS S 200 2 1) 0) [] 0 rf (by omega) (by omega) (by omega) rj1 hp (by simp) with ⟨K', S', p', a1, a2, a3, a4, a5, a6, a7⟩ | ⟨K', S', p', n1', jk, a1, a2, a3, ⟨a4, a4'⟩, a5, a6, a7, a8, a9, a10, a11⟩
    · have e1 : K'.2.1 21 1 = nI n := by rw [a5.2.2.2.2.1 1 (by decide)]; exact h2
      exact Or.inl ⟨K', S', p', hw 0 K' 0 a1 (fun _ => rfl) (fun _ => rfl), a2, a3.2, rd0 _ _ a4, a5, RDF.of h6 (sp.rfz.trans (a6.z (pt := P)) (Nat.le_refl _) (Nat.le_refl _)) (Nat.le_refl _), by omega⟩
    · obtain ⟨⟨b1, b2, b3, b4⟩, ps1, ⟨b5, b6, b7, b8, b9⟩, b10, b11⟩ := id a3
      rw [List.append_nil] at a3 ps1
      have hz := RDF.of (P := P) h6 (sp.rfz.trans (a8.z (pt := P)) (Nat.le_refl _) (Nat.le_refl _)) (Nat.le_refl _)
      by_cases hpn : p' = n
      · subst hpn
        exact Or.inr ⟨K', S', n1', hw K.1.1 K' K.1.1 a1 (fun _ => rfl) (fun q => absurd (b1.trans b2.symm) q), rd0 _ _ (a2 _ _ (rd_end_ok ps1 (by omega) b5 (fun i hi => (a4' i hi).1))), a5, a6, a7, hz, ps1.2.2.1, a9, b11, by omega⟩
      · have hp1 : p' < n := by omega
        obtain ⟨T, t1, t2⟩ := tk_jk0 (c := nI (tx p')) (p := nI p') jk S' ps1 (by omega) (fun j hj => (a4' j hj).2 hp1)
        refine Or.inl ⟨K', T, p', hw K.1.1 K' 0 a1 (fun q => ?_) (fun _ => rfl), b1, by omega, rd0 _ _ (a2 _ _ (rd_step hp1 b5 (b10 p' hp1).2.2 t2 (fun q => absurd rfl q) (fun _ => ⟨rfl, rfl⟩))), a7, RDF.of h6 ((sp.rfz.trans (a8.z (pt := P)) (Nat.le_refl _) (Nat.le_refl _)).trans t1.rfz (Nat.le_refl _) (Nat.le_refl _)) (Nat.le_refl _), by omega⟩
        rw [b1, b2] at q
        exact absurd ((nI_eq (by omega) (by omega)).mp q) hpn
end CPR8
