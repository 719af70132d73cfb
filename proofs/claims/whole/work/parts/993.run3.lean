/-! ===== work: how the class begins; variables, numbers, ~ ===== -/
section CPW
variable {K : cp_K} {p w e frame D : Nat}
theorem work_out (hp : nd K p 9) (h23 : K.2.1 23 3 = nI w) (hw : w ≤ 100) (he : e ≤ 30) (h : w = 100 ∨ e = 30) : KC (D + 8) m_U_work (fun G => [.ref (cp_b G + 23), va_rf (kr G p), .int (nI (e + 1)), .int (nI frame)]) K (fun _ => some (.int (-1))) K := by
  have hp0 : ¬ p = 0 := by have := hp.1; omega
  refine c_U_work ⟨fun hn => absurd hn hp0, fun _ => ?_⟩
  rw [h23]
  refine ⟨fun _ => ⟨rfl, rfl⟩, fun hn => ⟨fun hn2 => ?_, fun _ => ⟨rfl, rfl⟩⟩⟩
  rcases h with h | h
  · exact absurd (by rw [h]; decide) hn
  · exact absurd hn2 (by rw [h]; decide)
/-- the code's sort decides -/
theorem work_go {o : cp_G → cp_O} {K' : cp_K} {c : Int32} (hp : nd K p 9) (h23 : K.2.1 23 3 = nI w) (hw : w < 100) (he : e < 30) (hc : K.2.1 p 0 = c)
    (k1 : c = 1 → rsz K 7 + 2 < 1048576 ∧ o = (fun _ => .inl (some (.int (nI (rsz K 7))))) ∧ K' = mks (kI K 23 3 (nI (w + 1))) 1 (K.2.1 p 1))
    (k5 : c = 5 → ∃ r T, KC (D + 7) m_B_valueOf (fun G => [.ref (cp_b G + 14), .int (K.2.1 p 1), .int (nI frame)]) (kI K 23 3 (nI (w + 1))) (fun _ => some (.int r)) T ∧ o = (fun _ => .inl (some (.int r))) ∧ K' = T)
    (k6 : c = 6 → ∃ r T, KC (D + 7) m_U_apply (fun G => [.ref (cp_b G + 23), va_rf (kr G p), .int (nI (e + 1)), .int (nI frame)]) (kI K 23 3 (nI (w + 1))) (fun _ => some (.int r)) T ∧ o = (fun _ => .inl (some (.int r))) ∧ K' = T)
    (k7 : c = 7 ∨ c = 8 → ∃ r T, KC (D + 7) m_U_reckon (fun G => [.ref (cp_b G + 23), va_rf (kr G p), .int (nI (e + 1)), .int (nI frame)]) (kI K 23 3 (nI (w + 1))) (fun _ => some (.int r)) T ∧ o = (fun _ => .inl (some (.int r))) ∧ K' = T)
    (k9 : c = 9 → ∃ r T, KC (D + 7) m_U_match (fun G => [.ref (cp_b G + 23), va_rf (kr G p), .int (nI (e + 1)), .int (nI frame)]) (kI K 23 3 (nI (w + 1))) (fun _ => some (.int r)) T ∧ o = (fun _ => .inl (some (.int r))) ∧ K' = T)
    (k11 : c = 11 ∨ c = 12 → ∃ r T, KC (D + 7) m_U_choose (fun G => [.ref (cp_b G + 23), va_rf (kr G p), .int (nI (e + 1)), .int (nI frame)]) (kI K 23 3 (nI (w + 1))) (fun _ => some (.int r)) T ∧ o = (fun _ => .inl (some (.int r))) ∧ K' = T)
    (k13 : c = 13 → o = (fun _ => .inl (some (.int (-1)))) ∧ K' = kI K 23 3 (nI (w + 1)))
    (hcc : c = 1 ∨ c = 5 ∨ c = 6 ∨ c = 7 ∨ c = 8 ∨ c = 9 ∨ c = 11 ∨ c = 12 ∨ c = 13) : wp_U_work_0 D o K' K p (nI (e + 1)) (nI frame) := by
  have hp0 : ¬ p = 0 := by have := hp.1; omega
  have hp23 : p ≠ 23 := by have := hp.1; omega
  refine ⟨fun hn => absurd hn hp0, fun _ => ?_⟩
  have es : ∀ x k, (kI K 23 3 x).2.1 p k = K.2.1 p k := fun x k => by rw [kI_i, cp_up_ne hp23]
  have er : ∀ x, rsz (kI K 23 3 x) 7 = rsz K 7 := fun x => rfl
  rw [h23, nI_1, es, es, hc, er]
  refine ⟨fun hn => absurd hn (nI_ge (a := w) (b := 100) (by omega) (by omega)), fun _ => ⟨fun _ => ⟨hp, ?_⟩, fun hn => absurd (nI_le (a := e + 1) (b := 30) (by omega) (by omega)) hn⟩⟩
  refine ⟨fun h => ⟨(k1 h).1, (k1 h).2⟩, fun h => ?_, fun h => ?_, fun h => ?_, fun h => ?_, fun h => ?_, fun h => ?_, fun h => ?_, fun h => ?_, fun h => ?_, fun h => ?_, fun h => ?_, fun h => ?_⟩
  · rw [h] at hcc; exact absurd hcc (by decide)
  · rw [h] at hcc; exact absurd hcc (by decide)
  · rw [h] at hcc; exact absurd hcc (by decide)
  · obtain ⟨r, T, m1, m2⟩ := k5 h; exact ⟨r, T, m1, m2⟩
  · obtain ⟨r, T, m1, m2⟩ := k6 h; exact ⟨r, T, m1, m2⟩
  · obtain ⟨r, T, m1, m2⟩ := k7 (Or.inl h); exact ⟨r, T, m1, m2⟩
  · obtain ⟨r, T, m1, m2⟩ := k7 (Or.inr h); exact ⟨r, T, m1, m2⟩
  · obtain ⟨r, T, m1, m2⟩ := k9 h; exact ⟨r, T, m1, m2⟩
  · rw [h] at hcc; exact absurd hcc (by decide)
  · obtain ⟨r, T, m1, m2⟩ := k11 (Or.inl h); exact ⟨r, T, m1, m2⟩
  · obtain ⟨r, T, m1, m2⟩ := k11 (Or.inr h); exact ⟨r, T, m1, m2⟩
  · have : c = 13 := by
      rcases hcc with q | q | q | q | q | q | q | q | q
      · exact absurd q (h 1 (by decide))
      · exact absurd q (h 5 (by decide))
      · exact absurd q (h 6 (by decide))
      · exact absurd q (h 7 (by decide))
      · exact absurd q (h 8 (by decide))
      · exact absurd q (h 9 (by decide))
      · exact absurd q (h 11 (by decide))
      · exact absurd q (h 12 (by decide))
      · exact q
    exact k13 this
end CPW
theorem VI.ga {f : Nat → Int32} {N : Nat} {a a' : Nat → Nat → Int32} {nv nc C : Nat} {ρ : Nat → Nat → Prop} {hl : List Nat} (V : VI f N a nv nc ρ hl C) (hh : ∀ h ∈ hl, h + 3 ≤ N) (e : ∀ p, 52 ≤ p → p ≤ 56 → a' p = a p) : VI f N a' nv nc ρ hl C := V.grow hh (fun _ _ => rfl) (Nat.le_refl _) V.2.2.2.2.2.2.2 (fun p p1 p2 r _ => by rw [e p p1 (by omega)]) (fun t _ => by rw [e 56 (by omega) (by omega)]) (Nat.le_refl _) V.2.2.2.2.2.1 (Nat.le_refl _) V.2.2.2.2.2.2.1
theorem ent_2 {S : cp_S} {w e : Nat} {x y : Int32} {p : Nat} (h : p < 72 ∨ 74 < p) : (ent S w e x y).2 p = S.2 p := by
  unfold ent
  simp only [cp_up_ne (show p ≠ 74 by omega), cp_up_ne (show p ≠ 73 by omega), cp_up_ne (show p ≠ 72 by omega)]
theorem ent_lo {S : cp_S} {w e : Nat} {x y : Int32} {p z : Nat} (hp : 72 ≤ p) (hp2 : p ≤ 74) (hz : z < e) : (ent S w e x y).2 p z = S.2 p z := by
  unfold ent
  have hc : p = 72 ∨ p = 73 ∨ p = 74 := by omega
  rcases hc with rfl | rfl | rfl <;> simp [va_up, pk_un (show z ≠ e by omega)]
theorem ent_FRB {S : cp_S} {w e B : Nat} {x y : Int32} : FRB e B S (ent S w e x y) := by
  refine ⟨fun k hk => ?_, fun p hp => ent_2 (by omega), fun p p1 p2 z hz => ent_lo p1 p2 hz, fun z _ => by rw [ent_2 (by omega)], fun p p1 p2 z _ => by rw [ent_2 (by omega)]⟩
  simp only [List.mem_cons, List.not_mem_nil, or_false, not_or] at hk
  unfold ent
  simp only [cp_up_ne (show k ≠ 62 by omega), cp_up_ne (show k ≠ 60 by omega), cp_up_ne (show k ≠ 61 by omega)]
theorem ent_TOP {S : cp_S} {w e i : Nat} {y : Int32} (h63 : S.1 63 = 0) (he : e < 30) (hi : i < 2720) : TOPF (ent S w e (nI i) y) e i 0 y := by
  unfold TOPF ent
  refine ⟨?_, ?_, ?_, ?_, ?_, he, hi⟩
  · simp [va_up]
  · simp [va_up]; exact h63
  · simp [va_up, pk_us]
  · simp [va_up, pk_us]; rfl
  · simp [va_up, pk_us]
theorem ent_s {S : cp_S} {w e : Nat} {x y : Int32} : (ent S w e x y).1 35 = S.1 35 ∧ (ent S w e x y).1 40 = S.1 40 ∧ (ent S w e x y).1 61 = nI (w + 1) ∧ (ent S w e x y).1 60 = S.1 60 + nI (w + 1 - w) ∧ (ent S w e x y).1 70 = S.1 70 ∧ (ent S w e x y).1 62 = nI (e + 1) ∧ (ent S w e x y).1 63 = S.1 63 := by
  unfold ent
  refine ⟨by simp [va_up], by simp [va_up], by simp [va_up], ?_, by simp [va_up], by simp [va_up], by simp [va_up]⟩
  rw [show w + 1 - w = 1 by omega]
  simp [va_up]
  rfl
section CPWB
variable {ar : Nat → Nat} {hl : List Nat} {C : Nat} {K : cp_K} {S : cp_S} {ρ : Nat → Nat → Prop} {nv nc e w B n : Nat}
/-- the reference has entered: the class has counted the step -/
theorem WPO.one (h : WST ar hl C K S ρ nv nc e w B n) (hw : w < 100) {x y : Int32} {cc dv : Nat} (hcc : cc ≤ 1) (hdv : dv ≤ 1) : WPO ar hl C K S ρ nv nc e w B n (kI K 23 3 (nI (w + 1))) (ent S w e x y) ρ nv nc (w + 1) n cc dv := by
  obtain ⟨⟨V, hh, hA⟩, ⟨h35, h40, h61, h62, h63, h70⟩, ⟨h23, hB⟩, b1, b2, b3, b4, b5, b6, b7, b8, b9⟩ := h
  obtain ⟨s35, s40, s61, s60, s70, -⟩ := ent_s (S := S) (w := w) (e := e) (x := x) (y := y)
  refine ⟨⟨V.ga hh (fun p p1 p2 => ent_2 (by omega)), hA, fun _ _ h => h⟩, ⟨KF.refl, hB, fun _ _ _ _ => rfl, Nat.le_refl _, by show rsz K 7 + 9 * dv ≤ _; omega, fun _ _ => rfl⟩, ⟨s35.trans h35, s40.trans h40, s61, s60⟩, ⟨by omega, by omega, Nat.le_refl _, by omega, Nat.le_refl _, by omega, b8, b9⟩, ent_FRB, fun p p1 p2 r _ => by rw [ent_2 (by omega)], fun t _ => by rw [ent_2 (by omega)]⟩
theorem WPO.fld {K' : cp_K} {S2 : cp_S} {ρ' : Nat → Nat → Prop} {nv' nc' w' n' cc dv : Nat} (h : WPO ar hl C K S ρ nv nc e w B n K' S2 ρ' nv' nc' w' n' cc dv) : WPO ar hl C K S ρ nv nc e w B n K' (fld S2) ρ' nv' nc' w' n' cc dv := by
  obtain ⟨h1, h2, h3, h4, h5, h6⟩ := h
  refine ⟨h1, h2, ⟨?_, ?_, ?_, ?_⟩, h4, ⟨fun k hk => ?_, h5.2⟩, h6⟩
  · show va_up S2.1 63 1 35 = _; rw [cp_up_ne (by decide)]; exact h3.1
  · show va_up S2.1 63 1 40 = _; rw [cp_up_ne (by decide)]; exact h3.2.1
  · show va_up S2.1 63 1 61 = _; rw [cp_up_ne (by decide)]; exact h3.2.2.1
  · show va_up S2.1 63 1 60 = _; rw [cp_up_ne (by decide)]; exact h3.2.2.2
  · have : k ≠ 63 := fun e => hk (by rw [e]; decide)
    show va_up S2.1 63 1 k = _
    rw [cp_up_ne this]
    exact h5.1 k hk
theorem fld_63 {S : cp_S} : (fld S).1 63 = 1 := rfl
end CPWB
