/-! ===== the face: parts counted, the constructor of an entry, nodes and letters of the reference ===== -/
/-- a chain of nodes by their sorts -/
def CHS (K : cp_K) : List Int32 → Nat → Prop
  | [], q => q = 0
  | s :: ss, q => nd K q 9 ∧ K.2.1 q 0 = s ∧ CHS K ss (K.2.2.1 q 6)
def cso (w : Int32) : List Int32 → Nat
  | [] => 0
  | s :: ss => (if s = w then 1 else 0) + cso w ss
theorem cso_le {w : Int32} : ∀ ss : List Int32, cso w ss ≤ ss.length
  | [] => Nat.le_refl _
  | s :: ss => by
    have := cso_le (w := w) ss
    show (if s = w then 1 else 0) + cso w ss ≤ ss.length + 1
    split <;> omega
section CPGB
variable {K K1 K2 K0 K' : cp_K} {S S1 S0 S' : cp_S} {Ls : List Nat} {rf P l len p3 c : Nat} {x1 x2 cnt cond : Int32}
theorem CHS.kfx (h : KFX K K') : ∀ (ss : List Int32) (q : Nat), CHS K ss q → CHS K' ss q
  | [], _, e => e
  | s :: ss, q, ⟨a1, a2, a3⟩ => ⟨h.n a1, by rw [h.i a1]; exact a2, by rw [h.r a1]; exact CHS.kfx h ss _ a3⟩
theorem cof_j {w : Int32} {p0 : Nat} : ∀ (ss : List Int32) (q t : Nat), t + ss.length < 1000 → CHS K ss q → JC 6 m_N_countOf (fun _ => .inl (some (.int (nI (t + cso w ss))))) K 7 (fun G => [(0, va_rf (kr G p0)), (1, .int w), (2, .int (nI t)), (3, va_rf (kr G q))]) (fun _ => []) K
  | [], q, t, _, h => b_N_countOf_7 (D := 0) ⟨fun _ => ⟨rfl, rfl⟩, fun e => absurd h e⟩
  | s :: ss, q, t, ht, ⟨a1, a2, a3⟩ => by
    rw [List.length_cons] at ht
    have n0 : ¬ q = 0 := by have := a1.1; omega
    have hc : cso w (s :: ss) = (if s = w then 1 else 0) + cso w ss := rfl
    refine b_N_countOf_7 (D := 0) ⟨fun e => absurd e n0, fun _ => ⟨a1, fun e => ?_, fun e => ?_⟩⟩
    · rw [a2] at e
      rw [hc, if_neg e, show 0 + cso w ss = cso w ss from Nat.zero_add _]
      exact b_N_countOf_22 (D := 0) ⟨a1, cof_j ss _ t (by omega) a3⟩
    · rw [a2] at e
      rw [hc, if_pos e, nI_1, ← Nat.add_assoc]
      exact b_N_countOf_22 (D := 0) ⟨a1, cof_j ss _ (t + 1) (by omega) a3⟩
theorem cof_c {w : Int32} {ss : List Int32} (hp : nd K p3 9) (hl : ss.length < 100) (h : CHS K ss (K.2.2.1 p3 4)) : KC 6 m_N_countOf (fun G => [va_rf (kr G p3), .int w]) K (fun _ => some (.int (nI (cso w ss)))) K := by
  have := cof_j (w := w) (p0 := p3) ss _ 0 (by omega) h
  rw [Nat.zero_add] at this
  exact c_N_countOf (D := 0) ⟨hp, this⟩
theorem einit_c {ss : List Int32} (hp : nd K p3 9) (hl : l < 26) (hs : ss.length < 100) (h : CHS K ss (K.2.2.1 p3 4)) (h86 : 86 ≤ K.1.1) : KC 8 m_E_init (fun G => [va_rf (kr G K.1.1), .int (nI (65 + l)), .int 0, va_rf (kr G p3)]) (kN K 10) (fun _ => none) (EI K (nI (65 + l)) 0 (nI (cso 14 ss)) (if cso 15 ss = 0 then 0 else 1) p3) := by
  obtain ⟨Ka, hKa⟩ : ∃ Ka, Ka = kP (kI (kI (kN K 10) K.1.1 0 (nI (65 + l))) K.1.1 1 0) K.1.1 4 p3 := ⟨_, rfl⟩
  have fx : ∀ Kb : cp_K, Kb.1 = (kN K 10).1 → (∀ p, p ≠ K.1.1 → Kb.2.1 p = K.2.1 p ∧ Kb.2.2.1 p = K.2.2.1 p) → KFX K Kb ∧ nd Kb K.1.1 10 := fun Kb e1 e2 => by
    refine ⟨⟨by rw [e1]; exact Nat.le_succ _, fun q q1 q2 => ⟨by rw [e1]; exact cp_up_ne (by omega), (e2 q (by omega)).1, (e2 q (by omega)).2⟩⟩, h86, by rw [e1]; exact Nat.lt_succ_self _, by rw [e1]; exact va_up_at⟩
  have ea : ∀ p, p ≠ K.1.1 → Ka.2.1 p = K.2.1 p ∧ Ka.2.2.1 p = K.2.2.1 p := fun p hp => by
    rw [hKa]
    refine ⟨?_, ?_⟩
    · rw [kP_i, kI_i, kI_i, cp_up_ne hp, cp_up_ne hp]; exact cp_up_ne hp
    · rw [kP_r, cp_up_ne hp]; exact cp_up_ne hp
  have na : Ka.1 = (kN K 10).1 := by rw [hKa]; rfl
  obtain ⟨fa, n1⟩ := fx Ka na ea
  obtain ⟨fb, n2⟩ := fx (kI Ka K.1.1 2 (nI (cso 14 ss))) na (fun p hp => ⟨by rw [kI_i, cp_up_ne hp]; exact (ea p hp).1, (ea p hp).2⟩)
  have c1 : KC 7 m_N_countOf (fun G => [va_rf (kr G p3), .int 14]) Ka (fun _ => some (.int (nI (cso 14 ss)))) Ka := (cof_c (fa.n hp) hs (by rw [fa.r hp]; exact h.kfx fa)).mono (by omega)
  have c2 : KC 7 m_N_countOf (fun G => [va_rf (kr G p3), .int 15]) (kI Ka K.1.1 2 (nI (cso 14 ss))) (fun _ => some (.int (nI (cso 15 ss)))) (kI Ka K.1.1 2 (nI (cso 14 ss))) := (cof_c (fb.n hp) hs (by rw [fb.r hp]; exact h.kfx fb)).mono (by omega)
  have n0 : nd (kN K 10) K.1.1 10 := ⟨h86, Nat.lt_succ_self _, va_up_at⟩
  have le := cso_le (w := 15) ss
  refine c_E_init (D := 0) ⟨n0, (nar_L hl).1, ⟨rfl, rfl⟩, fun _ => ⟨kN_KFX.n hp, nI (cso 14 ss), Ka, by rw [← hKa]; exact c1, n1, fun q => absurd rfl q, fun _ => ⟨fa.n hp, nI (cso 15 ss), _, c2, fun q => ⟨n2, rfl, ?_⟩, fun q => ⟨n2, rfl, ?_⟩⟩⟩, fun q => absurd rfl q⟩
  · have : cso 15 ss = 0 := by
      have := (nI_leq (b := 0) (by omega) (by omega)).mp q
      omega
    rw [if_pos this, hKa]
    rfl
  · have : ¬ cso 15 ss = 0 := fun e => q (by rw [e]; exact Int32.le_refl _)
    rw [if_neg this, hKa]
    rfl
/-- a node with one part -/
theorem N1_at {s : Int32} {r : Nat} : (nadd (ninit (kN K 9) K.1.1 s 0 0) K.1.1 r).1 = (K.1.1 + 1, va_up K.1.2 K.1.1 9) ∧ (nadd (ninit (kN K 9) K.1.1 s 0 0) K.1.1 r).2.2.2 = K.2.2.2 ∧ (∀ p, p ≠ K.1.1 → (nadd (ninit (kN K 9) K.1.1 s 0 0) K.1.1 r).2.1 p = K.2.1 p) ∧ (∀ p, p ≠ K.1.1 → (nadd (ninit (kN K 9) K.1.1 s 0 0) K.1.1 r).2.2.1 p = K.2.2.1 p) ∧ (nadd (ninit (kN K 9) K.1.1 s 0 0) K.1.1 r).2.1 K.1.1 0 = s ∧ (nadd (ninit (kN K 9) K.1.1 s 0 0) K.1.1 r).2.2.1 K.1.1 4 = r ∧ (nadd (ninit (kN K 9) K.1.1 s 0 0) K.1.1 r).2.2.1 K.1.1 5 = r ∧ (nadd (ninit (kN K 9) K.1.1 s 0 0) K.1.1 r).2.2.1 K.1.1 6 = 0 ∧ (ninit (kN K 9) K.1.1 s 0 0).2.2.1 K.1.1 5 = 0 := by
  obtain ⟨Ka, hKa⟩ : ∃ Ka, Ka = ninit (kN K 9) K.1.1 s 0 0 := ⟨_, rfl⟩
  have ai : ∀ p, p ≠ K.1.1 → Ka.2.1 p = K.2.1 p := fun p hp => by
    rw [hKa]
    unfold ninit
    simp only [kP_i, kI_i]
    rw [cp_up_ne hp, cp_up_ne hp, cp_up_ne hp, cp_up_ne hp]
    exact cp_up_ne hp
  have ar : ∀ p, p ≠ K.1.1 → Ka.2.2.1 p = K.2.2.1 p := fun p hp => by
    rw [hKa]
    unfold ninit
    simp only [kP_r, kI_r]
    rw [cp_up_ne hp, cp_up_ne hp, cp_up_ne hp]
    exact cp_up_ne hp
  have a5 : Ka.2.2.1 K.1.1 5 = 0 ∧ Ka.2.2.1 K.1.1 6 = 0 := by
    rw [hKa]
    unfold ninit
    simp only [kP_r, kI_r, va_up_at]
    rw [cp_up_ne (by decide), va_up_at]
    exact ⟨rfl, trivial⟩
  have a0 : Ka.2.1 K.1.1 0 = s := by
    rw [hKa]
    unfold ninit
    simp only [kP_i, kI_i, va_up_at]
    rw [cp_up_ne (by decide), cp_up_ne (by decide), cp_up_ne (by decide), va_up_at]
  have an : Ka.1 = (K.1.1 + 1, va_up K.1.2 K.1.1 9) ∧ Ka.2.2.2 = K.2.2.2 := by rw [hKa]; exact ⟨rfl, rfl⟩
  rw [← hKa]
  refine ⟨by rw [na_n]; exact an.1, by rw [na_w]; exact an.2, fun p hp => by rw [na_i hp]; exact ai p hp, fun p hp => by rw [na_r hp (Or.inr a5.1)]; exact ar p hp, by rw [na_ip, if_neg (by decide)]; exact a0, ?_, ?_, ?_, a5.1⟩
  · rw [na_rp (Or.inr a5.1), if_neg (by decide), if_pos rfl, if_pos a5.1]
  · rw [na_rp (Or.inr a5.1), if_pos rfl]
  · rw [na_rp (Or.inr a5.1), if_neg (by decide), if_neg (by decide)]; exact a5.2
/-- a node of the reference -/
theorem nod_r {n1 : Nat} {x v : Int32} (h16 : S.1 16 = nI n1) (hn : n1 < 2720) (h20 : ∃ r, r < 2720 ∧ S.1 20 = nI r) : ∃ S', MC 0 m_M_node [.int x, .int v, .int 0] S (some (.int (nI n1))) S' ∧ S'.1 = va_up S.1 16 (nI (n1 + 1)) ∧ (∀ p, ¬ (39 ≤ p ∧ p ≤ 43) → S'.2 p = S.2 p) ∧ S'.2 39 = upd (S.2 39) n1 x ∧ S'.2 40 = upd (S.2 40) n1 v ∧ S'.2 41 = upd (S.2 41) n1 0 := by
  obtain ⟨r, r1, r2⟩ := h20
  have v1 : vp_in (nI n1) 2720 := vp_in_nI hn (by decide)
  have e1 : nI n1 + 1 - 1 = nI n1 := by rw [nI_1]; exact nI_pred _
  have en : ∀ (o : Option Value) (T : cp_S), T.1 = S.1 → o = some (.int (nI n1)) → JJ 0 m_M_node o (va_up S.1 16 (nI (n1 + 1)), T.2) 85 [(1, .int x), (2, .int v), (3, .int 0)] T := fun o T q1 q2 => by
    refine b_M_node_85 ⟨?_, ?_⟩
    · rw [q1, h16, e1]; exact q2
    · rw [q1, h16, nI_1]
  have cl : (nI n1).toNatClampNeg = n1 := nI_clamp (by omega)
  by_cases hc : ¬ nI n1 < nI r ∧ ¬ 82 ≤ nI n1 - nI r
  · obtain ⟨c1, c2⟩ := hc
    have le : r ≤ n1 := Nat.le_of_not_lt (fun q => c1 (nI_lt q (by omega)))
    have es : nI n1 - nI r = nI (n1 - r) := pk_sub le
    rw [es] at c2
    have l82 : n1 - r < 82 := Nat.lt_of_not_le (fun q => c2 (nI_le (a := 82) q (by omega)))
    have v2 : vp_in (nI (n1 - r)) 82 := vp_in_nI l82 (by decide)
    refine ⟨(va_up S.1 16 (nI (n1 + 1)), va_up (va_up (va_up (va_up (va_up S.2 39 (upd (S.2 39) n1 x)) 40 (upd (S.2 40) n1 v)) 41 (upd (S.2 41) n1 0)) 42 (upd (S.2 42) (n1 - r) 0)) 43 (upd (S.2 43) (n1 - r) (-1))), c_M_node (b_M_node_0 ?_), rfl, fun p hp => ?_, rfl, rfl, rfl⟩
    · unfold wp_M_node_0
      rw [h16, r2, cl, es, nI_clamp (show n1 - r < 2 ^ 31 by omega)]
      exact ⟨v1, v1, v1, fun q => absurd q c1, fun _ => ⟨fun q => absurd q c2, fun _ => ⟨v2, v2, en _ (S.1, _) rfl rfl⟩⟩⟩
    · show va_up (va_up (va_up (va_up (va_up S.2 39 (upd (S.2 39) n1 x)) 40 (upd (S.2 40) n1 v)) 41 (upd (S.2 41) n1 0)) 42 (upd (S.2 42) (n1 - r) 0)) 43 (upd (S.2 43) (n1 - r) (-1)) p = _
      rw [cp_up_ne (by omega), cp_up_ne (by omega), cp_up_ne (by omega), cp_up_ne (by omega), cp_up_ne (by omega)]
  · refine ⟨(va_up S.1 16 (nI (n1 + 1)), va_up (va_up (va_up S.2 39 (upd (S.2 39) n1 x)) 40 (upd (S.2 40) n1 v)) 41 (upd (S.2 41) n1 0)), c_M_node (b_M_node_0 ?_), rfl, fun p hp => ?_, rfl, rfl, rfl⟩
    · unfold wp_M_node_0
      rw [h16, r2, cl]
      exact ⟨v1, v1, v1, fun _ => en _ (S.1, _) rfl rfl, fun q1 => ⟨fun _ => en _ (S.1, _) rfl rfl, fun q2 => absurd ⟨q1, q2⟩ hc⟩⟩
    · show va_up (va_up (va_up S.2 39 (upd (S.2 39) n1 x)) 40 (upd (S.2 40) n1 v)) 41 (upd (S.2 41) n1 0) p = _
      rw [cp_up_ne (by omega), cp_up_ne (by omega), cp_up_ne (by omega)]
theorem rem_r {kd cn : Int32} (hl : l < 26) (hlen : len < 26) (h14 : S.1 14 = nI len) : ∃ S', MC 0 m_M_remember [.int (nI l), .int kd, .int cn] S none S' ∧ S'.1 = va_up S.1 14 (nI (len + 1)) ∧ (∀ p, p ≠ 30 → p ≠ 31 → p ≠ 38 → S'.2 p = S.2 p) ∧ S'.2 30 = upd (S.2 30) l kd ∧ S'.2 31 = upd (S.2 31) l cn ∧ S'.2 38 = upd (S.2 38) len (nI l) := by
  have v1 : vp_in (nI l) 26 := vp_in_nI hl (by decide)
  refine ⟨(va_up S.1 14 (nI (len + 1)), va_up (va_up (va_up S.2 30 (upd (S.2 30) l kd)) 31 (upd (S.2 31) l cn)) 38 (upd (S.2 38) len (nI l))), c_M_remember (b_M_remember_0 ?_), rfl, fun p p1 p2 p3 => ?_, rfl, rfl, rfl⟩
  · unfold wp_M_remember_0
    rw [h14, nI_clamp (show l < 2 ^ 31 by omega), nI_clamp (show len < 2 ^ 31 by omega), nI_1]
    exact ⟨v1, v1, vp_in_nI hlen (by decide), rfl, rfl⟩
  · show va_up (va_up (va_up S.2 30 (upd (S.2 30) l kd)) 31 (upd (S.2 31) l cn)) 38 (upd (S.2 38) len (nI l)) p = _
    rw [cp_up_ne p3, cp_up_ne p2, cp_up_ne p1]
/-- a tree whose rows lie elsewhere -/
theorem CHN_sh {R R' : Nat → Nat → Nat → Prop} {s : Nat} (hlt : ∀ q i j, R q i j → i < j) : ∀ (m q i j : Nat), (∀ q i' j', i ≤ i' → j' ≤ j → R q i' j' → R' q (s + i') (s + j')) → CHN R K m q i j → CHN R' K m q (s + i) (s + j)
  | 0, q, i, j, _, h => ⟨h.1, by have := h.2; omega⟩
  | m + 1, q, i, j, hR, h => by
    obtain ⟨h1, i', h2, h3⟩ := h
    have l1 := hlt _ _ _ h2
    have := CHN_le hlt m _ _ _ h3
    exact ⟨h1, s + i', hR _ _ _ (Nat.le_refl _) (by omega) h2, CHN_sh hlt m _ i' j (fun q i2 j2 a b => hR q i2 j2 (by omega) b) h3⟩
theorem TR.sh2 {b b' : Nat → Nat → Int32} {s : Nat} : ∀ (k p i j : Nat), (∀ x, i ≤ x → x < j → b' 39 (s + x) = b 39 x ∧ b' 40 (s + x) = b 40 x ∧ b' 41 (s + x) = b 41 x) → TR K b (fun _ _ => True) k p i j → TR K b' (fun _ _ => True) k p (s + i) (s + j)
  | 0, _, _, _, _, h => h
  | k + 1, p, i, j, hb, h => by
    have hij := SH_lt _ _ _ (TR.sh _ _ _ _ h)
    unfold TR at h ⊢
    obtain ⟨h0, h1, h⟩ := h
    refine ⟨h0, h1, ?_⟩
    obtain ⟨e1, e2, e3⟩ := hb i (Nat.le_refl _) hij
    rw [e1, e2, e3]
    rcases h with h | h | h | h | ⟨q1, q2, c, m, q3, q4, q5, q6, q7, q8, q9⟩
    · exact Or.inl ⟨h.1, h.2.1, h.2.2.1, by have := h.2.2.2; omega⟩
    · exact Or.inr (Or.inl ⟨h.1, h.2.1, h.2.2.1, by have := h.2.2.2; omega⟩)
    · exact Or.inr (Or.inr (Or.inl ⟨h.1, h.2.1, h.2.2.1, by have := h.2.2.2; omega⟩))
    · exact Or.inr (Or.inr (Or.inr (Or.inl ⟨h.1, h.2.1, by have := h.2.2; omega⟩)))
    · exact Or.inr (Or.inr (Or.inr (Or.inr ⟨q1, q2, c, m, q3, q4, q5, q6, q7, q8, CHN_sh (fun q i j h => SH_lt _ _ _ (TR.sh _ _ _ _ h)) m _ (i + 1) j (fun q i' j' a1 a2 t => TR.sh2 k q i' j' (fun x x1 x2 => hb x (by omega) (by omega)) t) q9⟩)))
end CPGB
