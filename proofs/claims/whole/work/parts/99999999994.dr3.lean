/-! ===== drawing: rows as trees, one step ===== -/
def VTL (R : Nat → Nat → Nat → Nat → Prop) : List (Nat × Nat) → Nat → Nat → Prop
  | [], i, j => i = j
  | q :: A, i, j => ∃ i', R q.1 q.2 i i' ∧ VTL R A i' j
/-- the rows from i to j are the value -/
def VT (f : Nat → Int32) (N : Nat) (a : Nat → Nat → Int32) (ρ : Nat → Nat → Prop) (b : Nat → Nat → Int32) : Nat → Nat → Nat → Nat → Nat → Prop
  | 0, _, _, _, _ => False
  | k + 1, v, r, i, j => ρ v r ∧ ∃ A : List (Nat × Nat), A.length ≤ 6 ∧ f ((lk f N a ρ v r).1 + 2) = nI A.length ∧ (lk f N a ρ v r).1 + 3 + A.length ≤ N ∧ (∀ x (hx : x < A.length), f ((lk f N a ρ v r).1 + 3 + x) = nI A[x].1) ∧ b 79 i = (if a 52 (lk f N a ρ v r).2 = 0 then 2 else if a 52 (lk f N a ρ v r).2 = 1 then 3 else 5) ∧ b 80 i = a 53 (lk f N a ρ v r).2 ∧ b 81 i = nI A.length ∧ VTL (VT f N a ρ b k) A (i + 1) j
theorem VTL.le {R : Nat → Nat → Nat → Nat → Prop} (h : ∀ v r i j, R v r i j → i < j) : ∀ (A : List (Nat × Nat)) (i j : Nat), VTL R A i j → i ≤ j
  | [], _, _, e => Nat.le_of_eq e
  | q :: A, i, j, ⟨i', c1, c2⟩ => by
    have := h _ _ _ _ c1
    have := VTL.le h A i' j c2
    omega
theorem VTL.mp {R R' : Nat → Nat → Nat → Nat → Prop} (hle : ∀ v r i j, R v r i j → i < j) : ∀ (A : List (Nat × Nat)) (i j : Nat), (∀ v r i' j', j' ≤ j → R v r i' j' → R' v r i' j') → VTL R A i j → VTL R' A i j
  | [], _, _, _, e => e
  | q :: A, i, j, h, ⟨i', c1, c2⟩ => ⟨i', h _ _ _ _ (VTL.le hle A i' j c2) c1, VTL.mp hle A i' j h c2⟩
section CPVT
variable {f : Nat → Int32} {N : Nat} {a : Nat → Nat → Int32} {ρ : Nat → Nat → Prop} {b b' : Nat → Nat → Int32}
theorem VT.lt : ∀ (k v r i j : Nat), VT f N a ρ b k v r i j → i < j
  | 0, _, _, _, _, h => h.elim
  | k + 1, v, r, i, j, h => by
    obtain ⟨-, A, -, -, -, -, -, -, -, h8⟩ := h
    have := VTL.le (VT.lt k) A (i + 1) j h8
    omega
theorem VT.mono : ∀ (k k' v r i j : Nat), k ≤ k' → VT f N a ρ b k v r i j → VT f N a ρ b k' v r i j
  | 0, _, _, _, _, _, _, h => h.elim
  | k + 1, 0, _, _, _, _, hk, _ => absurd hk (by omega)
  | k + 1, k' + 1, v, r, i, j, hk, h => by
    obtain ⟨h0, A, h1, h2, h3, h4, h5, h6, h7, h8⟩ := h
    exact ⟨h0, A, h1, h2, h3, h4, h5, h6, h7, VTL.mp (VT.lt k) A _ _ (fun v r i j _ => VT.mono k k' v r i j (by omega)) h8⟩
theorem VT.cg : ∀ (k v r i j : Nat), (∀ p, 79 ≤ p → p ≤ 81 → ∀ x, x < j → b' p x = b p x) → VT f N a ρ b k v r i j → VT f N a ρ b' k v r i j
  | 0, _, _, _, _, _, h => h.elim
  | k + 1, v, r, i, j, hb, h => by
    have hij := VT.lt _ _ _ _ _ h
    obtain ⟨h0, A, h1, h2, h3, h4, h5, h6, h7, h8⟩ := h
    exact ⟨h0, A, h1, h2, h3, h4, by rw [hb 79 (by omega) (by omega) i hij]; exact h5, by rw [hb 80 (by omega) (by omega) i hij]; exact h6, by rw [hb 81 (by omega) (by omega) i hij]; exact h7, VTL.mp (VT.lt k) A _ _ (fun v r i j' hj => VT.cg k v r i j' (fun p p1 p2 x hx => hb p p1 p2 x (by omega))) h8⟩
end CPVT
def FDR (S S' : cp_S) : Prop := (∀ k, k ≠ 74 → k ≠ 75 → S'.1 k = S.1 k) ∧ ∀ p, p ≠ 29 → p ≠ 61 → p ≠ 62 → p ≠ 79 → p ≠ 80 → p ≠ 81 → S'.2 p = S.2 p
theorem FDR.refl {S : cp_S} : FDR S S := ⟨fun _ _ _ => rfl, fun _ _ _ _ _ _ _ => rfl⟩
theorem FDR.trans {S S1 S2 : cp_S} (h : FDR S S1) (g : FDR S1 S2) : FDR S S2 := ⟨fun k a b => (g.1 k a b).trans (h.1 k a b), fun p a b c d e f => (g.2 p a b c d e f).trans (h.2 p a b c d e f)⟩
theorem FDR.of {S S1 : cp_S} (h : FW S S1) : FDR S S1 := ⟨fun k _ _ => by rw [h.1], fun p _ a b _ _ _ => h.2 p a b⟩
theorem DRO.fd {S S' : cp_S} {s n m : Nat} {cs : List Nat} (h : DRO S S' s n m cs) : FDR S S' := ⟨h.1, fun p a _ _ b c d => h.2.2.2.1 p a b c d⟩
theorem GE.fd {S S' : cp_S} {a : Nat → Nat → Int32} (h : GE S a) (g : FDR S S') : GE S' a := fun p p1 p2 => (g.2 p (by omega) (by omega) (by omega) (by omega) (by omega) (by omega)).trans (h p p1 p2)
/-- both have drawn n characters in m rows -/
def DST (K : cp_K) (S : cp_S) (n m : Nat) : Prop := (DN K n ∧ n ≤ 100) ∧ (S.1 75 = nI m ∧ m ≤ n) ∧ (∀ i, i < n → S.2 29 i = K.2.1 13 i ∧ ∃ c, c < 128 ∧ K.2.1 13 i = nI c) ∧ (S.1 74 = 0 ∨ S.1 74 = 1) ∧ (S.1 74 = 1 ↔ ∃ i, i < n ∧ K.2.1 13 i = nI 95) ∧ ∀ x, x < m → S.2 79 x = 5 → S.2 80 x = -1 → S.1 74 = 1
def DKP (K K' : cp_K) (S S' : cp_S) (n m d : Nat) : Prop := WF K K' ∧ FDR S S' ∧ (∀ i, i < n → K'.2.1 13 i = K.2.1 13 i) ∧ (∀ p, 79 ≤ p → p ≤ 81 → ∀ i, i < m → S'.2 p i = S.2 p i) ∧ ∀ i, i < d → S'.2 61 i = S.2 61 i ∧ S'.2 62 i = S.2 62 i
theorem DKP.trans {K K1 K2 : cp_K} {S S1 S2 : cp_S} {n n1 m m1 d d1 : Nat} (h : DKP K K1 S S1 n m d) (g : DKP K1 K2 S1 S2 n1 m1 d1) (hn : n ≤ n1) (hm : m ≤ m1) (hd : d ≤ d1) : DKP K K2 S S2 n m d := by
  obtain ⟨a1, a2, a3, a4, a5⟩ := h
  obtain ⟨b1, b2, b3, b4, b5⟩ := g
  exact ⟨a1.trans b1, a2.trans b2, fun i hi => (b3 i (by omega)).trans (a3 i hi), fun p p1 p2 i hi => (b4 p p1 p2 i (by omega)).trans (a4 p p1 p2 i hi), fun i hi => ⟨(b5 i (by omega)).1.trans (a5 i hi).1, (b5 i (by omega)).2.trans (a5 i hi).2⟩⟩
def VLS (ρ : Nat → Nat → Prop) (L : List Int32) : Prop := ∀ x ∈ L, x = -1 ∨ ∃ v r, x = nI v ∧ ρ v r
def WCO (x1 : Int32) (T : Nat) (K : cp_K) (T' : Nat) (K' : cp_K) : Prop := ∀ (o : cp_G → cp_O) (K2 : cp_K), JC 10 m_V_write o K2 23 (fun G => [(0, .ref (cp_b G + 6)), (1, .int x1), (2, .int (nI T'))]) (fun _ => []) K' → JC 10 m_V_write o K2 23 (fun G => [(0, .ref (cp_b G + 6)), (1, .int x1), (2, .int (nI T))]) (fun _ => []) K
def RCO (x : Int32) (d n : Nat) (S : cp_S) (d' n' : Nat) (S' : cp_S) : Prop := ∀ (o : Option Value) (S2 : cp_S), JJ 2 m_M_draw o S2 28 [(1, .int x), (2, .int (nI d')), (3, .int (nI n'))] S' → JJ 2 m_M_draw o S2 28 [(1, .int x), (2, .int (nI d)), (3, .int (nI n))] S
def WLO (x1 : Int32) (T : Nat) (K : cp_K) : Prop := ∃ K', WF K K' ∧ rsz K' 9 ≤ 1300 ∧ JC 10 m_V_write (fun _ => .inl (some (.int (nI 101)))) K' 23 (fun G => [(0, .ref (cp_b G + 6)), (1, .int x1), (2, .int (nI T))]) (fun _ => []) K
def RLO (x : Int32) (d n : Nat) (S : cp_S) : Prop := ∃ S', FDR S S' ∧ JJ 2 m_M_draw (some (.int (-200))) S' 28 [(1, .int x), (2, .int (nI d)), (3, .int (nI n))] S
theorem RLO.of {x : Int32} {d n : Nat} {S : cp_S} (hn : 100 < n) (hn2 : n < 2 ^ 31) (hd : 0 < d) (hd2 : d < 2 ^ 31) : RLO x d n S := by
  have h1 : ¬ nI n ≤ 100 := nI_ge (a := 100) hn hn2
  have h2 : 100 < nI n := nI_lt (a := 100) hn hn2
  exact ⟨S, FDR.refl, b_M_draw_28 ⟨fun h => absurd h (nI_nle hd hd2), fun _ => ⟨fun _ => ⟨fun h => absurd h h1, fun _ => ⟨rfl, rfl⟩⟩, fun h => absurd h2 h⟩⟩⟩
/-- the reference goes one further down -/
theorem fur1 {S : cp_S} {d k s m t s' : Nat} {x : Int32} (hd : d ≤ 200) (h61 : S.2 61 d = nI s) (hs : s < 6000) (h62 : S.2 62 d = nI k) (h55 : S.2 55 s = nI m) (hk : k < m) (hm : m ≤ 6) (h54 : S.2 54 s = nI t) (ht : t + m ≤ 6000) (h56 : S.2 56 (t + k) = x) (sn : MC 0 m_M_seen [.int x] S (some (.int (nI s'))) S) : ∃ S', MC 1 m_M_further [.int (nI (d + 1))] S (some (.int (nI (d + 2)))) S' ∧ FW S S' ∧ S'.2 61 (d + 1) = nI s' ∧ S'.2 62 (d + 1) = 0 ∧ S'.2 62 d = nI (k + 1) ∧ S'.2 61 d = nI s ∧ (∀ i, i < d → S'.2 61 i = S.2 61 i ∧ S'.2 62 i = S.2 62 i) := by
  have e1 : nI (d + 1) - 1 = nI d := nI_pred d
  have cd : (nI d).toNatClampNeg = d := nI_clamp (by omega)
  have cd1 : (nI (d + 1)).toNatClampNeg = d + 1 := nI_clamp (by omega)
  have cs : (nI s).toNatClampNeg = s := nI_clamp (by omega)
  obtain ⟨S', hS'⟩ : ∃ S' : cp_S, S' = (S.1, va_up (va_up (va_up S.2 61 (upd (S.2 61) (d + 1) (nI s'))) 62 (upd (S.2 62) (d + 1) 0)) 62 (upd (upd (S.2 62) (d + 1) 0) d (upd (S.2 62) (d + 1) 0 d + 1))) := ⟨_, rfl⟩
  have hS2 : S'.2 = va_up (va_up (va_up S.2 61 (upd (S.2 61) (d + 1) (nI s'))) 62 (upd (S.2 62) (d + 1) 0)) 62 (upd (upd (S.2 62) (d + 1) 0) d (upd (S.2 62) (d + 1) 0 d + 1)) := by rw [hS']
  have t61 : S'.2 61 = upd (S.2 61) (d + 1) (nI s') := by rw [hS2, cp_up_ne (by decide), cp_up_ne (by decide), va_up_at]
  have t62 : S'.2 62 = upd (upd (S.2 62) (d + 1) 0) d (nI (k + 1)) := by rw [hS2, va_up_at, pk_un (show d ≠ d + 1 by omega), h62, nI_1]
  refine ⟨S', c_M_further (b_M_further_0 (b_M_further_2 ?_)), ⟨by rw [hS'], fun p p1 p2 => by rw [hS2, cp_up_ne p2, cp_up_ne p2, cp_up_ne p1]⟩, by rw [t61, pk_us], by rw [t62, pk_un (by omega), pk_us], by rw [t62, pk_us], by rw [t61, pk_un (by omega)]; exact h61, fun i hi => ⟨by rw [t61, pk_un (by omega)], by rw [t62, pk_un (by omega), pk_un (by omega)]⟩⟩
  unfold wp_M_further_2
  rw [e1, cd, h61, cs, h62, h55]
  refine ⟨fun h => absurd h (nI_nle (by omega) (by omega)), fun _ => ⟨vp_in_nI (show d < 210 by omega) (by decide), vp_in_nI (show d < 210 by omega) (by decide), vp_in_nI (show s < 6000 by omega) (by decide), fun _ => b_M_further_36 ?_, fun h => absurd ((nI_eq (by omega) (by omega)).mp h) (by omega)⟩⟩
  unfold wp_M_further_36
  rw [e1, cd, h61, cs, h62, h54, nI_add, nI_clamp (show t + k < 2 ^ 31 by omega), h56, cd1]
  refine ⟨fun _ => ⟨vp_in_nI (show d < 210 by omega) (by decide), vp_in_nI (show s < 6000 by omega) (by decide), vp_in_nI (show d < 210 by omega) (by decide), vp_in_nI (show t + k < 6000 by omega) (by decide), nI s', S, sn, vp_in_nI (show d + 1 < 210 by omega) (by decide), vp_in_nI (show d + 1 < 210 by omega) (by decide), vp_in_nI (show d < 210 by omega) (by decide), vp_in_nI (show d < 210 by omega) (by decide), by rw [nI_1], hS'⟩, fun h => absurd h (nI_ne0 (by omega) (by omega))⟩
section CPLO
variable {f : Nat → Int32} {N : Nat} {a : Nat → Nat → Int32} {nv nc C : Nat} {ρ : Nat → Nat → Prop} {hl : List Nat}
theorem VLS.args {A : List (Nat × Nat)} {L : List Int32} (hA : ∀ q ∈ A, ρ q.1 q.2) (hL : VLS ρ L) : VLS ρ (A.map (fun q => nI q.1) ++ L) := fun x hx => by
  rcases List.mem_append.mp hx with h | h
  · obtain ⟨q, q1, q2⟩ := List.mem_map.mp h
    exact Or.inr ⟨q.1, q.2, q2.symm, hA q q1⟩
  · exact hL x h
theorem VLS.neg {L : List Int32} (hL : VLS ρ L) : VLS ρ (-1 :: L) := fun x hx => by
  rcases List.mem_cons.mp hx with h | h
  · exact Or.inl h
  · exact hL x h
/-- one turn of the class: a value -/
theorem write_v (V : VI f N a nv nc ρ hl C) {v r T : Nat} {x1 : Int32} {L : List Int32} {K K1 : cp_K} (h : ρ v r) (hT : T ≤ 100) (e1 : rat K 7 = f) (e2 : rsz K 7 = N) (hR : RS K 9 (nI v :: L)) (hl : L.length ≤ 10000) (w : KC 9 m_V_writeHead (fun G => [.ref (cp_b G + 6), .int (nI (lk f N a ρ v r).1)]) (kpop K 9) (fun _ => none) K1) : WCO x1 T K (T + 1) K1 := fun o K2 g => by
  have hv := (V.1.1 v r h).1
  have hN := V.2.2.2.2.2.2.2
  obtain ⟨-, hr⟩ := hR.pop
  have k7 := (KF.pop (K := K) (r := 9)).2.2.1 7 (by decide)
  refine b_V_write_23 (D := 2) ?_
  unfold wp_V_write_23
  rw [hr, hR.1, List.length_cons]
  refine ⟨fun q => absurd q (nI_nlt (a := 100) (b := T) hT (by decide)), fun _ => ⟨fun q => absurd q (nI_nle (by omega) (by omega)), fun _ => ⟨fun _ => ⟨_, kpop K 9, ((lk_spec V h).2.2.1 (kpop K 9) (k7.2.trans e1) (k7.1.trans e2)).mono (by decide), K1, w, b_V_write_70 (D := 2) ?_⟩, fun q => absurd q (nI_m1 (by omega))⟩⟩⟩
  unfold wp_V_write_70
  rw [nI_1]
  exact g
theorem write_c {T n : Nat} {x1 : Int32} {L : List Int32} {K : cp_K} (hd : DN K n) (hT : T ≤ 100) (hR : RS K 9 (-1 :: L)) (hl : L.length ≤ 10000) : WCO x1 T K (T + 1) (wput (kpop K 9) 41) := fun o K2 g => by
  obtain ⟨-, hr⟩ := hR.pop
  refine b_V_write_23 (D := 2) ?_
  unfold wp_V_write_23
  rw [hr, hR.1, List.length_cons]
  refine ⟨fun q => absurd q (nI_nlt (a := 100) (b := T) hT (by decide)), fun _ => ⟨fun q => absurd q (nI_nle (by omega) (by omega)), fun _ => ⟨fun q => absurd rfl q, fun _ => ⟨?_, b_V_write_70 (D := 2) ?_⟩⟩⟩⟩
  · rw [(KF.pop (K := K) (r := 9)).1]
    exact hd.n0
  · unfold wp_V_write_70
    rw [nI_1]
    exact g
theorem DN.kf {K K' : cp_K} {n : Nat} {rs : List Nat} (h : DN K n) (k : KF rs K K') : DN K' n := ⟨by rw [k.1]; exact h.1, h.2⟩
/-- the class goes on to the end when its draft is full -/
theorem wlong (V : VI f N a nv nc ρ hl C) (h5 : ∀ v r, ρ v r → ¬ f v = 5) {x1 : Int32} : ∀ (t T : Nat) (K : cp_K) (L : List Int32), T + t = 101 → rat K 7 = f → rsz K 7 = N → DN K 101 → RS K 9 L → VLS ρ L → L.length + 7 * t ≤ 1280 → WLO x1 T K
  | 0, T, K, L, hT, e1, e2, hd, hR, hL, hl => ⟨K, WF.refl, by rw [hR.1]; omega, b_V_write_23 (D := 2) ⟨fun _ => ⟨by rw [hd.1], rfl⟩, fun q => absurd (by rw [show T = 101 by omega]; decide) q⟩⟩
  | t + 1, T, K, [], hT, e1, e2, hd, hR, hL, hl => ⟨K, WF.refl, by rw [hR.1]; exact Nat.zero_le _, b_V_write_23 (D := 2) ⟨fun _ => ⟨by rw [hd.1], rfl⟩, fun _ => ⟨fun _ => ⟨by rw [hd.1], rfl⟩, fun q => absurd (by rw [hR.1]; decide) q⟩⟩⟩
  | t + 1, T, K, x :: L, hT, e1, e2, hd, hR, hL, hl => by
    rw [List.length_cons] at hl
    have kf : KF [9] K (kpop K 9) := KF.pop
    have k7 := kf.2.2.1 7 (by decide)
    have hd1 := hd.kf kf
    have hR1 := hR.pop.1
    rcases hL x List.mem_cons_self with hx | ⟨v, r, hx, h⟩
    · subst hx
      have wc := write_c (x1 := x1) hd (show T ≤ 100 by omega) hR (by omega)
      rw [wput_full hd1 (Nat.le_refl _)] at wc
      obtain ⟨K', a1, a2, a3⟩ := wlong V h5 t (T + 1) (kpop K 9) L (by omega) (k7.2.trans e1) (k7.1.trans e2) hd1 hR1 (fun y hy => hL y (List.mem_cons_of_mem _ hy)) (by omega)
      exact ⟨K', (WF.of kf).trans a1, a2, wc _ _ a3⟩
    · subst hx
      obtain ⟨g1, g2, -, -⟩ := lk_spec V h
      obtain ⟨cs, t', A, -, ⟨A1, -, -, -, -, A6, -, -⟩, hc, -⟩ := head_m V h5 g1 g2
      obtain ⟨K1, c1, c2, c3, -, -, c6⟩ := hc (kpop K 9) 101 L (k7.2.trans e1) (k7.1.trans e2) hd1 hR1 (by omega)
      have wv := write_v V (x1 := x1) h (show T ≤ 100 by omega) e1 e2 hR (by omega) c1
      have q7 := c3.2.2.1 7 (by decide)
      have hL' : VLS ρ L := fun y hy => hL y (List.mem_cons_of_mem _ hy)
      have vl : VLS ρ (A.map (fun q => nI q.1) ++ (if A.length = 0 then L else -1 :: L)) := VLS.args A6 (by split; exact hL'; exact hL'.neg)
      have ln : (A.map (fun q => nI q.1) ++ (if A.length = 0 then L else -1 :: L)).length ≤ 7 + L.length := by
        rw [List.length_append, List.length_map]
        split
        · omega
        · rw [List.length_cons]; omega
      rw [show min (101 + cs.length) 101 = 101 by omega] at c2
      obtain ⟨K', a1, a2, a3⟩ := wlong V h5 t (T + 1) K1 _ (by omega) (q7.2.trans (k7.2.trans e1)) (q7.1.trans (k7.1.trans e2)) c2 c6 vl (by omega)
      exact ⟨K', ((WF.of kf).trans c3).trans a1, a2, wv _ _ a3⟩
end CPLO
