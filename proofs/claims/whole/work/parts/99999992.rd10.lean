/-! ===== reading: parts of a declaration: the reference's steps ===== -/
/-- a part that was read: the node q, the part pt, nodes i to j, places q to a1 -/
def PRT (K : cp_K) (b : Nat → Nat → Int32) (rf q pt i j a1 : Nat) : Prop := nd K q 9 ∧ q + 1 < a1 ∧ pt < 180 ∧ b 46 pt = nI i ∧ K.2.2.1 q 4 = q + 1 ∧
  ((K.2.1 q 0 = 15 ∧ b 44 pt = 2 ∧ (∃ w, w < 100 ∧ K.2.1 q 2 = nI w) ∧ K.2.1 q 2 = b 48 pt ∧ ∃ l m, l < 26 ∧ m ≤ 6 ∧ K.2.1 q 1 = nI (65 + l) ∧ b 45 pt = nI l ∧ b 47 pt = nI m ∧ K.2.1 q 3 = nI (m + 1) ∧ RCH (RTR K b rf 8) K (m + 1) (q + 1) i j (q + 1) a1 ∧ LST K (m + 1) (q + 1) (K.2.2.1 q 5)) ∨
   (K.2.1 q 0 = 14 ∧ RTR K b rf 8 (q + 1) i j a1 ∧ K.2.2.1 (q + 1) 6 = 0 ∧ ((∃ x, x < 26 ∧ b 44 pt = 0 ∧ b 45 pt = nI x ∧ K.2.1 q 1 = nI (97 + x)) ∨ (b 44 pt = 1 ∧ K.2.1 q 1 = 0))))
def RPC (K : cp_K) (b : Nat → Nat → Int32) (rf : Nat) : Nat → Nat → Nat → Nat → Nat → Nat → Prop
  | 0, _, i, j, a, a1 => i = j ∧ a = a1
  | m + 1, pt, i, j, a, a1 => ∃ i' a', PRT K b rf a pt i i' a' ∧ (0 < m → K.2.2.1 a 6 = a') ∧ RPC K b rf m (pt + 1) i' j a' a1
theorem LST.loc {K K' : cp_K} {a a1 : Nat} (h : ∀ x, a ≤ x → x < a1 → K'.2.2.1 x 6 = K.2.2.1 x 6) {R : Nat → Nat → Nat → Nat → Prop} (hR : ∀ q i j a, R q i j a → i < j ∧ q < a) : ∀ (m q e i j b1 : Nat), LST K m q e → RCH R K m q i j b1 a1 → a ≤ b1 → LST K' m q e
  | 0, _, _, _, _, _, h, _, _ => h
  | 1, _, _, _, _, _, h, _, _ => h
  | m + 2, q, e, i, j, b1, hl, hc, hb => by
    obtain ⟨rfl, i', a', h1, h2⟩ := hc
    have l1 := hR _ _ _ _ h1
    have l2 := RCH.le hR _ _ _ _ _ _ h2
    show LST K' (m + 1) (K'.2.2.1 q 6) e
    rw [h q hb (by omega)]
    exact LST.loc h hR (m + 1) _ e i' j a' hl h2 (by omega)
theorem RCH.lt1 {K : cp_K} {b : Nat → Nat → Int32} {rf k m q i j a a1 : Nat} (h : RCH (RTR K b rf k) K (m + 1) q i j a a1) : i < j ∧ a < a1 := by
  have := RCH.le (RTR.lt k) _ _ _ _ _ _ h
  omega
theorem PRT.lt {K : cp_K} {b : Nat → Nat → Int32} {rf q pt i j a1 : Nat} (h : PRT K b rf q pt i j a1) : i < j ∧ q + 1 < a1 := by
  obtain ⟨-, h1, -, -, -, h⟩ := h
  refine ⟨?_, h1⟩
  rcases h with ⟨-, -, -, -, l, m, -, -, -, -, -, -, h, -⟩ | ⟨-, h, -⟩
  · exact h.lt1.1
  · exact (RTR.lt _ _ _ _ _ h).1
theorem PRT.loc {K K' : cp_K} {b b' : Nat → Nat → Int32} {rf q pt i j a1 : Nat} (hn : K.1.1 ≤ K'.1.1) (h : PRT K b rf q pt i j a1) (hK : ∀ x, q ≤ x → x < a1 → (∀ f, K'.2.1 x f = K.2.1 x f) ∧ K'.1.2 x = K.1.2 x ∧ K'.2.2.1 x 4 = K.2.2.1 x 4 ∧ K'.2.2.1 x 5 = K.2.2.1 x 5 ∧ (x ≠ q → K'.2.2.1 x 6 = K.2.2.1 x 6)) (hb : ∀ x, i ≤ x → x < j → b' 39 x = b 39 x ∧ b' 40 x = b 40 x ∧ b' 41 x = b 41 x ∧ b' 42 (x - rf) = b 42 (x - rf)) (hp : ∀ g, 44 ≤ g → g ≤ 48 → b' g pt = b g pt) : PRT K' b' rf q pt i j a1 := by
  have lt := h.lt
  obtain ⟨h0, h1, h2, h3, h4, h5⟩ := h
  obtain ⟨k1, k2, k3, k4, -⟩ := hK q (Nat.le_refl _) (by omega)
  unfold PRT
  rw [k1, k1, k1, k1, k3, k4, hp 44 (by omega) (by omega), hp 45 (by omega) (by omega), hp 46 (by omega) (by omega), hp 47 (by omega) (by omega), hp 48 (by omega) (by omega)]
  have n1 : nd K' q 9 := ⟨h0.1, by have := h0.2.1; omega, by rw [k2]; exact h0.2.2⟩
  have hr : ∀ q' i' j' a', q + 1 ≤ q' → a' ≤ a1 → i ≤ i' → j' ≤ j → RTR K b rf 8 q' i' j' a' → RTR K' b' rf 8 q' i' j' a' := fun q' i' j' a' c1 c2 c3 c4 c5 => RTR.loc hn 8 q' i' j' a' c5 (fun x x1 x2 => by
    obtain ⟨e1, e2, e3, -, e4⟩ := hK x (by omega) (by omega)
    exact ⟨e1, e2, e3, fun _ => e4 (by omega)⟩) (fun x x1 x2 => hb x (by omega) (by omega))
  have hn6 : ∀ x, q + 1 ≤ x → x < a1 → K'.2.2.1 x 6 = K.2.2.1 x 6 := fun x x1 x2 => (hK x (by omega) x2).2.2.2.2 (by omega)
  refine ⟨n1, h1, h2, h3, h4, ?_⟩
  rcases h5 with ⟨a1', a2, a3, a4, l, m, b1, b2, b3, b4, b5, b6, b7, b8⟩ | ⟨a1', a2, a3, a4⟩
  · exact Or.inl ⟨a1', a2, a3, a4, l, m, b1, b2, b3, b4, b5, b6, RCH.loc (RTR.lt 8) _ _ _ _ _ _ b7 hr hn6, LST.loc hn6 (RTR.lt 8) _ _ _ _ _ _ b8 b7 (Nat.le_refl _)⟩
  · exact Or.inr ⟨a1', hr _ _ _ _ (Nat.le_refl _) (Nat.le_refl _) (Nat.le_refl _) (Nat.le_refl _) a2, by rw [hn6 _ (Nat.le_refl _) h1]; exact a3, a4⟩
/-- as RFX; parts below P stand -/
def RFY (rf n1 len P : Nat) (S S' : cp_S) : Prop := (∀ k, k ≠ 16 → k ≠ 29 → k ≠ 33 → k ≠ 34 → S'.1 k = S.1 k) ∧ (∀ q, (q < 39 ∨ 51 < q) → S'.2 q = S.2 q) ∧ (∀ q, 39 ≤ q → q ≤ 41 → ∀ x, x < n1 → S'.2 q x = S.2 q x) ∧ (∀ x, x < n1 - rf → S'.2 42 x = S.2 42 x) ∧ (∀ q, 44 ≤ q → q ≤ 48 → ∀ x, x < P → S'.2 q x = S.2 q x) ∧ ∀ q, 49 ≤ q → q ≤ 51 → ∀ x, x < len → S'.2 q x = S.2 q x
theorem RFY.refl {rf n1 len P : Nat} {S : cp_S} : RFY rf n1 len P S S := ⟨fun _ _ _ _ _ => rfl, fun _ _ => rfl, fun _ _ _ _ _ => rfl, fun _ _ => rfl, fun _ _ _ _ _ => rfl, fun _ _ _ _ _ => rfl⟩
theorem RFY.trans {rf n1 len P n2 len2 P2 : Nat} {S S1 S2 : cp_S} (h : RFY rf n1 len P S S1) (g : RFY rf n2 len2 P2 S1 S2) (hn : n1 ≤ n2) (hl : len ≤ len2) (hp : P ≤ P2) : RFY rf n1 len P S S2 := by
  obtain ⟨a1, a2, a3, a4, a5, a6⟩ := h
  obtain ⟨b1, b2, b3, b4, b5, b6⟩ := g
  exact ⟨fun k k1 k2 k3 k4 => (b1 k k1 k2 k3 k4).trans (a1 k k1 k2 k3 k4), fun q hq => (b2 q hq).trans (a2 q hq), fun q q1 q2 x hx => (b3 q q1 q2 x (by omega)).trans (a3 q q1 q2 x hx), fun x hx => (b4 x (by omega)).trans (a4 x hx), fun q q1 q2 x hx => (b5 q q1 q2 x (by omega)).trans (a5 q q1 q2 x hx), fun q q1 q2 x hx => (b6 q q1 q2 x (by omega)).trans (a6 q q1 q2 x hx)⟩
theorem RFZ.y {rf n1 len pt P : Nat} {S S' : cp_S} (h : RFZ rf n1 len pt S S') (hp : P ≤ pt) : RFY rf n1 len P S S' := ⟨fun k k1 k2 _ k4 => h.1 k k1 k2 k4, h.2.1, h.2.2.1, h.2.2.2.1, fun q q1 q2 x hx => h.2.2.2.2.1 q q1 q2 x (Or.inl (by omega)), h.2.2.2.2.2⟩
theorem RFX.y {rf n1 len P : Nat} {S S' : cp_S} (h : RFX rf n1 len n1 S S') : RFY rf n1 len P S S' := (h.z (pt := P)).y (Nat.le_refl _)
theorem SPO.rfy {rf n1 len P : Nat} {S T : cp_S} (h : SPO S T) : RFY rf n1 len P S T := (h.rfz (pt := P)).y (Nat.le_refl _)
def ptS (S : cp_S) (pk : Nat) (kd nm tm p : Int32) : cp_S := (va_up S.1 33 (nI (pk + 1)), va_up (va_up (va_up (va_up (va_up S.2 44 (upd (S.2 44) pk kd)) 45 (upd (S.2 45) pk nm)) 46 (upd (S.2 46) pk (S.1 16))) 47 (upd (S.2 47) pk tm)) 48 (upd (S.2 48) pk p))
section CPPA
variable {S S' : cp_S} {l : List cp_I} {n1 rf pk : Nat} {kd nm tm p : Int32}
theorem pts_1 {k : Nat} (h : k ≠ 33) : (ptS S pk kd nm tm p).1 k = S.1 k := by unfold ptS; exact cp_up_ne h
theorem pts_33 : (ptS S pk kd nm tm p).1 33 = nI (pk + 1) := by show va_up S.1 33 (nI (pk + 1)) 33 = _; rw [va_up_at]
theorem pts_2 {q : Nat} (h : q < 44 ∨ 48 < q) : (ptS S pk kd nm tm p).2 q = S.2 q := by
  unfold ptS
  simp only [cp_up_ne (show q ≠ 48 by omega), cp_up_ne (show q ≠ 47 by omega), cp_up_ne (show q ≠ 46 by omega), cp_up_ne (show q ≠ 45 by omega), cp_up_ne (show q ≠ 44 by omega)]
theorem pts_lo {q x : Nat} (h : x ≠ pk) (h1 : 44 ≤ q) (h2 : q ≤ 48) : (ptS S pk kd nm tm p).2 q x = S.2 q x := by
  unfold ptS
  have hq : q = 44 ∨ q = 45 ∨ q = 46 ∨ q = 47 ∨ q = 48 := by omega
  rcases hq with rfl | rfl | rfl | rfl | rfl <;> simp [va_up, pk_un h]
theorem pts_at : (ptS S pk kd nm tm p).2 44 pk = kd ∧ (ptS S pk kd nm tm p).2 45 pk = nm ∧ (ptS S pk kd nm tm p).2 46 pk = S.1 16 ∧ (ptS S pk kd nm tm p).2 47 pk = tm ∧ (ptS S pk kd nm tm p).2 48 pk = p := by
  unfold ptS
  refine ⟨?_, ?_, ?_, ?_, ?_⟩ <;> simp [va_up, pk_us]
theorem PS.pts (h : PS S l n1 rf) : PS (ptS S pk kd nm tm p) l n1 rf := ⟨by rw [pts_1 (by decide)]; exact h.1, STK.mv l h.2.1 (fun q q1 q2 x _ => by rw [pts_2 (by omega)]), by rw [pts_1 (by decide)]; exact h.2.2.1, by rw [pts_1 (by decide)]; exact h.2.2.2⟩
theorem pts_rfy {len : Nat} : RFY rf n1 len pk S (ptS S pk kd nm tm p) := ⟨fun k _ _ k3 _ => pts_1 k3, fun q hq => pts_2 (by omega), fun q q1 q2 x _ => by rw [pts_2 (by omega)], fun x _ => by rw [pts_2 (by omega)], fun q q1 q2 x hx => pts_lo (by omega) q1 q2, fun q q1 q2 x _ => by rw [pts_2 (by omega)]⟩
theorem psh_rfy {w x y : Int32} {k len P : Nat} (h : len ≤ k) : RFY rf n1 len P S (pshS S k w x y) := (psh_rfx (m := n1) (i0 := n1) h).y
theorem MC_part (h33 : S.1 33 = nI pk) (hp : pk < 180) : MC 0 m_M_part [.int kd, .int nm, .int tm, .int p] S (some (.int (nI pk))) (ptS S pk kd nm tm p) := by
  refine c_M_part (b_M_part_0 ?_)
  unfold wp_M_part_0
  rw [h33, nI_clamp (show pk < 2 ^ 31 by omega), nI_1, show nI (pk + 1) - 1 = nI pk from nI_pred _]
  have v : ∀ a, cp_ml a = 180 → vp_in (nI pk) (cp_ml a) := fun a ha => by rw [ha]; exact vp_in_nI hp (by decide)
  exact ⟨v 44 rfl, v 45 rfl, v 46 rfl, v 47 rfl, v 48 rfl, rfl, rfl⟩
end CPPA
/-- a part is begun at p, then the text goes on -/
def BPK (X : Int32 × Int32 × Int32) (n : Nat) (o : Option Value) (Sx : cp_S) (S : cp_S) (p a : Nat) : Prop := ∃ r T, MC 2 m_M_beginPart [.int (S.2 27 p), .int (nI p), .int (nI a)] S (some (.int r)) T ∧ (r = 0 ∨ r = 1) ∧ (r = 0 → o = some (.int (nI p)) ∧ Sx = T) ∧ (¬ r = 0 → RD X n o Sx (p + 1) T)
section CPBP
variable {X : Int32 × Int32 × Int32} {n p a c pk n1 rf : Nat} {S : cp_S} {l : List cp_I} {o : Option Value} {Sx : cp_S}
theorem bp_term (h : PS S l n1 rf) (hl : l.length + 1 < 400) (hc : S.2 27 p = nI c) (hc2 : c < 200) (h33 : S.1 33 = nI pk) (hpk : pk < 180) (hk : c = 35 ∨ isL c) (w : BTK X n o Sx (ptS (pshS S l.length 205 (nI (a + 1)) 0) pk 1 (-1) 1 (nI p)) p 2) : BPK X n o Sx S p a := by
  obtain ⟨r, T, w1, w2, w3, w4⟩ := w
  refine ⟨r, T, ?_, w2, w3, w4⟩
  rw [pts_2 (by omega), psh_2 (by omega), hc] at w1
  have nv : ¬ isV c := fun q => by have := q.1; rcases hk with e | e; omega; have := e.2; omega
  have g62 : JJ 2 m_M_beginPart (some (.int r)) T 62 [(1, .int (nI c)), (2, .int (nI p)), (3, .int (nI a))] (pshS S l.length 205 (nI (a + 1)) 0) := b_M_beginPart_62 ⟨nI pk, _, MC_part (by rw [psh_1 (by decide)]; exact h33) hpk, r, T, w1, rfl, rfl, nb w2⟩
  rw [hc]
  refine c_M_beginPart (b_M_beginPart_0 ⟨pshS S l.length 205 (nI (a + 1)) 0, by rw [nI_1]; exact MC_push h (by omega), 0, SC_V (by omega) (fun q => absurd q nv) (fun _ => rfl), fun _ => ⟨fun _ => g62, fun q35 => ⟨1, SC_L (by omega) (fun _ => rfl) (fun q => ?_), fun q => absurd q (by decide), fun _ => g62⟩⟩, fun q => absurd rfl q⟩)
  rcases hk with e | e
  · exact absurd (by rw [e]; rfl) q35
  · exact absurd e q
theorem bp_var (h : PS S l n1 rf) (hl : l.length + 3 < 400) (hc : S.2 27 p = nI c) (hc2 : c < 200) (h33 : S.1 33 = nI pk) (hpk : pk < 180) (hv : isV c) (w : RD X n o Sx (p + 1) (pshS (pshS (ptS (pshS S l.length 205 (nI (a + 1)) 0) pk 0 (nI (c - 97)) 1 (nI p)) (l.length + 1) 200 2 0) (l.length + 2) 58 0 0)) : BPK X n o Sx S p a := by
  refine ⟨1, _, ?_, Or.inr rfl, fun q => absurd q (by decide), fun _ => w⟩
  rw [hc]
  have p1 : PS (ptS (pshS S l.length 205 (nI (a + 1)) 0) pk 0 (nI (c - 97)) 1 (nI p)) ((205, nI (a + 1), 0) :: l) n1 rf := PS.pts h.push
  refine c_M_beginPart (b_M_beginPart_0 ⟨pshS S l.length 205 (nI (a + 1)) 0, by rw [nI_1]; exact MC_push h (by omega), 1, SC_V (by omega) (fun _ => rfl) (fun q => absurd hv q), fun q => absurd q (by decide), fun _ => ⟨nI pk, _, ?_, _, MC_push (l := (205, nI (a + 1), 0) :: l) p1 (by rw [List.length_cons]; omega), _, MC_push (l := (200, 2, 0) :: (205, nI (a + 1), 0) :: l) p1.push (by rw [List.length_cons, List.length_cons]; omega), rfl, rfl, rfl⟩⟩)
  rw [show nI c - 97 = nI (c - 97) from pk_sub (a := c) (b := 97) hv.1]
  exact MC_part (by rw [psh_1 (by decide)]; exact h33) hpk
theorem bp_cond (h : PS S l n1 rf) (hl : l.length + 7 < 400) (hc : S.2 27 p = nI 63) (h33 : S.1 33 = nI pk) (hpk : pk < 180) (w : RD X n o Sx (p + 1) (pshS (pshS (pshS (pshS (pshS (pshS (ptS (pshS S l.length 205 (nI (a + 1)) 0) pk 2 (-1) 1 (nI p)) (l.length + 1) 200 2 0) (l.length + 2) 61 0 0) (l.length + 3) 208 (nI pk) 0) (l.length + 4) 200 2 0) (l.length + 5) 40 0 0) (l.length + 6) 207 (nI pk) 0)) : BPK X n o Sx S p a := by
  refine ⟨1, _, ?_, Or.inr rfl, fun q => absurd q (by decide), fun _ => w⟩
  rw [hc]
  have p1 : PS (ptS (pshS S l.length 205 (nI (a + 1)) 0) pk 2 (-1) 1 (nI p)) ((205, nI (a + 1), 0) :: l) n1 rf := PS.pts h.push
  have p2 := p1.push (w := 200) (x := 2) (y := 0)
  have p3 := p2.push (w := 61) (x := 0) (y := 0)
  have p4 := p3.push (w := 208) (x := nI pk) (y := 0)
  have p5 := p4.push (w := 200) (x := 2) (y := 0)
  have p6 := p5.push (w := 40) (x := 0) (y := 0)
  refine c_M_beginPart (b_M_beginPart_0 ⟨pshS S l.length 205 (nI (a + 1)) 0, by rw [nI_1]; exact MC_push h (by omega), 0, SC_V (by omega) (fun q => absurd q.1 (by omega)) (fun _ => rfl), fun _ => ⟨fun q => absurd q (by decide), fun _ => ⟨0, SC_L (by omega) (fun q => absurd q.1 (by omega)) (fun _ => rfl), fun _ => ⟨fun _ => ⟨nI pk, _, MC_part (by rw [psh_1 (by decide)]; exact h33) hpk, _, MC_push p1 (by simp; omega), _, MC_push p2 (by simp; omega), _, MC_push p3 (by simp; omega), _, MC_push p4 (by simp; omega), _, MC_push p5 (by simp; omega), _, MC_push p6 (by simp; omega), rfl, rfl, rfl⟩, fun q => absurd rfl q⟩, fun q => absurd rfl q⟩⟩, fun q => absurd rfl q⟩)
theorem bp_no (h : PS S l n1 rf) (hl : l.length < 400) (hc : S.2 27 p = nI c) (hc2 : c < 200) (nv : ¬ isV c) (n35 : ¬ c = 35) (nl : ¬ isL c) (n63 : ¬ c = 63) (w : o = some (.int (nI p)) ∧ Sx = pshS S l.length 205 (nI (a + 1)) 0) : BPK X n o Sx S p a := by
  refine ⟨0, _, ?_, Or.inl rfl, fun _ => w, fun q => absurd rfl q⟩
  rw [hc]
  exact c_M_beginPart (b_M_beginPart_0 ⟨pshS S l.length 205 (nI (a + 1)) 0, by rw [nI_1]; exact MC_push h (by omega), 0, SC_V (by omega) (fun q => absurd q nv) (fun _ => rfl), fun _ => ⟨fun q => absurd q (nI_cc (a := 35) hc2 (by omega) n35), fun _ => ⟨0, SC_L (by omega) (fun q => absurd q nl) (fun _ => rfl), fun _ => ⟨fun q => absurd q (nI_cc (a := 63) hc2 (by omega) n63), fun _ => ⟨rfl, rfl, rfl⟩⟩, fun q => absurd rfl q⟩⟩, fun q => absurd rfl q⟩)
end CPBP
