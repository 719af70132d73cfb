/-! ===== reading: the reference's pile ===== -/
abbrev cp_I : Type := Int32 × Int32 × Int32
def STK (b : Nat → Nat → Int32) : List cp_I → Prop
  | [] => True
  | i :: r => b 49 r.length = i.1 ∧ b 50 r.length = i.2.1 ∧ b 51 r.length = i.2.2 ∧ STK b r
theorem STK.mv {b b' : Nat → Nat → Int32} : ∀ (l : List cp_I), STK b l → (∀ p, 49 ≤ p → p ≤ 51 → ∀ x, x < l.length → b' p x = b p x) → STK b' l
  | [], _, _ => trivial
  | i :: r, h, e => by
    obtain ⟨h1, h2, h3, h4⟩ := h
    exact ⟨by rw [e 49 (by omega) (by omega) _ (by simp)]; exact h1, by rw [e 50 (by omega) (by omega) _ (by simp)]; exact h2, by rw [e 51 (by omega) (by omega) _ (by simp)]; exact h3, STK.mv r h4 (fun p p1 p2 x hx => e p p1 p2 x (by simp only [List.length_cons]; omega))⟩
/-- the reference reads: its pile, its nodes -/
def PS (S : cp_S) (l : List cp_I) (n1 rf : Nat) : Prop := S.1 29 = nI l.length ∧ STK S.2 l ∧ S.1 16 = nI n1 ∧ S.1 20 = nI rf
def pshS (S : cp_S) (k : Nat) (w x y : Int32) : cp_S := (va_up S.1 29 (nI (k + 1)), va_up (va_up (va_up S.2 49 (upd (S.2 49) k w)) 50 (upd (S.2 50) k x)) 51 (upd (S.2 51) k y))
def popS (S : cp_S) (k : Nat) : cp_S := (va_up S.1 29 (nI k), S.2)
def ndS (S : cp_S) (n1 rf : Nat) (x v p : Int32) : cp_S := (va_up S.1 16 (nI (n1 + 1)), va_up (va_up (va_up (va_up (va_up S.2 39 (upd (S.2 39) n1 x)) 40 (upd (S.2 40) n1 v)) 41 (upd (S.2 41) n1 0)) 42 (upd (S.2 42) (n1 - rf) p)) 43 (upd (S.2 43) (n1 - rf) (-1)))
section CPRD
variable {S S' : cp_S} {l : List cp_I} {n1 rf : Nat} {w x y v p : Int32}
theorem psh_1 {k q : Nat} (h : q ≠ 29) : (pshS S k w x y).1 q = S.1 q := by unfold pshS; exact cp_up_ne h
theorem psh_2 {k q : Nat} (h : q < 49 ∨ 51 < q) : (pshS S k w x y).2 q = S.2 q := by
  unfold pshS
  simp only [cp_up_ne (show q ≠ 51 by omega), cp_up_ne (show q ≠ 50 by omega), cp_up_ne (show q ≠ 49 by omega)]
theorem psh_lo {k q j : Nat} (h : j ≠ k) (h1 : 49 ≤ q) (h2 : q ≤ 51) : (pshS S k w x y).2 q j = S.2 q j := by
  unfold pshS
  have hq : q = 49 ∨ q = 50 ∨ q = 51 := by omega
  rcases hq with rfl | rfl | rfl <;> simp [va_up, pk_un h]
theorem psh_at {k : Nat} : (pshS S k w x y).2 49 k = w ∧ (pshS S k w x y).2 50 k = x ∧ (pshS S k w x y).2 51 k = y := by
  unfold pshS
  refine ⟨?_, ?_, ?_⟩ <;> simp [va_up, pk_us]
theorem MC_push (h : PS S l n1 rf) (hl : l.length < 400) : MC 0 m_M_push [.int w, .int x, .int y] S none (pshS S l.length w x y) := by
  refine c_M_push (b_M_push_0 ?_)
  unfold wp_M_push_0
  rw [h.1, nI_clamp (show l.length < 2 ^ 31 by omega), nI_1]
  exact ⟨vp_in_nI (show l.length < 400 by omega) (by decide), vp_in_nI (show l.length < 400 by omega) (by decide), vp_in_nI (show l.length < 400 by omega) (by decide), rfl, rfl⟩
theorem PS.push (h : PS S l n1 rf) : PS (pshS S l.length w x y) ((w, x, y) :: l) n1 rf := by
  obtain ⟨h1, h2, h3, h4⟩ := h
  refine ⟨?_, ⟨psh_at.1, psh_at.2.1, psh_at.2.2, STK.mv l h2 (fun p p1 p2 x hx => psh_lo (by omega) p1 p2)⟩, by rw [psh_1 (by decide)]; exact h3, by rw [psh_1 (by decide)]; exact h4⟩
  unfold pshS
  show va_up S.1 29 (nI (l.length + 1)) 29 = _
  rw [va_up_at, List.length_cons]
theorem pop_29 {k : Nat} : (popS S k).1 29 = nI k := by
  show va_up S.1 29 (nI k) 29 = nI k
  rw [va_up_at]
theorem PS.pop {i : cp_I} (h : PS S (i :: l) n1 rf) : PS (popS S l.length) l n1 rf := by
  obtain ⟨h1, h2, h3, h4⟩ := h
  refine ⟨pop_29, h2.2.2.2, ?_, ?_⟩
  · show va_up S.1 29 (nI l.length) 16 = nI n1
    rw [cp_up_ne (by decide)]; exact h3
  · show va_up S.1 29 (nI l.length) 20 = nI rf
    rw [cp_up_ne (by decide)]; exact h4
theorem pop_1 {k q : Nat} (h : q ≠ 29) : (popS S k).1 q = S.1 q := by unfold popS; exact cp_up_ne h
theorem pop_2 {k : Nat} : (popS S k).2 = S.2 := rfl
theorem nds_1 {q : Nat} (h : q ≠ 16) : (ndS S n1 rf x v p).1 q = S.1 q := by unfold ndS; exact cp_up_ne h
theorem nds_16 : (ndS S n1 rf x v p).1 16 = nI (n1 + 1) := by
  show va_up S.1 16 (nI (n1 + 1)) 16 = nI (n1 + 1)
  rw [va_up_at]
theorem nds_2 {q : Nat} (h : q < 39 ∨ 43 < q) : (ndS S n1 rf x v p).2 q = S.2 q := by
  unfold ndS
  simp only [cp_up_ne (show q ≠ 43 by omega), cp_up_ne (show q ≠ 42 by omega), cp_up_ne (show q ≠ 41 by omega), cp_up_ne (show q ≠ 40 by omega), cp_up_ne (show q ≠ 39 by omega)]
theorem nds_lo {q j : Nat} (h : j ≠ n1) (h1 : 39 ≤ q) (h2 : q ≤ 41) : (ndS S n1 rf x v p).2 q j = S.2 q j := by
  unfold ndS
  have hq : q = 39 ∨ q = 40 ∨ q = 41 := by omega
  rcases hq with rfl | rfl | rfl <;> simp [va_up, pk_un h]
theorem nds_42 {j : Nat} : (ndS S n1 rf x v p).2 42 j = if j = n1 - rf then p else S.2 42 j := by
  unfold ndS
  by_cases h : j = n1 - rf
  · rw [if_pos h, h]; simp [va_up, pk_us]
  · rw [if_neg h]; simp [va_up, pk_un h]
theorem nds_at : (ndS S n1 rf x v p).2 39 n1 = x ∧ (ndS S n1 rf x v p).2 40 n1 = v ∧ (ndS S n1 rf x v p).2 41 n1 = 0 := by
  unfold ndS
  refine ⟨?_, ?_, ?_⟩ <;> simp [va_up, pk_us]
theorem MC_node (h : PS S l n1 rf) (hn : n1 < 2720) (hr : rf ≤ n1) (hr2 : n1 - rf < 82) : MC 0 m_M_node [.int x, .int v, .int p] S (some (.int (nI n1))) (ndS S n1 rf x v p) := by
  obtain ⟨h1, h2, h3, h4⟩ := h
  refine c_M_node (b_M_node_0 ?_)
  unfold wp_M_node_0
  rw [h3, h4, nI_clamp (show n1 < 2 ^ 31 by omega), pk_sub hr, nI_clamp (show n1 - rf < 2 ^ 31 by omega)]
  refine ⟨vp_in_nI (show n1 < 2720 by omega) (by decide), vp_in_nI (show n1 < 2720 by omega) (by decide), vp_in_nI (show n1 < 2720 by omega) (by decide), fun hn => absurd hn (nI_nlt (by omega) (by omega)), fun _ => ⟨fun hn => absurd hn (nI_ge (a := n1 - rf) (b := 82) (by omega) (by omega)), fun _ => ⟨vp_in_nI (show n1 - rf < 82 by omega) (by decide), vp_in_nI (show n1 - rf < 82 by omega) (by decide), b_M_node_85 ?_⟩⟩⟩
  unfold wp_M_node_85
  simp only [h3, nI_1]
  refine ⟨?_, rfl⟩
  rw [show nI (n1 + 1) - 1 = nI n1 from nI_pred _]
theorem PS.node (h : PS S l n1 rf) : PS (ndS S n1 rf x v p) l (n1 + 1) rf := by
  obtain ⟨h1, h2, h3, h4⟩ := h
  exact ⟨by rw [nds_1 (by decide)]; exact h1, STK.mv l h2 (fun q q1 q2 x _ => by rw [nds_2 (by omega)]), nds_16, by rw [nds_1 (by decide)]; exact h4⟩
/-- taking a character: the top of the pile -/
abbrev JT (o : Option Value) (S' : cp_S) (c p : Int32) (S : cp_S) : Prop := JJ 4 m_M_take o S' 0 [(1, .int c), (2, .int p)] S
def SKP (c : Int32) (i : cp_I) : Prop := (i.1 = 201 ∧ (¬ c = 40 ∨ i.2.2 / 2 = 8)) ∨ (i.1 = 211 ∧ (¬ c = 40 ∨ i.2.2 = 12)) ∨ (i.1 = 215 ∧ ¬ c = 40)
theorem tk_0 {o : Option Value} {c : Int32} {i : cp_I} (h : PS S (i :: l) n1 rf) (hl : l.length < 400) (w1 : SKP c i → JT o S' c p (popS S l.length)) (w2 : ¬ SKP c i → JJ 4 m_M_take o S' 108 [(1, .int c), (2, .int p), (3, .int i.1), (4, .int i.2.1), (5, .int i.2.2)] (popS S l.length)) : JT o S' c p S := by
  obtain ⟨h1, ⟨s1, s2, s3, s4⟩, h3, h4⟩ := h
  rw [List.length_cons] at h1
  have vl : vp_in (nI l.length) (cp_ml 49) := vp_in_nI (show l.length < 400 by omega) (by decide)
  have g104 : SKP c i → JJ 4 m_M_take o S' 104 [(1, .int c), (2, .int p), (3, .int i.1), (4, .int i.2.1), (5, .int i.2.2)] (popS S l.length) := fun h => b_M_take_104 ⟨fun _ => w1 h, fun h => absurd h (by decide)⟩
  refine b_M_take_0 ?_
  unfold wp_M_take_0
  rw [h1, show nI (l.length + 1) - 1 = nI l.length from nI_pred _, nI_clamp (show l.length < 2 ^ 31 by omega), s1, s2, s3]
  refine ⟨fun hn => absurd hn (nI_nle (by omega) (by omega)), fun _ => ⟨vl, vl, vl, fun h201 => b_M_take_71 ⟨fun h211 => b_M_take_91 ⟨fun h215 => w2 ?_, fun h215 => ⟨fun h40 => w2 ?_, fun h40 => g104 (Or.inr (Or.inr ⟨h215, h40⟩))⟩⟩, fun h211 => ⟨fun h40 => g104 (Or.inr (Or.inl ⟨h211, Or.inl h40⟩)), fun h40 => ⟨fun h12 => g104 (Or.inr (Or.inl ⟨h211, Or.inr h12⟩)), fun h12 => b_M_take_91 ⟨fun h215 => w2 ?_, fun h215 => absurd (h211.symm.trans h215) (by decide)⟩⟩⟩⟩, fun h201 => ⟨fun h40 => g104 (Or.inl ⟨h201, Or.inl h40⟩), fun h40 => ⟨fun h8 => g104 (Or.inl ⟨h201, Or.inr h8⟩), fun h8 => b_M_take_71 ⟨fun h211 => b_M_take_91 ⟨fun h215 => w2 ?_, fun h215 => absurd (h201.symm.trans h215) (by decide)⟩, fun h211 => absurd (h201.symm.trans h211) (by decide)⟩⟩⟩⟩⟩
  · rintro (⟨a, -⟩ | ⟨a, -⟩ | ⟨a, -⟩)
    · exact h201 a
    · exact h211 a
    · exact h215 a
  · rintro (⟨a, -⟩ | ⟨a, -⟩ | ⟨-, a⟩)
    · exact h201 a
    · exact h211 a
    · exact a h40
  · rintro (⟨a, -⟩ | ⟨-, a⟩ | ⟨a, -⟩)
    · exact h201 a
    · rcases a with a | a
      · exact a h40
      · exact h12 a
    · exact h215 a
  · rintro (⟨-, a⟩ | ⟨a, -⟩ | ⟨a, -⟩)
    · rcases a with a | a
      · exact a h40
      · exact h8 a
    · exact h211 a
    · exact h215 a
/-- a character that must stand there -/
theorem tk_char {o : Option Value} {c : Int32} {i : cp_I} (h : PS S (i :: l) n1 rf) (hl : l.length < 400) (hi : ¬ 200 ≤ i.1) (w : (c = i.1 → o = some (.int 1) ∧ S' = popS S l.length) ∧ (¬ c = i.1 → o = some (.int 0) ∧ S' = popS S l.length)) : JT o S' c p S := by
  refine tk_0 h hl (fun hs => ?_) (fun _ => b_M_take_108 ⟨fun h => absurd rfl h, fun _ => ⟨fun h => absurd h hi, fun _ => ⟨fun hc => ⟨(w.2 hc).1, (w.2 hc).2, rfl⟩, fun hc => ⟨(w.1 hc).1, (w.1 hc).2, rfl⟩⟩⟩⟩)
  exfalso
  rcases hs with ⟨a, -⟩ | ⟨a, -⟩ | ⟨a, -⟩
  · rw [a] at hi; exact hi (by decide)
  · rw [a] at hi; exact hi (by decide)
  · rw [a] at hi; exact hi (by decide)
theorem tk_decl {c r : Int32} {i : cp_I} (h : PS S (i :: l) n1 rf) (hl : l.length < 400) (hs : ¬ SKP c i) (h1 : 200 ≤ i.1) (h2 : ¬ 209 ≤ i.1) (hr : r = 0 ∨ r = 1) (w : MC 3 m_M_takeDeclared [.int i.1, .int i.2.1, .int i.2.2, .int c, .int p] (popS S l.length) (some (.int r)) S') : JT (some (.int r)) S' c p S :=
  tk_0 h hl (fun h => absurd h hs) (fun _ => b_M_take_108 ⟨fun h => absurd rfl h, fun _ => ⟨fun _ => ⟨fun h => absurd h h2, fun _ => ⟨r, S', w, rfl, rfl, by rcases hr with rfl | rfl <;> rfl⟩⟩, fun h => absurd h1 h⟩⟩)
theorem tk_code {c r : Int32} {i : cp_I} (h : PS S (i :: l) n1 rf) (hl : l.length < 400) (hs : ¬ SKP c i) (h1 : 200 ≤ i.1) (h2 : 209 ≤ i.1) (hr : r = 0 ∨ r = 1) (w : MC 2 m_M_takeCoded [.int i.1, .int i.2.1, .int i.2.2, .int c, .int p] (popS S l.length) (some (.int r)) S') : JT (some (.int r)) S' c p S :=
  tk_0 h hl (fun h => absurd h hs) (fun _ => b_M_take_108 ⟨fun h => absurd rfl h, fun _ => ⟨fun _ => ⟨fun _ => ⟨r, S', w, rfl, rfl, by rcases hr with rfl | rfl <;> rfl⟩, fun h => absurd h2 h⟩, fun h => absurd h1 h⟩⟩)
theorem tk_skip {o : Option Value} {c : Int32} {i : cp_I} (h : PS S (i :: l) n1 rf) (hl : l.length < 400) (hs : SKP c i) (w : JT o S' c p (popS S l.length)) : JT o S' c p S := tk_0 h hl (fun _ => w) (fun h => absurd hs h)
end CPRD
/-- the reference's loop over the text -/
abbrev RD (X : Int32 × Int32 × Int32) (n : Nat) (o : Option Value) (Sx : cp_S) (p : Nat) (S : cp_S) : Prop := JJ 5 m_M_read o Sx 42 [(1, .int X.1), (2, .int X.2.1), (3, .int X.2.2), (4, .int (nI n)), (5, .int (nI p))] S
section CPRE
variable {X : Int32 × Int32 × Int32} {n p : Nat} {o : Option Value} {Sx S T : cp_S} {l : List cp_I} {n1 rf : Nat}
theorem rd_step {c r : Int32} (hp : p < n) (hn : n ≤ 80) (hc : S.2 27 p = c) (hm : JT (some (.int r)) T c (nI p) S) (w1 : ¬ r = 0 → RD X n o Sx (p + 1) T) (w0 : r = 0 → o = some (.int (nI p)) ∧ Sx = T) : RD X n o Sx p S := by
  refine b_M_read_42 ?_
  unfold wp_M_read_42
  rw [nI_clamp (show p < 2 ^ 31 by omega), hc, nI_1]
  exact ⟨fun h => absurd h (nI_ge (by omega) (by omega)), fun _ => ⟨vp_in_nI (show p < 80 by omega) (by decide), r, T, c_M_take hm, w1, w0⟩⟩
def may (i : cp_I) : Prop := i.1 = 201 ∨ i.1 = 211 ∨ i.1 = 215 ∨ (i.1 = 218 ∧ ¬ i.2.1 ≤ 0)
theorem STK.at {b : Nat → Nat → Int32} : ∀ (l : List cp_I), STK b l → ∀ x, x < l.length → ∃ i ∈ l, b 49 x = i.1 ∧ b 50 x = i.2.1 ∧ b 51 x = i.2.2
  | [], _, x, hx => by simp at hx
  | i :: r, h, x, hx => by
    obtain ⟨h1, h2, h3, h4⟩ := h
    by_cases e : x = r.length
    · subst e; exact ⟨i, List.mem_cons_self, h1, h2, h3⟩
    · obtain ⟨j, j1, j2⟩ := STK.at r h4 x (by simp only [List.length_cons] at hx; omega)
      exact ⟨j, List.mem_cons_of_mem _ j1, j2⟩
theorem STK.of {b : Nat → Nat → Int32} : ∀ (l : List cp_I), STK b l → ∀ i ∈ l, ∃ x, x < l.length ∧ b 49 x = i.1 ∧ b 50 x = i.2.1 ∧ b 51 x = i.2.2
  | [], _, i, hi => by cases hi
  | j :: r, h, i, hi => by
    obtain ⟨h1, h2, h3, h4⟩ := h
    rcases List.mem_cons.mp hi with rfl | hi
    · exact ⟨r.length, by simp, h1, h2, h3⟩
    · obtain ⟨x, x1, x2⟩ := STK.of r h4 i hi
      exact ⟨x, by simp only [List.length_cons]; omega, x2⟩
/-- at the end of the text -/
def MAY (S : cp_S) (len x : Nat) : Prop := ∀ y, x ≤ y → y < len → may (S.2 49 y, S.2 50 y, S.2 51 y)
theorem rd_loop {res : Int32} (h : PS S l n1 rf) (hl : l.length ≤ 400) : ∀ (r x : Nat) (d : Bool), x + r = l.length → (d = true ∧ MAY S l.length x → res = -1) → (¬ (d = true ∧ MAY S l.length x) → res = nI n) → JJ 5 m_M_read (some (.int res)) S 80 [(1, .int X.1), (2, .int X.2.1), (3, .int X.2.2), (4, .int (nI n)), (5, .int (if d then 1 else 0)), (6, .int (nI x))] S := by
  intro r
  induction r with
  | zero =>
    intro x d hx hy hn
    refine b_M_read_80 ?_
    unfold wp_M_read_80
    rw [h.1]
    refine ⟨fun _ => ⟨fun hd => ⟨?_, rfl⟩, fun hd => ⟨?_, rfl⟩⟩, fun hn => absurd (nI_le (by omega) (by omega)) hn⟩
    · cases d with
      | false => rw [hn (fun q => by cases q.1)]
      | true => exact absurd hd (by decide)
    · cases d with
      | true => rw [hy ⟨rfl, fun y y1 y2 => by omega⟩]
      | false => exact absurd rfl hd
  | succ r ih =>
    intro x d hx hy hn
    have vx : vp_in (nI x) (cp_ml 49) := vp_in_nI (show x < 400 by omega) (by decide)
    have next : ∀ (d' : Bool), (d' = true ↔ d = true ∧ may (S.2 49 x, S.2 50 x, S.2 51 x)) → JJ 5 m_M_read (some (.int res)) S 80 [(1, .int X.1), (2, .int X.2.1), (3, .int X.2.2), (4, .int (nI n)), (5, .int (if d' then 1 else 0)), (6, .int (nI x + 1))] S := fun d' hd' => by
      have e : (d = true ∧ MAY S l.length x) ↔ (d' = true ∧ MAY S l.length (x + 1)) := by
        constructor
        · rintro ⟨a, b⟩
          exact ⟨hd'.mpr ⟨a, b x (Nat.le_refl _) (by omega)⟩, fun y y1 y2 => b y (by omega) y2⟩
        · rintro ⟨a, b⟩
          obtain ⟨a1, a2⟩ := hd'.mp a
          refine ⟨a1, fun y y1 y2 => ?_⟩
          by_cases hy : y = x
          · rw [hy]; exact a2
          · exact b y (by omega) y2
      rw [nI_1]
      exact ih (x + 1) d' (by omega) (fun q => hy (e.mpr q)) (fun q => hn (fun w => q (e.mp w)))
    have g172 : ∀ z : Int32, (¬ d = true ∨ ¬ may (S.2 49 x, S.2 50 x, S.2 51 x)) → ∀ x5 : Int32, JJ 5 m_M_read (some (.int res)) S 172 [(1, .int X.1), (2, .int X.2.1), (3, .int X.2.2), (4, .int (nI n)), (5, .int x5), (6, .int (nI x)), (7, .int z)] S := fun z hz x5 => b_M_read_172 (next false ⟨fun q => (by cases q), fun q => by rcases hz with a | a; exact absurd q.1 a; exact absurd q.2 a⟩)
    have g151 : may (S.2 49 x, S.2 50 x, S.2 51 x) → JJ 5 m_M_read (some (.int res)) S 151 [(1, .int X.1), (2, .int X.2.1), (3, .int X.2.2), (4, .int (nI n)), (5, .int (if d then 1 else 0)), (6, .int (nI x))] S := fun hm => b_M_read_151 ⟨fun h0 => g172 _ (Or.inl (by cases d with | true => exact absurd h0 (by decide) | false => decide)) _, fun h0 => ⟨fun h => absurd h (by decide), fun _ => next true ⟨fun _ => ⟨by cases d with | true => rfl | false => exact absurd rfl h0, hm⟩, fun _ => rfl⟩⟩⟩
    have g155 : ¬ may (S.2 49 x, S.2 50 x, S.2 51 x) → JJ 5 m_M_read (some (.int res)) S 155 [(1, .int X.1), (2, .int X.2.1), (3, .int X.2.2), (4, .int (nI n)), (5, .int (if d then 1 else 0)), (6, .int (nI x))] S := fun hm => b_M_read_155 ⟨fun h0 => g172 _ (Or.inr hm) _, fun h0 => ⟨fun _ => g172 _ (Or.inr hm) _, fun h => absurd rfl h⟩⟩
    refine b_M_read_80 ?_
    unfold wp_M_read_80
    rw [h.1, nI_clamp (show x < 2 ^ 31 by omega)]
    refine ⟨fun hn => absurd hn (nI_ge (by omega) (by omega)), fun _ => ⟨vx, fun h1 => g151 (Or.inl h1), fun h1 => ⟨vx, fun h2 => g151 (Or.inr (Or.inl h2)), fun h2 => ⟨vx, fun h3 => g151 (Or.inr (Or.inr (Or.inl h3))), fun h3 => ⟨vx, fun h4 => g155 ?_, fun h4 => ⟨vx, fun h5 => g155 ?_, fun h5 => g151 (Or.inr (Or.inr (Or.inr ⟨h4, h5⟩)))⟩⟩⟩⟩⟩⟩
    · rintro (a | a | a | a)
      · exact h1 a
      · exact h2 a
      · exact h3 a
      · exact h4 a.1
    · rintro (a | a | a | a)
      · exact h1 a
      · exact h2 a
      · exact h3 a
      · exact a.2 h5
theorem rd_end_ok (h : PS S l n1 rf) (hl : l.length ≤ 400) (hn : n ≤ 80) (hm : ∀ i ∈ l, may i) : RD X n (some (.int (-1))) S n S := by
  refine b_M_read_42 ⟨fun _ => ?_, fun hn => absurd (nI_le (Nat.le_refl _) (by omega)) hn⟩
  refine rd_loop (X := X) (n := n) h hl l.length 0 true (by omega) (fun _ => rfl) (fun q => absurd ⟨rfl, fun y _ y2 => ?_⟩ q)
  obtain ⟨i, i1, i2, i3, i4⟩ := STK.at l h.2.1 y y2
  rw [i2, i3, i4]; exact hm i i1
theorem rd_end_no (h : PS S l n1 rf) (hl : l.length ≤ 400) (hn : n ≤ 80) {i : cp_I} (hi : i ∈ l) (hm : ¬ may i) : RD X n (some (.int (nI n))) S n S := by
  refine b_M_read_42 ⟨fun _ => ?_, fun hn => absurd (nI_le (Nat.le_refl _) (by omega)) hn⟩
  refine rd_loop (X := X) (n := n) h hl l.length 0 true (by omega) (fun q => ?_) (fun _ => rfl)
  obtain ⟨x, x1, x2, x3, x4⟩ := STK.of l h.2.1 i hi
  have := q.2 x (Nat.zero_le _) x1
  rw [x2, x3, x4] at this
  exact absurd this hm
end CPRE
