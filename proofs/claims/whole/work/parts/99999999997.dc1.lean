/-! ===== the dictionary: a stack of entries ===== -/
section CPPF
variable {K K' : cp_K} {b b' : Nat → Nat → Int32} {ar ar' : Nat → Nat} {rf P k : Nat}
theorem CHZ_fun {R R' : Nat → Nat → Nat → Prop} (hR : ∀ q i j, R q i j → ∃ k, SH b k i j) (hR' : ∀ q i j, R' q i j → ∃ k, SH b k i j) : ∀ (m q z i j j' : Nat), CHZ R K m q z i j → CHZ R' K m q z i j' → j = j'
  | 0, q, z, i, j, j', h, g => by
    obtain ⟨k, h1⟩ := hR _ _ _ h.2.2
    obtain ⟨k', g1⟩ := hR' _ _ _ g.2.2
    exact SH_fun _ _ _ _ _ h1 g1
  | m + 1, q, z, i, j, j', h, g => by
    obtain ⟨-, -, i1, h1, h2⟩ := h
    obtain ⟨-, -, i2, g1, g2⟩ := g
    obtain ⟨k, h3⟩ := hR _ _ _ h1
    obtain ⟨k', g3⟩ := hR' _ _ _ g1
    have := SH_fun _ _ _ _ _ h3 g3
    subst this
    exact CHZ_fun hR hR' m _ z _ j j' h2 g2
/-- what a letter's row of numbers must say of its count -/
def AOK (b : Nat → Nat → Int32) (ar : Nat → Nat) : Prop := ∀ c, c < 26 → b 30 c = 1 → b 31 c = nI (ar c) ∧ ar c ≤ 6
theorem PTS.ft {pl : Nat → Nat → Prop} {k' z j : Nat} {R R' : (Nat → Prop) → Nat → Prop} (hK : KFX K K') (hb : OLD rf b b') (hp : OLP P b b') (hl : ∀ c, c < 26 → ¬ b 30 c = 0 → b' 30 c = b 30 c ∧ b' 31 c = b 31 c) (ha : ∀ c, c < 26 → ar c ≤ 6 → ar' c = ar c) (hR : ∀ sc d, R sc d → R' sc d) (hj : j ≤ rf) (h27 : rf ≤ 2720) : ∀ (rem q pt : Nat) (sc : Nat → Prop) (m d i : Nat), RPT K b pl k' z rem q pt i j → pt + rem ≤ P → PTS K b ar k z R rem q pt sc m d → PTS K' b' ar' k z R' rem q pt sc m d
  | 0, q, pt, sc, m, d, i, _, _, h => ⟨h.1, h.2.1, hR _ _ h.2.2⟩
  | rem + 1, q, pt, sc, m, d, i, g, hP, h => by
    have trs : ∀ q i j, TR K b pl k' q i j → ∃ k, SH b k i j := fun q i j h => ⟨_, TR.sh _ _ _ _ h⟩
    have dts : ∀ sc, ∀ q i j, DTM K b ar k sc q i j → ∃ k, SH b k i j := fun sc q i j h => ⟨_, TR.sh _ _ _ _ h.1⟩
    obtain ⟨h1, d1, d2, h2, h3⟩ := h
    obtain ⟨-, g2, g3, g4, i', g5, g6⟩ := g
    have le := RPT.le _ _ _ _ _ g5
    have e44 := hp 44 (by omega) (by omega) pt (by omega)
    have e45 := hp 45 (by omega) (by omega) pt (by omega)
    have e46 := hp 46 (by omega) (by omega) pt (by omega)
    have e47 := hp 47 (by omega) (by omega) pt (by omega)
    refine ⟨h1, d1, d2, h2, ?_⟩
    rw [hK.r g2]
    rcases h3 with ⟨⟨-, c2, c3, c4, l, m', i2, j2, c5, c6, c7, c8, c9, c10, c11, c12, c13, c14, c15⟩, h4⟩ | ⟨m', nm, h3, ⟨-, c2, c3, ⟨i2, j2, c4, c5, c6, c7⟩, c8⟩, h5⟩
    · refine Or.inl ⟨⟨hK.n g2, by rw [hK.i g2]; exact c2, by rw [e44]; exact c3, c4, l, m', i2, j2, c5, c6, by rw [hK.i g2]; exact c7, by rw [e45]; exact c8, by rw [e46]; exact c9, by rw [e47]; exact c10, (hl l c5 (by rw [c11]; decide)).1.trans c11, (hl l c5 (by rw [c11]; decide)).2.trans c12, ?_, c14, c15⟩, PTS.ft hK hb hp hl ha hR hj h27 rem _ _ _ _ _ i' g5 (by omega) h4⟩
      rcases g6 with ⟨-, -, -, -, ⟨l2, m2, -, b2, -, -, b5, -, b7⟩, -⟩ | ⟨-, -, -, -, b5⟩
      · have ej := CHZ.le (fun q i j h => SH_lt _ _ _ (TR.sh _ _ _ _ h)) _ _ _ _ _ b7
        have ej2 := CHZ.le (fun q i j (h : DTM K b ar k sc q i j) => h.lt) _ _ _ _ _ c13
        have e1 : m' = m2 := (nI_eq (by omega) (by omega)).mp (c10.symm.trans b5)
        have e2 : i2 = i := (nI_eq (by omega) (by omega)).mp (c9.symm.trans g4)
        subst e1
        subst e2
        have e3 := CHZ_fun trs (dts sc) _ _ _ _ _ _ b7 c13
        subst e3
        rw [hK.r g2]
        exact CHZ_ft hK (fun q i j h => h.lt) _ _ _ _ _ (by omega) (fun q i j hj h => h.ft hK hb ha hj) c13
      · rcases b5 with ⟨x, -, w, -⟩ | ⟨w, -⟩
        · rw [c3] at w; exact absurd w (by decide)
        · rw [c3] at w; exact absurd w (by decide)
    · refine Or.inr ⟨m', nm, h3, ⟨hK.n g2, by rw [hK.i g2]; exact c2, c3, ⟨i2, j2, by rw [e46]; exact c4, ?_, c6, c7⟩, by rw [hK.i g2, e44, e45]; exact c8⟩, PTS.ft hK hb hp hl ha hR hj h27 rem _ _ _ _ _ i' g5 (by omega) h5⟩
      rw [hK.r g2]
      rcases g6 with ⟨-, b2, -⟩ | ⟨-, -, b3, -, -⟩
      · rcases c8 with ⟨x, -, -, w, -⟩ | ⟨-, w, -⟩
        · rw [b2] at w; exact absurd w (by decide)
        · rw [b2] at w; exact absurd w (by decide)
      · have ej := SH_lt _ _ _ (TR.sh _ _ _ _ b3)
        have ej2 := c5.lt
        have e2 : i2 = i := (nI_eq (by omega) (by omega)).mp (c4.symm.trans g4)
        subst e2
        have e3 := SH_fun _ _ _ _ _ (TR.sh _ _ _ _ b3) (TR.sh _ _ _ _ c5.1)
        subst e3
        exact c5.ft hK hb ha (by omega)
theorem RSX.ft {pl : Nat → Nat → Prop} {k' z j j2 c d : Nat} {res : Int32} {sc : Nat → Prop} (hK : KFX K K') (hb : OLD rf b b') (ha : ∀ c, c < 26 → ar c ≤ 6 → ar' c = ar c) (hj : j2 ≤ rf) (h27 : rf ≤ 2720) (g : RRS K b pl k' z j j2 res) (e35 : b' 35 c = res) (h : RSX K b ar k res z sc d) : RES K' b' ar' k c z sc d := by
  obtain ⟨h1, h2, h3⟩ := h
  obtain ⟨-, -, -, -, -, g6⟩ := g
  refine ⟨hK.n h1, by rw [hK.r h1]; exact hK.n h2, ?_⟩
  rw [hK.r h1, hK.i h2, e35]
  rcases h3 with h3 | ⟨i2, j3, a1, a2, a3, a4⟩
  · exact Or.inl h3
  · refine Or.inr ⟨i2, j3, a1, ?_, a3, a4⟩
    have l2 := a2.lt
    rcases g6 with ⟨-, w, -⟩ | ⟨w, b3⟩
    · rw [a1] at w
      exact absurd w (by
        have := nI_pos (n := i2) (by omega)
        intro e
        rw [e] at this
        exact this (by decide))
    · have l1 := SH_lt _ _ _ (TR.sh _ _ _ _ b3)
      rw [a1] at w
      have e2 : i2 = j := (nI_eq (by omega) (by omega)).mp w
      subst e2
      have e3 := SH_fun _ _ _ _ _ (TR.sh _ _ _ _ b3) (TR.sh _ _ _ _ a2.1)
      subst e3
      exact a2.ft hK hb ha hj
end CPPF
/-- only the letters of L are declared -/
def mkd (b : Nat → Nat → Int32) (L : List Nat) : Nat → Nat → Int32 := fun p x => if p = 30 ∧ ¬ x ∈ L then 0 else b p x
theorem mkd_ne {b : Nat → Nat → Int32} {L : List Nat} {p : Nat} (h : p ≠ 30) : mkd b L p = b p := by
  funext x
  unfold mkd
  rw [if_neg (fun q => h q.1)]
theorem mkd_in {b : Nat → Nat → Int32} {L : List Nat} {x : Nat} (h : x ∈ L) : mkd b L 30 x = b 30 x := by
  unfold mkd
  rw [if_neg (fun q => q.2 h)]
theorem mkd_mem {b : Nat → Nat → Int32} {L : List Nat} {x : Nat} (h : ¬ mkd b L 30 x = 0) : x ∈ L := by
  by_cases q : x ∈ L
  · exact q
  · refine absurd ?_ h
    unfold mkd
    rw [if_pos ⟨rfl, q⟩]
/-- the entry l is right now and stays so while the letters of b stay -/
def EVL (K : cp_K) (b : Nat → Nat → Int32) (rf P l : Nat) : Prop := ∀ (K' : cp_K) (b' : Nat → Nat → Int32) (ar : Nat → Nat), KFX K K' → OLD rf b b' → OLP P b b' → OLL K b K' b' → AOK b' ar → (b 30 l = 1 → CST K' b' ar l) ∧ (b 30 l = 2 → PROG K' b' ar l ∧ ∃ m, m ≤ 4 ∧ b' 31 l = nI m ∧ K'.2.1 (K'.2.2.1 4 l) 2 = nI m)
def DSK (K : cp_K) (b : Nat → Nat → Int32) : List Nat → Nat → Nat → Prop
  | [], rf, P => rf = 0 ∧ P = 0
  | l :: Ls, rf, P => l < 26 ∧ ¬ l ∈ Ls ∧ ((b 30 l = 1 ∨ b 30 l = 2) ∧ ∃ m, m ≤ 6 ∧ b 31 l = nI m) ∧ ∃ rf0 P0, b 32 l = nI rf0 ∧ b 33 l = nI P0 ∧ rf0 ≤ rf ∧ rf ≤ rf0 + 100 ∧ P0 ≤ P ∧ P ≤ P0 + 6 ∧ EVL K (mkd b (l :: Ls)) rf P l ∧ DSK K b Ls rf0 P0
theorem DSK.bd {K : cp_K} {b : Nat → Nat → Int32} : ∀ (Ls : List Nat) (rf P : Nat), DSK K b Ls rf P → rf ≤ 100 * Ls.length ∧ P ≤ 6 * Ls.length
  | [], rf, P, h => by have := h.1; have := h.2; rw [List.length_nil]; omega
  | l :: Ls, rf, P, h => by
    obtain ⟨-, -, -, rf0, P0, -, -, h6, h7, h8, h9, -, h11⟩ := h
    have := DSK.bd Ls rf0 P0 h11
    rw [List.length_cons]
    omega
theorem DSK.ne {K : cp_K} {b : Nat → Nat → Int32} : ∀ (Ls : List Nat) (rf P : Nat), DSK K b Ls rf P → ∀ c ∈ Ls, c < 26 ∧ (b 30 c = 1 ∨ b 30 c = 2) ∧ ∃ m, m ≤ 6 ∧ b 31 c = nI m
  | [], _, _, _, c, hc => by cases hc
  | l :: Ls, rf, P, h, c, hc => by
    obtain ⟨h1, -, h3, rf0, P0, -, -, -, -, -, -, -, h11⟩ := h
    rcases List.mem_cons.mp hc with e | e
    · subst e; exact ⟨h1, h3⟩
    · exact DSK.ne Ls rf0 P0 h11 c e
/-- no two letters are the same: at most 26 -/
theorem nodup_26 : ∀ (n : Nat) (L : List Nat), L.Nodup → (∀ x ∈ L, x < n) → L.length ≤ n := by
  intro n
  induction n with
  | zero =>
    intro L _ h
    cases L with
    | nil => exact Nat.le_refl _
    | cons x L => exact absurd (h x List.mem_cons_self) (by omega)
  | succ n ih =>
    intro L hd h
    have h1 := ih (L.erase n) (hd.erase _) (fun x hx => by
      have h2 := h x (List.mem_of_mem_erase hx)
      have h3 : x ≠ n := ((List.Nodup.mem_erase_iff hd).mp hx).1
      omega)
    by_cases hm : n ∈ L
    · have h2 := List.length_erase_of_mem hm
      omega
    · rw [List.erase_of_not_mem hm] at h1
      omega
theorem DSK.len {K : cp_K} {b : Nat → Nat → Int32} : ∀ (Ls : List Nat) (rf P : Nat), DSK K b Ls rf P → Ls.Nodup
  | [], _, _, _ => List.nodup_nil
  | l :: Ls, rf, P, h => by
    obtain ⟨h1, h2, h3, rf0, P0, -, -, -, -, -, -, -, h11⟩ := h
    exact List.nodup_cons.mpr ⟨h2, DSK.len Ls rf0 P0 h11⟩
def OLC (K : cp_K) (b : Nat → Nat → Int32) (K' : cp_K) (b' : Nat → Nat → Int32) (Ls : List Nat) : Prop := ∀ c ∈ Ls, K'.2.2.1 4 c = K.2.2.1 4 c ∧ (∀ p, 30 ≤ p → p ≤ 36 → b' p c = b p c) ∧ ∀ x, x < 4 → b' 37 (4 * c + x) = b 37 (4 * c + x)
theorem DSK.ft {K K' : cp_K} {b b' : Nat → Nat → Int32} (hK : KFX K K') : ∀ (Ls : List Nat) (rf P : Nat), OLD rf b b' → OLP P b b' → OLC K b K' b' Ls → DSK K b Ls rf P → DSK K' b' Ls rf P
  | [], _, _, _, _, _, h => h
  | l :: Ls, rf, P, hb, hp, hl, h => by
    have hne := DSK.ne _ _ _ h
    obtain ⟨h1, h2, h3, rf0, P0, h4, h5, h6, h7, h8, h9, h10, h11⟩ := h
    obtain ⟨e1, e2, e3⟩ := hl l List.mem_cons_self
    refine ⟨h1, h2, by rw [e2 30 (by omega) (by omega), e2 31 (by omega) (by omega)]; exact h3, rf0, P0, by rw [e2 32 (by omega) (by omega)]; exact h4, by rw [e2 33 (by omega) (by omega)]; exact h5, h6, h7, h8, h9, fun K2 b2 ar k1 k2 k3 k4 k5 => ?_, DSK.ft hK Ls rf0 P0 (fun p p1 p2 x hx => hb p p1 p2 x (by omega)) (fun p p1 p2 x hx => hp p p1 p2 x (by omega)) (fun c hc => hl c (List.mem_cons_of_mem _ hc)) h11⟩
    have g := h10 K2 b2 ar (hK.trans k1) (fun p p1 p2 x hx => by
      rw [k2 p p1 p2 x hx, mkd_ne (by omega), mkd_ne (by omega)]
      exact hb p p1 p2 x hx) (fun p p1 p2 x hx => by
      rw [k3 p p1 p2 x hx, mkd_ne (by omega), mkd_ne (by omega)]
      exact hp p p1 p2 x hx) (fun c hc h0 => by
      have hm := mkd_mem h0
      obtain ⟨f1, f2, f3⟩ := hl c hm
      have h0' : ¬ mkd b' (l :: Ls) 30 c = 0 := by
        rw [mkd_in hm] at h0
        rw [mkd_in hm, f2 30 (by omega) (by omega)]
        exact h0
      obtain ⟨g1, g2, g3⟩ := k4 c hc h0'
      refine ⟨g1.trans f1, fun p p1 p2 => ?_, fun x hx => ?_⟩
      · rw [g2 p p1 p2]
        by_cases hp30 : p = 30
        · subst hp30
          rw [mkd_in hm, mkd_in hm]
          exact f2 30 (by omega) (by omega)
        · rw [mkd_ne hp30, mkd_ne hp30]
          exact f2 p p1 p2
      · rw [g3 x hx, mkd_ne (by omega), mkd_ne (by omega)]
        exact f3 x hx) k5
    rw [mkd_in List.mem_cons_self] at g ⊢
    rw [e2 30 (by omega) (by omega)]
    exact g
theorem DSK.at {K : cp_K} {b : Nat → Nat → Int32} {c : Nat} : ∀ (Ls : List Nat) (rf P : Nat), DSK K b Ls rf P → c ∈ Ls → ∃ Ls' rf' P', c ∈ Ls' ∧ (∀ x ∈ Ls', x ∈ Ls) ∧ EVL K (mkd b Ls') rf' P' c
  | [], _, _, _, hc => by cases hc
  | l :: Ls, rf, P, h, hc => by
    obtain ⟨-, -, -, rf0, P0, -, -, -, -, -, -, h10, h11⟩ := h
    rcases List.mem_cons.mp hc with e | e
    · subst e
      exact ⟨_, rf, P, List.mem_cons_self, fun _ h => h, h10⟩
    · obtain ⟨Ls', rf', P', g1, g2, g3⟩ := DSK.at Ls rf0 P0 h11 e
      exact ⟨Ls', rf', P', g1, fun x hx => List.mem_cons_of_mem _ (g2 x hx), g3⟩
theorem DSK.dic {K : cp_K} {b : Nat → Nat → Int32} {ar : Nat → Nat} {Ls : List Nat} {rf P : Nat} (h : DSK K b Ls rf P) (h0 : ∀ c, c < 26 → ¬ c ∈ Ls → b 30 c = 0 ∧ K.2.2.1 4 c = 0) (ha : AOK b ar) : DIC K b ar ∧ DCN K b ar := by
  have ev : ∀ c, c ∈ Ls → (b 30 c = 1 → CST K b ar c) ∧ (b 30 c = 2 → PROG K b ar c ∧ ∃ m, m ≤ 4 ∧ b 31 c = nI m ∧ K.2.1 (K.2.2.1 4 c) 2 = nI m) := fun c hc => by
    obtain ⟨Ls', rf', P', g1, g2, g3⟩ := DSK.at _ _ _ h hc
    have := g3 K b ar KFX.refl (fun p p1 p2 x _ => by rw [mkd_ne (by omega)]) (fun p p1 p2 x _ => by rw [mkd_ne (by omega)]) (fun x hx q => ⟨rfl, fun p p1 p2 => by
      by_cases hp : p = 30
      · subst hp; rw [mkd_in (mkd_mem q)]
      · rw [mkd_ne hp], fun y _ => by rw [mkd_ne (by omega)]⟩) ha
    rw [mkd_in g1] at this
    exact this
  refine ⟨fun l hl => ⟨fun e => ?_, fun e => ?_⟩, fun c hc => ?_⟩
  · by_cases hm : l ∈ Ls
    · obtain ⟨k, sp, np, d, -, -, -, -, -, -, -, -, q9, q10, -⟩ := (ev l hm).1 e
      exact ⟨q9, q10⟩
    · rw [(h0 l hl hm).1] at e; exact absurd e (by decide)
  · by_cases hm : l ∈ Ls
    · exact ((ev l hm).2 e).1
    · rw [(h0 l hl hm).1] at e; exact absurd e (by decide)
  · by_cases hm : c ∈ Ls
    · rcases (DSK.ne _ _ _ h c hm).2.1 with e | e
      · exact Or.inr (Or.inl ⟨e, (ev c hm).1 e⟩)
      · obtain ⟨⟨ps, k, i, j, q1, q2, -⟩, q3⟩ := (ev c hm).2 e
        exact Or.inr (Or.inr ⟨e, q1, q2, q3⟩)
    · exact Or.inl (h0 c hc hm)
/-- arities that fit: what is no constant has 7, which nothing has -/
theorem DSK.aok {K : cp_K} {b : Nat → Nat → Int32} {Ls : List Nat} {rf P x : Nat} (h : DSK K b Ls rf P) (h0 : ∀ c, c < 26 → ¬ c ∈ Ls → b 30 c = 0) : ∃ ar : Nat → Nat, AOK b ar ∧ (∀ c, c < 26 → ¬ b 30 c = 1 → ar c = 7) ∧ ar 26 = x := by
  refine ⟨fun c => if c < 26 then (if b 30 c = 1 then (b 31 c).toNatClampNeg else 7) else x, fun c hc e => ?_, fun c hc e => ?_, if_neg (by decide)⟩
  · by_cases hm : c ∈ Ls
    · obtain ⟨m, m1, m2⟩ := (DSK.ne _ _ _ h c hm).2.2
      simp only [if_pos hc, if_pos e, m2, nI_clamp (show m < 2 ^ 31 by omega)]
      exact ⟨trivial, m1⟩
    · rw [h0 c hc hm] at e; exact absurd e (by decide)
  · simp only [if_pos hc, if_neg e]
