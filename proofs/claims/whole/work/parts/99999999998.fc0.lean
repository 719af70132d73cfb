/-! ===== the face: what holds between calls ===== -/
def TXT (K : cp_K) (S : cp_S) : Prop := (∀ j, j < 80 → narrow .char (.int (K.2.1 1 j)) = .int (K.2.1 1 j)) ∧ ∃ n, n ≤ 80 ∧ K.2.1 0 1 = nI n ∧ S.1 1 = nI n ∧ ∃ tx : Nat → Nat, ∀ x, x < n → (32 ≤ tx x ∧ tx x ≤ 126) ∧ K.2.1 1 x = nI (tx x) ∧ S.2 27 x = nI (tx x)
def PGE (K : cp_K) (S : cp_S) : Prop := ∃ w, w ≤ 100 ∧ K.2.1 0 3 = nI w ∧ S.1 3 = nI w ∧ ∀ x, x < w → ∃ k, k < 128 ∧ K.2.1 2 x = nI k ∧ S.2 28 x = nI k
def SEQ (g h : Nat → Int32) : List Nat → Prop
  | [] => True
  | l :: Ls => g Ls.length = nI (65 + l) ∧ h Ls.length = nI l ∧ SEQ g h Ls
def DCT (K : cp_K) (S : cp_S) (Ls : List Nat) (rf P : Nat) : Prop := DSK K S.2 Ls rf P ∧ (∀ c, c < 26 → ¬ c ∈ Ls → S.2 30 c = 0 ∧ K.2.2.1 4 c = 0) ∧ (S.1 16 = nI rf ∧ S.1 23 = nI P) ∧ (K.2.1 3 2 = nI Ls.length ∧ S.1 14 = nI Ls.length) ∧ SEQ (K.2.1 5) (S.2 38) Ls
/-- the rows of the result as nodes -/
def rbs (a : Nat → Nat → Int32) : Nat → Nat → Int32 := fun p => if p = 39 then a 82 else if p = 40 then a 83 else if p = 41 then a 84 else a p
def RTV (K : cp_K) (S : cp_S) (q : Nat) : Prop := (¬ S.1 80 = 0 ∧ K.2.1 q 0 = 3) ∨ (S.1 80 = 0 ∧ ∃ m k, S.1 82 = nI m ∧ 1 ≤ m ∧ m ≤ 100 ∧ k ≤ 40 ∧ TR K (rbs S.2) (fun _ _ => True) k q 0 m ∧ ∀ x, x < m → (S.2 82 x = 2 ∨ S.2 82 x = 3 ∨ S.2 82 x = 5) ∧ (S.2 82 x = 5 → ∃ c n, c < 26 ∧ S.2 83 x = nI c ∧ n ≤ 6 ∧ S.2 84 x = nI n ∧ S.2 30 c = 1 ∧ S.2 31 c = nI n))
def RSV (K : cp_K) (S : cp_S) : Prop := (K.2.2.1 0 11 = 0 ∧ S.1 79 = 0) ∨ (nd K (K.2.2.1 0 11) 9 ∧ ¬ S.1 79 = 0 ∧ (K.2.1 0 12 = 0 ↔ S.1 81 = 0) ∧ (S.1 81 = 0 → RTV K S (K.2.2.1 0 11)))
def MSC (K : cp_K) (S : cp_S) : Prop := K.2.1 23 4 = S.1 60 ∧ ((∃ r, r < 2720 ∧ S.1 20 = nI r) ∧ S.1 58 = 0) ∧ (rsz K 7 ≤ 1048576 ∧ rsz K 9 < 16000 ∧ rsz K 11 < 16000 ∧ ∃ n, n ≤ 10000 ∧ BS K n) ∧ KO K ∧ 86 ≤ K.1.1
def INV (K : cp_K) (S : cp_S) (Ls : List Nat) (rf P : Nat) : Prop := TXT K S ∧ PGE K S ∧ DCT K S Ls rf P ∧ RSV K S ∧ MSC K S
/-- the heap grows by at most c places and by what the Rows ask -/
def GRW (c : Nat) (K K' : cp_K) : Prop := K.1.1 ≤ K'.1.1 ∧ 64 * K'.1.1 + k_caps K ≤ 64 * (K.1.1 + c) + k_caps K'
theorem GRW.refl {K : cp_K} {c : Nat} : GRW c K K := ⟨Nat.le_refl _, by omega⟩
theorem GRW.of {K K' : cp_K} {c : Nat} (h1 : K'.1 = K.1) (h2 : K'.2.2.2 = K.2.2.2) : GRW c K K' := by
  unfold GRW k_caps
  rw [h1, h2]
  omega
theorem SEQ.cg {g g' h h' : Nat → Int32} : ∀ Ls : List Nat, (∀ i, i < Ls.length → g' i = g i ∧ h' i = h i) → SEQ g h Ls → SEQ g' h' Ls
  | [], _, _ => trivial
  | l :: Ls, e, ⟨a1, a2, a3⟩ => by
    have := e Ls.length (by rw [List.length_cons]; omega)
    exact ⟨this.1.trans a1, this.2.trans a2, SEQ.cg Ls (fun i hi => e i (by rw [List.length_cons]; omega)) a3⟩
theorem nar_k {k : Nat} (h : k < 128) : narrow .char (.int (nI k)) = .int (nI k) := by
  have : narrow .char (.int (nI k)) = .int (Int32.toUInt32 (nI k) % 65536).toInt32 := rfl
  rw [this, (nar_ch k h).2]
section CPFC
variable {K K' : cp_K} {S S' : cp_S} {Ls : List Nat} {rf P : Nat}
theorem DCT.fr (h : DCT K S Ls rf P) (hK : KFX K K') (h4 : ∀ c, K'.2.2.1 4 c = K.2.2.1 4 c) (h32 : K'.2.1 3 2 = K.2.1 3 2) (h5 : K'.2.1 5 = K.2.1 5) (hb : ∀ p, 30 ≤ p → p ≤ 38 → S'.2 p = S.2 p) (ho : OLD rf S.2 S'.2) (hp : OLP P S.2 S'.2) (hs : S'.1 16 = S.1 16 ∧ S'.1 23 = S.1 23 ∧ S'.1 14 = S.1 14) : DCT K' S' Ls rf P := by
  obtain ⟨a1, a2, ⟨a3, a4⟩, ⟨a5, a6⟩, a7⟩ := h
  refine ⟨DSK.ft hK _ _ _ ho hp (fun c _ => ⟨h4 c, fun p p1 p2 => by rw [hb p (by omega) (by omega)], fun x _ => by rw [hb 37 (by omega) (by omega)]⟩) a1, fun c hc hm => by rw [hb 30 (by omega) (by omega), h4]; exact a2 c hc hm, ⟨by rw [hs.1]; exact a3, by rw [hs.2.1]; exact a4⟩, ⟨by rw [h32]; exact a5, by rw [hs.2.2]; exact a6⟩, by rw [h5, hb 38 (by omega) (by omega)]; exact a7⟩
theorem RSV.fr (h : RSV K S) (hK : KFX K K') (h11 : K'.2.2.1 0 11 = K.2.2.1 0 11) (h12 : K'.2.1 0 12 = K.2.1 0 12) (hs : ∀ k, 79 ≤ k → k ≤ 82 → S'.1 k = S.1 k) (ha : ∀ p, 82 ≤ p → p ≤ 84 → S'.2 p = S.2 p) (hl : ∀ c, c < 26 → S.2 30 c = 1 → S'.2 30 c = 1 ∧ S'.2 31 c = S.2 31 c) : RSV K' S' := by
  rcases h with ⟨a1, a2⟩ | ⟨a1, a2, a3, a4⟩
  · exact Or.inl ⟨h11.trans a1, (hs 79 (by omega) (by omega)).trans a2⟩
  · refine Or.inr ⟨by rw [h11]; exact hK.n a1, by rw [hs 79 (by omega) (by omega)]; exact a2, by rw [h12, hs 81 (by omega) (by omega)]; exact a3, fun e => ?_⟩
    rw [hs 81 (by omega) (by omega)] at e
    rw [h11]
    rcases a4 e with ⟨b1, b2⟩ | ⟨b1, m, k, b2, b3, b4, b5, b6, b7⟩
    · exact Or.inl ⟨by rw [hs 80 (by omega) (by omega)]; exact b1, by rw [hK.i a1]; exact b2⟩
    · refine Or.inr ⟨by rw [hs 80 (by omega) (by omega)]; exact b1, m, k, by rw [hs 82 (by omega) (by omega)]; exact b2, b3, b4, b5, TR.ft (rf := m) hK (fun p p1 p2 x hx => ?_) k _ _ _ (Nat.le_refl _) b6, fun x hx => ?_⟩
      · unfold rbs
        rw [ha 82 (by omega) (by omega), ha 83 (by omega) (by omega), ha 84 (by omega) (by omega)]
        rcases (show p = 39 ∨ p = 40 ∨ p = 41 by omega) with rfl | rfl | rfl <;> rfl
      · rw [ha 82 (by omega) (by omega), ha 83 (by omega) (by omega), ha 84 (by omega) (by omega)]
        refine ⟨(b7 x hx).1, fun e => ?_⟩
        obtain ⟨c, n, c1, c2, c3, c4, c5, c6⟩ := (b7 x hx).2 e
        exact ⟨c, n, c1, c2, c3, c4, (hl c c1 c5).1, (hl c c1 c5).2.trans c6⟩
/-- only an int of a first place changes on the one side, only a scalar on the other -/
theorem INV.f0 (h : INV K S Ls rf P) {x : Int32} : INV K (va_up S.1 0 x, S.2) Ls rf P := by
  obtain ⟨⟨a0, n, a1, a2, a3, a4⟩, ⟨w, b1, b2, b3, b4⟩, c, d, e⟩ := h
  have q : ∀ k, k ≠ 0 → va_up S.1 0 x k = S.1 k := fun k hk => cp_up_ne hk
  refine ⟨⟨a0, n, a1, a2, (q 1 (by decide)).trans a3, a4⟩, ⟨w, b1, b2, (q 3 (by decide)).trans b3, b4⟩, c.fr KFX.refl (fun _ => rfl) rfl rfl (fun _ _ _ => rfl) (fun _ _ _ _ _ => rfl) (fun _ _ _ _ _ => rfl) ⟨q 16 (by decide), q 23 (by decide), q 14 (by decide)⟩, d.fr KFX.refl rfl rfl (fun k k1 _ => q k (by omega)) (fun _ _ _ => rfl) (fun _ _ h => ⟨h, rfl⟩), ?_⟩
  obtain ⟨e1, ⟨e2, e3⟩, e4⟩ := e
  exact ⟨e1.trans (q 60 (by decide)).symm, ⟨e2, (q 58 (by decide)).trans e3⟩, e4⟩
/-- the dictionary's entry of a character -/
theorem find_L (h : INV K S Ls rf P) {c : Nat} (hc : c < 65536) : dfind K (nI c) = (if 65 ≤ c ∧ c ≤ 90 then K.2.2.1 4 (c - 65) else 0) := by
  unfold dfind
  have e : (nI c - 65).toInt = (c : Int) - 65 := pk_sub_toInt (a := c) (b := 65) (by omega) (by omega)
  by_cases h65 : 65 ≤ c
  · have e2 : nI c - 65 = nI (c - 65) := pk_sub (a := c) (b := 65) h65
    rw [e2]
    by_cases h90 : c ≤ 90
    · rw [if_neg (fun q => q.elim (fun q => nI_pos (by omega) q) (fun q => absurd ((nI_leq (a := 26) (by omega) (by omega)).mp q) (by omega))), if_pos ⟨h65, h90⟩, nI_clamp (by omega)]
    · have h26 : 26 ≤ nI (c - 65) := nI_le (a := 26) (by omega) (by omega)
      rw [if_pos (Or.inr h26), if_neg (fun q => h90 q.2)]
  · rw [if_pos (Or.inl (Int32.lt_iff_toInt_lt.mpr (by rw [e]; show (c : Int) - 65 < 0; omega))), if_neg (fun q => h65 q.1)]
theorem ent_L (h : DCT K S Ls rf P) {c : Nat} (hc : c < 26) : (S.2 30 c = 0 ∧ K.2.2.1 4 c = 0) ∨ (S.2 30 c = 1 ∧ nd K (K.2.2.1 4 c) 10 ∧ K.2.1 (K.2.2.1 4 c) 1 = 0 ∧ ∃ m, m ≤ 6 ∧ S.2 31 c = nI m ∧ K.2.1 (K.2.2.1 4 c) 2 = nI m) ∨ (S.2 30 c = 2 ∧ nd K (K.2.2.1 4 c) 10 ∧ ¬ K.2.1 (K.2.2.1 4 c) 1 = 0 ∧ ∃ m, m ≤ 4 ∧ S.2 31 c = nI m ∧ K.2.1 (K.2.2.1 4 c) 2 = nI m) := by
  obtain ⟨ar, a1, -, -⟩ := h.1.aok (x := 0) (fun c hc hm => (h.2.1 c hc hm).1)
  obtain ⟨-, d2⟩ := h.1.dic h.2.1 a1
  rcases d2 c hc with q | ⟨q1, q2⟩ | ⟨q1, q2, q3, q4⟩
  · exact Or.inl q
  · obtain ⟨k, sp, np, d, -, -, -, -, z5, z6, -, -, z9, z10, z11, -⟩ := q2
    exact Or.inr (Or.inl ⟨q1, z9, z10, ar c, z5, z6, z11⟩)
  · exact Or.inr (Or.inr ⟨q1, q2, q3, q4⟩)
theorem f_wipe (h : INV K S Ls rf P) : ∃ r K' S', KC 8 m_P_wipe (fun G => [.ref (cp_b G + 0)]) K (fun _ => some (.int r)) K' ∧ MC 0 m_M_wipe [] S (some (.int r)) S' ∧ INV K' S' Ls rf P ∧ S'.1 0 = 0 ∧ GRW 0 K K' := by
  obtain ⟨⟨a0, n, a1, a2, a3, a4⟩, b, c, d, e⟩ := h.f0 (x := 0)
  refine ⟨S.1 1, kI K 0 1 0, (va_up (va_up S.1 0 0) 1 0, S.2), c_P_wipe (D := 0) ⟨?_, rfl⟩, c_M_wipe (b_M_wipe_0 ⟨rfl, rfl⟩), ?_, rfl, GRW.of rfl rfl⟩
  · obtain ⟨⟨-, n', -, q2, q3, -⟩, -⟩ := h
    rw [q2, q3]
  · have kx : ∀ p k, ¬ (p = 0 ∧ k = 1) → (kI K 0 1 0).2.1 p k = K.2.1 p k := fun p k hk => by
      rw [kI_i]
      by_cases hp : p = 0
      · subst hp; rw [va_up_at, cp_up_ne (fun e => hk ⟨rfl, e⟩)]
      · rw [cp_up_ne hp]
    have kq : ∀ p, p ≠ 0 → (kI K 0 1 0).2.1 p = K.2.1 p := fun p hp => by rw [kI_i, cp_up_ne hp]
    have q : ∀ k, k ≠ 0 → k ≠ 1 → va_up (va_up S.1 0 0) 1 0 k = S.1 k := fun k h0 h1 => by rw [cp_up_ne h1, cp_up_ne h0]
    have q1 : ∀ k, k ≠ 1 → va_up (va_up S.1 0 0) 1 0 k = va_up S.1 0 0 k := fun k h1 => cp_up_ne h1
    have kf : KFX K (kI K 0 1 0) := ⟨Nat.le_refl _, fun q q1 _ => ⟨rfl, kq q (by omega), rfl⟩⟩
    refine ⟨⟨fun j hj => by rw [kq 1 (by decide)]; exact a0 j hj, 0, by omega, ?_, ?_, fun _ => 32, fun x hx => absurd hx (by omega)⟩, ?_, c.fr kf (fun _ => rfl) (by rw [kq 3 (by decide)]) (kq 5 (by decide)) (fun _ _ _ => rfl) (fun _ _ _ _ _ => rfl) (fun _ _ _ _ _ => rfl) ⟨q1 16 (by decide), q1 23 (by decide), q1 14 (by decide)⟩, d.fr kf rfl (kx 0 12 (by decide)) (fun k k1 _ => q1 k (by omega)) (fun _ _ _ => rfl) (fun _ _ h => ⟨h, rfl⟩), ?_⟩
    · rw [kI_i, va_up_at, va_up_at]; rfl
    · show va_up (va_up S.1 0 0) 1 0 1 = nI 0
      rw [va_up_at]; rfl
    · obtain ⟨w, b1, b2, b3, b4⟩ := b
      exact ⟨w, b1, (kx 0 3 (by decide)).trans b2, (q1 3 (by decide)).trans b3, fun x hx => by rw [kq 2 (by decide)]; exact b4 x hx⟩
    · obtain ⟨e1, ⟨e2, e3⟩, e4⟩ := e
      exact ⟨by rw [kq 23 (by decide)]; exact e1.trans (q1 60 (by decide)).symm, ⟨e2, (q1 58 (by decide)).trans e3⟩, e4⟩
theorem f_type (h : INV K S Ls rf P) {c : Nat} (hc : c < 65536) : ∃ r K' S', KC 8 m_P_type (fun G => [.ref (cp_b G + 0), .int (nI c)]) K (fun _ => some (.int r)) K' ∧ MC 0 m_M_type [.int (nI c)] S (some (.int r)) S' ∧ INV K' S' Ls rf P ∧ S'.1 0 = 0 ∧ GRW 0 K K' := by
  have h1 := h.f0 (x := 0)
  obtain ⟨⟨a0, n, a1, a2, a3, tx, a4⟩, b, cc, d, e⟩ := h
  by_cases hr : 32 ≤ c ∧ c ≤ 126 ∧ n < 80
  · obtain ⟨r1, r2, r3⟩ := hr
    have n1 : ¬ nI c < 32 := nI_nlt (b := 32) r1 (by omega)
    have n2 : ¬ 126 < nI c := nI_nlt (a := 126) r2 (by omega)
    have n3 : nI n < 80 := nI_lt (b := 80) r3 (by omega)
    have n4 : ¬ nI n = 80 := fun q => absurd ((nI_eq (b := 80) (by omega) (by omega)).mp q) (by omega)
    obtain ⟨K', hK'⟩ : ∃ K', K' = kI (kI K 1 n (nI c)) 0 1 (nI (n + 1)) := ⟨_, rfl⟩
    obtain ⟨S', hS'⟩ : ∃ S' : cp_S, S' = (va_up (va_up S.1 0 0) 1 (nI (n + 1)), va_up S.2 27 (upd (S.2 27) n (nI c))) := ⟨_, rfl⟩
    have hS1 : S'.1 = va_up (va_up S.1 0 0) 1 (nI (n + 1)) := by rw [hS']
    have hS2 : S'.2 = va_up S.2 27 (upd (S.2 27) n (nI c)) := by rw [hS']
    have ki : ∀ p k, ¬ (p = 0 ∧ k = 1) → ¬ (p = 1 ∧ k = n) → K'.2.1 p k = K.2.1 p k := fun p k h1 h2 => by
      rw [hK', kI_i, kI_i]
      by_cases hp : p = 0
      · subst hp; rw [va_up_at, cp_up_ne (fun e => h1 ⟨rfl, e⟩), cp_up_ne (by decide)]
      · rw [cp_up_ne hp]
        by_cases hp1 : p = 1
        · subst hp1; rw [va_up_at, cp_up_ne (fun e => h2 ⟨rfl, e⟩)]
        · rw [cp_up_ne hp1]
    have kq : ∀ p, 2 ≤ p → K'.2.1 p = K.2.1 p := fun p hp => by rw [hK', kI_i, kI_i, cp_up_ne (by omega), cp_up_ne (by omega)]
    have k1 : K'.2.1 0 1 = nI (n + 1) := by rw [hK', kI_i, va_up_at, va_up_at]
    have k2 : K'.2.1 1 n = nI c := by rw [hK', kI_i, kI_i, cp_up_ne (by decide), va_up_at, va_up_at]
    have kr : K'.2.2.1 = K.2.2.1 ∧ K'.2.2.2 = K.2.2.2 ∧ K'.1 = K.1 := by rw [hK']; exact ⟨rfl, rfl, rfl⟩
    have s1 : ∀ k, k ≠ 0 → k ≠ 1 → S'.1 k = S.1 k := fun k h0 h1 => by rw [hS1, cp_up_ne h1, cp_up_ne h0]
    have s2 : ∀ p, p ≠ 27 → S'.2 p = S.2 p := fun p hp => by rw [hS2, cp_up_ne hp]
    have s27 : S'.2 27 = upd (S.2 27) n (nI c) := by rw [hS2, va_up_at]
    have kf : KFX K K' := ⟨by rw [kr.2.2]; exact Nat.le_refl _, fun q q1 _ => ⟨by rw [kr.2.2], kq q (by omega), by rw [kr.1]⟩⟩
    refine ⟨1, K', S', c_P_type (D := 0) ?_, c_M_type (b_M_type_0 ?_), ⟨⟨fun j hj => ?_, n + 1, by omega, k1, by rw [hS1, va_up_at], fun x => if x = n then c else tx x, fun x hx => ?_⟩, ?_, cc.fr kf (fun _ => by rw [kr.1]) (by rw [kq 3 (by omega)]) (kq 5 (by omega)) (fun p p1 p2 => s2 p (by omega)) (fun p p1 p2 x _ => by rw [s2 p (by omega)]) (fun p p1 p2 x _ => by rw [s2 p (by omega)]) ⟨s1 16 (by decide) (by decide), s1 23 (by decide) (by decide), s1 14 (by decide) (by decide)⟩, d.fr kf (by rw [kr.1]) (ki 0 12 (by decide) (by omega)) (fun k k1 _ => s1 k (by omega) (by omega)) (fun p p1 p2 => s2 p (by omega)) (fun x _ h => ⟨by rw [s2 30 (by decide)]; exact h, by rw [s2 31 (by decide)]⟩), ?_⟩, by rw [hS1, cp_up_ne (by decide), va_up_at], GRW.of kr.2.2 kr.2.1⟩
    · unfold wp_P_type_0
      rw [a2, nI_clamp (show n < 2 ^ 31 by omega), (nar_ch c (by omega)).1]
      refine ⟨fun q => absurd q n1, fun _ => ⟨fun q => absurd q n2, fun _ => ⟨fun _ => ⟨vp_in_nI r3 (by decide), rfl, ?_⟩, fun q => absurd n3 q⟩⟩⟩
      rw [hK', ← nI_1]
      show _ = kI _ 0 1 ((kI K 1 n (nI c)).2.1 0 1 + 1)
      rw [kI_i, cp_up_ne (by decide), a2]
    · unfold wp_M_type_0
      rw [a3, nI_clamp (show n < 2 ^ 31 by omega), nI_1]
      exact ⟨fun q => absurd q n1, fun _ => ⟨fun q => absurd q n2, fun _ => ⟨fun _ => ⟨vp_in_nI (show n < 80 from r3) (by decide), rfl, hS', rfl⟩, fun q => absurd q n4⟩⟩⟩
    · by_cases hj' : j = n
      · rw [hj', k2]; exact nar_k (by omega)
      · rw [ki 1 j (by omega) (fun q => hj' q.2)]; exact a0 j hj
    · by_cases hx' : x = n
      · simp only [if_pos hx']
        rw [hx', k2, s27, pk_us]
        exact ⟨⟨r1, r2⟩, rfl, rfl⟩
      · simp only [if_neg hx']
        rw [ki 1 x (by omega) (fun q => hx' q.2), s27, pk_un hx']
        exact a4 x (by omega)
    · obtain ⟨w, b1, b2, b3, b4⟩ := b
      exact ⟨w, b1, (ki 0 3 (by decide) (by omega)).trans b2, (s1 3 (by decide) (by decide)).trans b3, fun x hx => by rw [kq 2 (by decide), s2 28 (by decide)]; exact b4 x hx⟩
    · obtain ⟨e1, ⟨e2, e3⟩, ⟨e4, e5, e6, m, e7, e8⟩, e9, e10⟩ := e
      have rr : ∀ q, rsz K' q = rsz K q := fun q => by unfold rsz; rw [kr.2.1]
      refine ⟨by rw [kq 23 (by omega)]; exact e1.trans (s1 60 (by decide) (by decide)).symm, ⟨by rw [s1 20 (by decide) (by decide)]; exact e2, (s1 58 (by decide) (by decide)).trans e3⟩, ⟨by rw [rr]; exact e4, by rw [rr]; exact e5, by rw [rr]; exact e6, m, e7, by unfold BS; rw [rr, rr, rr]; exact e8⟩, ?_, by rw [kr.2.2]; exact e10⟩
      intro r hr
      have := e9 r hr
      unfold rcap at this ⊢
      rw [kr.2.1]
      exact this
  · refine ⟨0, K, (va_up S.1 0 0, S.2), c_P_type (D := 0) ?_, c_M_type (b_M_type_0 ?_), h1, rfl, GRW.refl⟩
    · unfold wp_P_type_0
      refine ⟨fun _ => ⟨rfl, rfl⟩, fun q1 => ⟨fun _ => ⟨rfl, rfl⟩, fun q2 => ⟨fun q3 => ?_, fun _ => ⟨rfl, rfl⟩⟩⟩⟩
      exfalso
      rw [a2] at q3
      have z1 : 32 ≤ c := Nat.le_of_not_lt (fun q => q1 (nI_lt (b := 32) q (by omega)))
      have z2 : c ≤ 126 := Nat.le_of_not_lt (fun q => q2 (nI_lt (a := 126) q (by omega)))
      have z3 : n < 80 := Nat.lt_of_not_le (fun q => nI_nlt (b := 80) q (by omega) q3)
      exact hr ⟨z1, z2, z3⟩
    · unfold wp_M_type_0
      refine ⟨fun _ => ⟨rfl, rfl, rfl⟩, fun q1 => ⟨fun _ => ⟨rfl, rfl, rfl⟩, fun q2 => ⟨fun q3 => ?_, fun _ => ⟨rfl, rfl, rfl⟩⟩⟩⟩
      exfalso
      rw [a3] at q3
      have z1 : 32 ≤ c := Nat.le_of_not_lt (fun q => q1 (nI_lt (b := 32) q (by omega)))
      have z2 : c ≤ 126 := Nat.le_of_not_lt (fun q => q2 (nI_lt (a := 126) q (by omega)))
      have z3 : ¬ n = 80 := fun q => q3 (by rw [q]; rfl)
      exact hr ⟨z1, z2, by omega⟩
theorem f_steps (h : INV K S Ls rf P) : KC 8 m_P_steps (fun G => [.ref (cp_b G + 0)]) K (fun _ => some (.int (S.1 60))) K ∧ MC 0 m_M_steps [] S (some (.int (S.1 60))) (va_up S.1 0 0, S.2) := ⟨c_P_steps (D := 0) ⟨by rw [h.2.2.2.2.1], rfl⟩, c_M_steps (b_M_steps_0 ⟨rfl, rfl⟩)⟩
theorem f_length (h : INV K S Ls rf P) : KC 8 m_P_length (fun G => [.ref (cp_b G + 0)]) K (fun _ => some (.int (S.1 3))) K ∧ MC 0 m_M_length [] S (some (.int (S.1 3))) (va_up S.1 0 0, S.2) := by
  obtain ⟨-, ⟨w, b1, b2, b3, b4⟩, -⟩ := h
  exact ⟨c_P_length (D := 0) ⟨by rw [b2, b3], rfl⟩, c_M_length (b_M_length_0 ⟨rfl, rfl⟩)⟩
theorem f_charAt (h : INV K S Ls rf P) (x : Int32) : ∃ r, KC 8 m_P_charAt (fun G => [.ref (cp_b G + 0), .int x]) K (fun _ => some (.int r)) K ∧ MC 0 m_M_charAt [.int x] S (some (.int r)) (va_up S.1 0 0, S.2) := by
  obtain ⟨-, ⟨w, b1, b2, b3, b4⟩, -⟩ := h
  by_cases hx : x < 0
  · exact ⟨32, c_P_charAt (D := 0) ⟨fun _ => ⟨rfl, rfl, rfl⟩, fun q => absurd hx q⟩, c_M_charAt (b_M_charAt_0 ⟨fun _ => ⟨rfl, rfl, rfl⟩, fun q => absurd hx q⟩)⟩
  · obtain ⟨j, j1, j2⟩ := nI_of hx
    subst j2
    by_cases hj : j < w
    · obtain ⟨k, k1, k2, k3⟩ := b4 j hj
      refine ⟨nI k, c_P_charAt (D := 0) ?_, c_M_charAt (b_M_charAt_0 ?_)⟩
      · unfold wp_P_charAt_0
        rw [b2, nI_clamp j1, k2]
        refine ⟨fun q => absurd q hx, fun _ => ⟨fun q => absurd ((nI_leq (by omega) j1).mp q) (by omega), fun _ => ⟨vp_in_nI (show j < 100 by omega) (by decide), rfl, rfl, ?_⟩⟩⟩
        exact nar_k k1
      · unfold wp_M_charAt_0
        rw [b3, nI_clamp j1, k3, (nar_ch k k1).2]
        refine ⟨fun q => absurd q hx, fun _ => ⟨fun _ => ⟨vp_in_nI (show j < 100 by omega) (by decide), rfl, rfl, ?_⟩, fun q => absurd (nI_lt hj (by omega)) q⟩⟩
        exact nar_k k1
    · refine ⟨32, c_P_charAt (D := 0) ⟨fun _ => ⟨rfl, rfl, rfl⟩, fun _ => ⟨fun _ => ⟨rfl, rfl, rfl⟩, fun q => absurd (by rw [b2]; exact nI_le (by omega) j1) q⟩⟩, c_M_charAt (b_M_charAt_0 ⟨fun _ => ⟨rfl, rfl, rfl⟩, fun _ => ⟨fun q => ?_, fun _ => ⟨rfl, rfl, rfl⟩⟩⟩)⟩
      rw [b3] at q
      exact absurd q (nI_nlt (by omega) j1)
theorem let_c {c : Nat} (hc : c < 65536) : (65 ≤ c ∧ c ≤ 90 → SC m_M_isLetter [.int (nI c)] (some (.int 1)) ∧ nI c - 65 = nI (c - 65)) ∧ (¬ (65 ≤ c ∧ c ≤ 90) → SC m_M_isLetter [.int (nI c)] (some (.int 0))) := ⟨fun h => ⟨SC_L (by omega) (fun _ => rfl) (fun q => absurd h q), pk_sub (a := c) (b := 65) h.1⟩, fun h => SC_L (by omega) (fun q => absurd q h) (fun _ => rfl)⟩
theorem f_kind (h : INV K S Ls rf P) {c : Nat} (hc : c < 65536) : ∃ r, KC 8 m_P_kind (fun G => [.ref (cp_b G + 0), .int (nI c)]) K (fun _ => some (.int r)) K ∧ MC 1 m_M_kind [.int (nI c)] S (some (.int r)) (va_up S.1 0 0, S.2) := by
  have fl := find_L h hc
  obtain ⟨l1, l0⟩ := let_c hc
  by_cases hl : 65 ≤ c ∧ c ≤ 90
  · rw [if_pos hl] at fl
    obtain ⟨l2, l3⟩ := l1 hl
    have mc : MC 1 m_M_kind [.int (nI c)] S (some (.int (S.2 30 (c - 65)))) (va_up S.1 0 0, S.2) := by
      refine c_M_kind (b_M_kind_0 ⟨1, l2, fun q => absurd q (by decide), fun _ => ?_⟩)
      rw [l3, nI_clamp (by omega)]
      exact ⟨vp_in_nI (show c - 65 < 26 by omega) (by decide), rfl, rfl⟩
    rcases ent_L h.2.2.1 (show c - 65 < 26 by omega) with ⟨q1, q2⟩ | ⟨q1, q2, q3, -⟩ | ⟨q1, q2, q3, -⟩
    · rw [q1] at mc
      exact ⟨0, c_P_kind (D := 0) ⟨fun q => absurd (fl.trans q2) q, fun _ => ⟨rfl, rfl⟩⟩, mc⟩
    · rw [q1] at mc
      have ne : ¬ K.2.2.1 4 (c - 65) = 0 := fun e => by have := q2.1; omega
      refine ⟨1, c_P_kind (D := 0) ?_, mc⟩
      unfold wp_P_kind_0
      rw [fl]
      exact ⟨fun _ => ⟨q2, fun _ => ⟨rfl, rfl⟩, fun q => absurd q3 q⟩, fun q => absurd q ne⟩
    · rw [q1] at mc
      have ne : ¬ K.2.2.1 4 (c - 65) = 0 := fun e => by have := q2.1; omega
      refine ⟨2, c_P_kind (D := 0) ?_, mc⟩
      unfold wp_P_kind_0
      rw [fl]
      exact ⟨fun _ => ⟨q2, fun q => absurd q q3, fun _ => ⟨rfl, rfl⟩⟩, fun q => absurd q ne⟩
  · rw [if_neg hl] at fl
    exact ⟨0, c_P_kind (D := 0) ⟨fun q => absurd fl q, fun _ => ⟨rfl, rfl⟩⟩, c_M_kind (b_M_kind_0 ⟨0, l0 hl, fun _ => ⟨rfl, rfl⟩, fun q => absurd rfl q⟩)⟩
theorem f_parameters (h : INV K S Ls rf P) {c : Nat} (hc : c < 65536) : ∃ r, KC 8 m_P_parameters (fun G => [.ref (cp_b G + 0), .int (nI c)]) K (fun _ => some (.int r)) K ∧ MC 1 m_M_parameters [.int (nI c)] S (some (.int r)) (va_up S.1 0 0, S.2) := by
  have fl := find_L h hc
  obtain ⟨l1, l0⟩ := let_c hc
  by_cases hl : 65 ≤ c ∧ c ≤ 90
  · rw [if_pos hl] at fl
    obtain ⟨l2, l3⟩ := l1 hl
    have vi : vp_in (nI (c - 65)) 26 := vp_in_nI (show c - 65 < 26 by omega) (by decide)
    have mc : ∀ r, (S.2 30 (c - 65) = 0 → r = -1) → (¬ S.2 30 (c - 65) = 0 → r = S.2 31 (c - 65)) → MC 1 m_M_parameters [.int (nI c)] S (some (.int r)) (va_up S.1 0 0, S.2) := fun r r1 r2 => by
      refine c_M_parameters (b_M_parameters_0 ⟨1, l2, fun q => absurd q (by decide), fun _ => ?_⟩)
      rw [l3, nI_clamp (by omega)]
      exact ⟨vi, fun q => ⟨vi, by rw [r2 q], rfl⟩, fun q => ⟨by rw [r1 q], rfl⟩⟩
    have ok : ∀ m : Nat, nd K (K.2.2.1 4 (c - 65)) 10 → S.2 31 (c - 65) = nI m → K.2.1 (K.2.2.1 4 (c - 65)) 2 = nI m → ¬ S.2 30 (c - 65) = 0 → ∃ r, KC 8 m_P_parameters (fun G => [.ref (cp_b G + 0), .int (nI c)]) K (fun _ => some (.int r)) K ∧ MC 1 m_M_parameters [.int (nI c)] S (some (.int r)) (va_up S.1 0 0, S.2) := fun m q2 q3 q4 q5 => by
      have ne : ¬ K.2.2.1 4 (c - 65) = 0 := fun e => by have := q2.1; omega
      refine ⟨nI m, c_P_parameters (D := 0) ?_, mc _ (fun q => absurd q q5) (fun _ => q3.symm)⟩
      unfold wp_P_parameters_0
      rw [fl, q4]
      exact ⟨fun _ => ⟨q2, rfl, rfl⟩, fun q => absurd q ne⟩
    rcases ent_L h.2.2.1 (show c - 65 < 26 by omega) with ⟨q1, q2⟩ | ⟨q1, q2, -, m, -, q3, q4⟩ | ⟨q1, q2, -, m, -, q3, q4⟩
    · exact ⟨-1, c_P_parameters (D := 0) ⟨fun q => absurd (fl.trans q2) q, fun _ => ⟨rfl, rfl⟩⟩, mc _ (fun _ => rfl) (fun q => absurd q1 q)⟩
    · exact ok m q2 q3 q4 (by rw [q1]; decide)
    · exact ok m q2 q3 q4 (by rw [q1]; decide)
  · rw [if_neg hl] at fl
    exact ⟨-1, c_P_parameters (D := 0) ⟨fun q => absurd fl q, fun _ => ⟨rfl, rfl⟩⟩, c_M_parameters (b_M_parameters_0 ⟨0, l0 hl, fun _ => ⟨rfl, rfl⟩, fun q => absurd rfl q⟩)⟩
end CPFC
