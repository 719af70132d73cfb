/-! ===== stacks; what a call leaves as it was; the reference's walk through a value ===== -/
def RSa (g : Nat → Int32) : List Int32 → Prop
  | [] => True
  | x :: L => g L.length = x ∧ RSa g L
/-- the Row r holds the list, its top first -/
def RS (K : cp_K) (r : Nat) (L : List Int32) : Prop := rsz K r = L.length ∧ RSa (rat K r) L
theorem RSa_up {g : Nat → Int32} {j : Nat} {x : Int32} : ∀ L : List Int32, L.length ≤ j → RSa g L → RSa (va_up g j x) L
  | [], _, _ => trivial
  | y :: L, hj, h => by
    rw [List.length_cons] at hj
    exact ⟨by rw [cp_up_ne (by omega)]; exact h.1, RSa_up L (by omega) h.2⟩
theorem RS.push {K : cp_K} {r : Nat} {L : List Int32} {x : Int32} (h : RS K r L) : RS (kpush K r x) r (x :: L) := by
  refine ⟨by rw [kpush_sz, if_pos rfl, h.1]; rfl, ?_⟩
  rw [kpush_at, if_pos rfl]
  refine ⟨by rw [h.1, va_up_at], RSa_up L (by rw [h.1]; exact Nat.le_refl _) h.2⟩
theorem RS.pop {K : cp_K} {r : Nat} {L : List Int32} {x : Int32} (h : RS K r (x :: L)) : RS (kpop K r) r L ∧ rtop K r = x := by
  have h1 := h.1
  rw [List.length_cons] at h1
  refine ⟨⟨by rw [kpop_sz, if_pos rfl, h1]; rfl, by rw [kpop_at]; exact h.2.2⟩, ?_⟩
  unfold rtop
  rw [if_neg (by omega), h1, Nat.add_sub_cancel]
  exact h.2.1
theorem RS.nil {K : cp_K} {r : Nat} (hs : rsz K r < 2 ^ 31) : RS (kcut K r 0) r [] := ⟨by rw [show (0 : Int32) = nI 0 from rfl, kcut_sz (Nat.zero_le _) hs, if_pos rfl]; rfl, trivial⟩
def KO (K : cp_K) : Prop := ∀ r ∈ k_rows, 64 ≤ rcap K r
/-- all but the Rows rs is as it was; Rows may have grown -/
def KF (rs : List Nat) (K K' : cp_K) : Prop := K'.2.1 = K.2.1 ∧ K'.2.2.1 = K.2.2.1 ∧ (∀ q, q ∉ rs → rsz K' q = rsz K q ∧ rat K' q = rat K q) ∧ K.1.1 ≤ K'.1.1 ∧ (∀ p, p < K.1.1 → K'.1.2 p = K.1.2 p) ∧ (KO K → KO K' ∧ 64 * K'.1.1 + k_caps K ≤ 64 * K.1.1 + k_caps K')
theorem KF.refl {rs : List Nat} {K : cp_K} : KF rs K K := ⟨rfl, rfl, fun _ _ => ⟨rfl, rfl⟩, Nat.le_refl _, fun _ _ => rfl, fun h => ⟨h, Nat.le_refl _⟩⟩
theorem KF.trans {rs : List Nat} {K K1 K2 : cp_K} (h : KF rs K K1) (g : KF rs K1 K2) : KF rs K K2 := by
  obtain ⟨h1, h2, h3, h4, h5, h6⟩ := h
  obtain ⟨g1, g2, g3, g4, g5, g6⟩ := g
  refine ⟨g1.trans h1, g2.trans h2, fun q hq => ⟨(g3 q hq).1.trans (h3 q hq).1, (g3 q hq).2.trans (h3 q hq).2⟩, Nat.le_trans h4 g4, fun p hp => (g5 p (by omega)).trans (h5 p hp), fun ho => ?_⟩
  obtain ⟨a1, a2⟩ := h6 ho
  obtain ⟨b1, b2⟩ := g6 a1
  exact ⟨b1, by omega⟩
theorem KF.sub {rs rs' : List Nat} {K K' : cp_K} (h : KF rs K K') (hs : ∀ q, q ∈ rs → q ∈ rs') : KF rs' K K' := ⟨h.1, h.2.1, fun q hq => h.2.2.1 q (fun hn => hq (hs q hn)), h.2.2.2⟩
theorem KF.nd {rs : List Nat} {K K' : cp_K} {p c : Nat} (h : KF rs K K') (hp : nd K p c) : nd K' p c := ⟨hp.1, by have := hp.2.1; have := h.2.2.2.1; omega, by rw [h.2.2.2.2.1 p hp.2.1]; exact hp.2.2⟩
theorem KF.push {K : cp_K} {r : Nat} {x : Int32} (hr : r ∈ k_rows) : KF [r] K (kpush K r x) := by
  refine ⟨kpush_i, kpush_r, fun q hq => ?_, ?_, fun p hp => kpush_t hp, fun ho => ?_⟩
  · have : q ≠ r := fun e => hq (by rw [e]; exact List.mem_cons_self)
    exact ⟨by rw [kpush_sz, if_neg this], by rw [kpush_at, if_neg this]⟩
  · have := kpush_n (K := K) (r := r) (x := x); omega
  · have hcr := ho r hr
    by_cases hc : rsz K r = rcap K r
    · have e : kpush K r x = ((K.1.1 + 1, va_up K.1.2 K.1.1 (100 + r)), K.2.1, K.2.2.1, va_up K.2.2.2 r (rsz K r + 1, 2 * rcap K r, va_up (rat K r) (rsz K r) x)) := by unfold kpush; rw [if_pos hc]
      have ec := k_caps_W (K := K) (K' := kpush K r x) (s := rsz K r + 1) (f := va_up (rat K r) (rsz K r) x) hr (by rw [e])
      refine ⟨fun q hq => ?_, ?_⟩
      · have hq1 := ho q hq
        rw [e]
        unfold rcap
        by_cases h : q = r
        · subst h; simp only [va_up_at]; unfold rcap at hcr; omega
        · simp only [cp_up_ne h]; exact hq1
      · rw [ec]
        have : (kpush K r x).1.1 = K.1.1 + 1 := by rw [e]
        omega
    · have e : kpush K r x = kS K r (rsz K r + 1, rcap K r, va_up (rat K r) (rsz K r) x) := by unfold kpush; rw [if_neg hc]
      refine ⟨fun q hq => ?_, ?_⟩
      · have hq1 := ho q hq
        rw [e]
        unfold rcap kS
        by_cases h : q = r
        · subst h; simp only [va_up_at]; exact hcr
        · simp only [cp_up_ne h]; exact hq1
      · rw [e, k_caps_S]; exact Nat.le_refl _
theorem kS_KF {K : cp_K} {r s : Nat} {g : Nat → Int32} : KF [r] K (kS K r (s, rcap K r, g)) := by
  refine ⟨rfl, rfl, fun q hq => ?_, Nat.le_refl _, fun p _ => rfl, fun ho => ⟨fun q hq => ?_, by rw [k_caps_S]; exact Nat.le_refl _⟩⟩
  · have : q ≠ r := fun e => hq (by rw [e]; exact List.mem_cons_self)
    unfold rsz rat kS
    simp only [cp_up_ne this]
    exact ⟨trivial, trivial⟩
  · have hq1 := ho q hq
    unfold rcap kS
    by_cases h : q = r
    · subst h; simp only [va_up_at]; exact hq1
    · simp only [cp_up_ne h]; exact hq1
theorem KF.pop {K : cp_K} {r : Nat} : KF [r] K (kpop K r) := by unfold kpop; split; exact KF.refl; exact kS_KF
theorem KF.cut {K : cp_K} {r : Nat} {i : Int32} : KF [r] K (kcut K r i) := by unfold kcut; split; exact KF.refl; exact kS_KF
theorem KF.set {K : cp_K} {r : Nat} {i x : Int32} : KF [r] K (kset K r i x) := by unfold kset; split; exact KF.refl; exact kS_KF
/-- what the reference still has to walk through -/
def ws (b : Nat → Int32) : Nat → Nat → List Int32
  | _, 0 => []
  | t, n + 1 => b t :: ws b (t + 1) n
def WP (a : Nat → Nat → Int32) : Nat → List Int32 → Prop
  | 0, L => L = []
  | d + 1, L => ∃ r m t k L', r < 6000 ∧ a 61 d = nI r ∧ a 62 d = nI k ∧ a 55 r = nI m ∧ (0 < m → a 54 r = nI t ∧ t + m ≤ 6000) ∧ k ≤ m ∧ m ≤ 6 ∧ L = ws (a 56) (t + k) (m - k) ++ L' ∧ WP a d L'
theorem WP_congr {a b : Nat → Nat → Int32} (e4 : b 54 = a 54) (e5 : b 55 = a 55) (e6 : b 56 = a 56) : ∀ (d : Nat) (L : List Int32), (∀ i, i < d → b 61 i = a 61 i ∧ b 62 i = a 62 i) → WP a d L → WP b d L
  | 0, _, _, h => h
  | d + 1, L, he, h => by
    obtain ⟨r, m, t, k, L', h1, h2, h3, h4, h5, h6, h7, h8, h9⟩ := h
    exact ⟨r, m, t, k, L', h1, by rw [(he d (by omega)).1]; exact h2, by rw [(he d (by omega)).2]; exact h3, by rw [e5]; exact h4, by rw [e4]; exact h5, h6, h7, by rw [e6]; exact h8, WP_congr e4 e5 e6 d L' (fun i hi => he i (by omega)) h9⟩
def FW (S S' : cp_S) : Prop := S'.1 = S.1 ∧ ∀ p, p ≠ 61 → p ≠ 62 → S'.2 p = S.2 p
theorem FW.refl {S : cp_S} : FW S S := ⟨rfl, fun _ _ _ => rfl⟩
theorem FW.trans {S S1 S2 : cp_S} (h : FW S S1) (g : FW S1 S2) : FW S S2 := ⟨g.1.trans h.1, fun p h1 h2 => (g.2 p h1 h2).trans (h.2 p h1 h2)⟩
theorem fur {S : cp_S} {x : Int32} : ∀ (d : Nat) (L : List Int32), WP S.2 d L → d ≤ 208 →
    (L = [] → JJ 1 m_M_further (some (.int 0)) S 2 [(1, .int x), (2, .int (nI d))] S) ∧
    (∀ r L' s, L = r :: L' → MC 0 m_M_seen [.int r] S (some (.int s)) S → ∃ e S', e ≤ d ∧ JJ 1 m_M_further (some (.int (nI (e + 1)))) S' 2 [(1, .int x), (2, .int (nI d))] S ∧ FW S S' ∧ S'.2 61 e = s ∧ S'.2 62 e = 0 ∧ WP S'.2 e L')
  | 0, L, h, hd => by
    refine ⟨fun _ => b_M_further_2 ⟨fun _ => b_M_further_36 ⟨fun hn => absurd rfl hn, fun _ => ⟨rfl, rfl⟩⟩, fun hn => absurd (by decide) hn⟩, fun r L' s e => ?_⟩
    rw [show L = [] from h] at e
    cases e
  | d + 1, L, h, hd => by
    obtain ⟨r0, m, t, k, L0, h1, h2, h3, h4, h5, h6, h7, h8, h9⟩ := h
    have hx : ¬ nI (d + 1) ≤ 0 := nI_nle (by omega) (by omega)
    have ex : nI (d + 1) - 1 = nI d := nI_pred d
    have ed : (nI d).toNatClampNeg = d := nI_clamp (by omega)
    have er : (nI r0).toNatClampNeg = r0 := nI_clamp (by omega)
    have b1 : vp_in (nI d) (cp_ml 62) := vp_in_nI (show d < 210 by omega) (by decide)
    have b2 : vp_in (nI d) (cp_ml 61) := vp_in_nI (show d < 210 by omega) (by decide)
    have b3 : vp_in (nI r0) (cp_ml 55) := vp_in_nI (show r0 < 6000 by omega) (by decide)
    by_cases hk : k = m
    · subst hk
      rw [Nat.sub_self] at h8
      have h8' : L = L0 := h8
      subst h8'
      obtain ⟨i1, i2⟩ := fur (x := x) d L h9 (by omega)
      have go : ∀ (o : Option Value) (S' : cp_S), JJ 1 m_M_further o S' 2 [(1, .int x), (2, .int (nI d))] S → JJ 1 m_M_further o S' 2 [(1, .int x), (2, .int (nI (d + 1)))] S := by
        intro o S' w
        refine b_M_further_2 ⟨fun hn => absurd hn hx, fun _ => ?_⟩
        rw [ex, ed, h2, er, h3, h4]
        refine ⟨b1, b2, b3, fun hn => absurd rfl hn, fun _ => ?_⟩
        rw [pk_m1]
        exact w
      refine ⟨fun e => go _ _ (i1 e), fun r L' s e q3 => ?_⟩
      obtain ⟨e0, S', g1, g2, g3, g4, g5, g6⟩ := i2 r L' s e q3
      exact ⟨e0, S', by omega, go _ _ g2, g3, g4, g5, g6⟩
    · obtain ⟨n1, hn1⟩ : ∃ n1, m - k = n1 + 1 := ⟨m - k - 1, by omega⟩
      rw [hn1] at h8
      have h8' : L = S.2 56 (t + k) :: (ws (S.2 56) (t + k + 1) n1 ++ L0) := h8
      obtain ⟨h51, h52⟩ := h5 (by omega)
      refine ⟨fun e => absurd (h8'.symm.trans e) (by simp), fun r L' s e q3 => ?_⟩
      rw [h8'] at e
      obtain ⟨e1, e2⟩ := List.cons.inj e
      have hcell : S.2 56 (t + k) = r := e1
      have ek : (nI k).toNatClampNeg = k := nI_clamp (by omega)
      have etk : nI t + nI k = nI (t + k) := nI_add t k
      have etk2 : (nI (t + k)).toNatClampNeg = t + k := nI_clamp (by omega)
      have ed1 : (nI (d + 1)).toNatClampNeg = d + 1 := nI_clamp (by omega)
      refine ⟨d + 1, (S.1, va_up (va_up (va_up S.2 61 (upd (S.2 61) (d + 1) s)) 62 (upd (S.2 62) (d + 1) 0)) 62 (upd (upd (S.2 62) (d + 1) 0) d (nI (k + 1)))), Nat.le_refl _, ?_, ⟨rfl, fun p p1 p2 => by simp only [cp_up_ne p1, cp_up_ne p2]⟩, ?_, ?_, ?_⟩
      · refine b_M_further_2 ⟨fun hn => absurd hn hx, fun _ => ?_⟩
        rw [ex, ed, h2, er, h3, h4]
        refine ⟨b1, b2, b3, fun _ => ?_, fun hn => absurd ((nI_eq (by omega) (by omega)).mp hn) hk⟩
        refine b_M_further_36 ⟨fun _ => ?_, fun hn => absurd hn (nI_ne0 (by omega) (by omega))⟩
        rw [ex, ed, h2, er, h3, h51, etk, etk2, hcell, ed1]
        refine ⟨b2, vp_in_nI (show r0 < 6000 by omega) (by decide), b1, vp_in_nI (show t + k < 6000 by omega) (by decide), s, S, q3, vp_in_nI (show d + 1 < 210 by omega) (by decide), vp_in_nI (show d + 1 < 210 by omega) (by decide), b1, b1, by rw [nI_1], ?_⟩
        rw [pk_un (show d ≠ d + 1 by omega), h3, nI_1]
      · simp only [cp_up_ne (show (61 : Nat) ≠ 62 by decide), va_up_at, pk_us]
      · simp only [va_up_at]
        rw [pk_un (by omega), pk_us]
      · refine ⟨r0, m, t, k + 1, L0, h1, ?_, ?_, ?_, ?_, by omega, h7, ?_, ?_⟩
        · simp only [cp_up_ne (show (61 : Nat) ≠ 62 by decide), va_up_at]
          rw [pk_un (by omega)]
          exact h2
        · simp only [va_up_at, pk_us]
        · simp only [cp_up_ne (show (55 : Nat) ≠ 62 by decide), cp_up_ne (show (55 : Nat) ≠ 61 by decide)]
          exact h4
        · intro _
          simp only [cp_up_ne (show (54 : Nat) ≠ 62 by decide), cp_up_ne (show (54 : Nat) ≠ 61 by decide)]
          exact ⟨h51, h52⟩
        · rw [← e2]
          simp only [cp_up_ne (show (56 : Nat) ≠ 62 by decide), cp_up_ne (show (56 : Nat) ≠ 61 by decide)]
          rw [show m - (k + 1) = n1 by omega, Nat.add_assoc]
        · refine WP_congr ?_ ?_ ?_ d L0 (fun i hi => ⟨?_, ?_⟩) h9
          · simp only [cp_up_ne (show (54 : Nat) ≠ 62 by decide), cp_up_ne (show (54 : Nat) ≠ 61 by decide)]
          · simp only [cp_up_ne (show (55 : Nat) ≠ 62 by decide), cp_up_ne (show (55 : Nat) ≠ 61 by decide)]
          · simp only [cp_up_ne (show (56 : Nat) ≠ 62 by decide), cp_up_ne (show (56 : Nat) ≠ 61 by decide)]
          · simp only [cp_up_ne (show (61 : Nat) ≠ 62 by decide), va_up_at]
            rw [pk_un (by omega)]
          · simp only [va_up_at]
            rw [pk_un (by omega), pk_un (by omega)]
