/-! ===== running: a constant is made, both sides ===== -/
theorem dfind_of {K : cp_K} {c : Nat} (hc : c < 26) : dfind K (nI (65 + c)) = K.2.2.1 4 c := by
  unfold dfind
  have e : nI (65 + c) - 65 = nI c := by rw [show (65 : Int32) = nI 65 from rfl, pk_sub (by omega)]; congr 1; omega
  rw [e, nI_clamp (by omega), if_neg]
  intro h
  rcases h with h | h
  · exact absurd h (nI_pos (by omega))
  · exact absurd h (nI_ge (a := c) (b := 26) hc (by omega))
theorem MC_call_c {S : cp_S} {e i m c nv nc : Nat} {y : Int32} (h : TOPF S e i m y) (h41 : S.2 41 i = nI m) (hm : m ≤ 6) (h40 : S.2 40 i = nI c) (hc : c < 26) (h30 : S.2 30 c = 1) (h35 : S.1 35 = nI nv) (hnv : nv < 6000) (hs40 : S.1 40 = nI nc) (hnc : nc + m ≤ 6000) :
    ∃ T : cp_S, (∀ k, k ≠ 35 → k ≠ 40 → T.1 k = S.1 k) ∧ T.1 35 = nI (nv + 1) ∧ T.1 40 = nI (nc + m) ∧ (∀ p, p < 52 ∨ 56 < p → T.2 p = S.2 p) ∧ (∀ p, 52 ≤ p → p ≤ 55 → ∀ r, r < nv → T.2 p r = S.2 p r) ∧ (T.2 52 nv = 3 ∧ T.2 53 nv = nI c ∧ T.2 54 nv = nI nc ∧ T.2 55 nv = nI m) ∧ (∀ z, z < nc → T.2 56 z = S.2 56 z) ∧ (∀ x, x < m → T.2 56 (nc + x) = S.2 75 (8 * e + x)) ∧ ∀ (big : Bool) (T2 Sx : cp_S), MC 2 m_M_isLarge [.int (nI nv)] T (some (.int (if big then 1 else 0))) T2 → (big = false → MC 0 m_M_give [.int (nI nv)] T2 none Sx) → (big = true → Sx = fld T2) → MC 3 m_M_call [.int (nI e), .int (nI i), .int (nI m)] S none Sx := by
  obtain ⟨h1, h2, h3, h4, h5, h6, h7⟩ := h
  have v39 : vp_in (nI i) (cp_ml 41) := vp_in_nI (show i < 2720 by omega) (by decide)
  obtain ⟨q0, q1, q2, q3⟩ := nvl_at (S := S) (nv := nv) (x := 3) (z := nI c)
  obtain ⟨T, t1, t2, t3, t4, t5, t6⟩ := call_cells (e := e) (m := m) (nc := nc) (x2 := nI i) (x3 := nI m) (x5 := nI c) (x6 := nI nv) h6 hm hnc m 0 ((nvl S nv 3 (nI c)).1, va_up (nvl S nv 3 (nI c)).2 55 (upd ((nvl S nv 3 (nI c)).2 55) nv (nI m))) (by omega) ((nvl_1 (S := S) (nv := nv) (x := 3) (z := nI c) (by decide)).trans hs40)
  have lo : ∀ p, 52 ≤ p → p ≤ 55 → ∀ r, T.2 p r = if p = 55 ∧ r = nv then nI m else (nvl S nv 3 (nI c)).2 p r := fun p p1 p2 r => by
    rw [t3 p (by omega)]
    by_cases hp : p = 55
    · subst hp
      show va_up (nvl S nv 3 (nI c)).2 55 (upd ((nvl S nv 3 (nI c)).2 55) nv (nI m)) 55 r = _
      rw [va_up_at]
      by_cases hr : r = nv
      · rw [if_pos ⟨rfl, hr⟩, hr, pk_us]
      · rw [pk_un hr, if_neg (fun h => hr h.2)]
    · rw [if_neg (fun h => hp h.1)]
      simp only [cp_up_ne hp]
  refine ⟨T, fun k k1 k2 => (t1 k k2).trans (nvl_1 (S := S) (nv := nv) (x := 3) (z := nI c) k1), (t1 35 (by decide)).trans (nvl_35 (S := S) (nv := nv) (x := 3) (z := nI c)), t2, fun p hp => ?_, fun p p1 p2 r hr => ?_, ⟨?_, ?_, ?_, ?_⟩, fun z hz => ?_, fun x hx => ?_, fun big T2 Sx m1 m2 m3 => ?_⟩
  · rw [t3 p (by omega)]
    simp only [cp_up_ne (show p ≠ 55 by omega)]
    exact nvl_2 (by omega)
  · rw [lo p p1 p2 r, if_neg (fun h => by omega)]
    exact nvl_lo hr p1 p2
  · rw [lo 52 (by omega) (by omega), if_neg (by omega)]; exact q0
  · rw [lo 53 (by omega) (by omega), if_neg (by omega)]; exact q1
  · rw [lo 54 (by omega) (by omega), if_neg (by omega), q2]; exact hs40
  · rw [lo 55 (by omega) (by omega), if_pos ⟨rfl, rfl⟩]
  · rw [t4 z (by omega)]
    simp only [cp_up_ne (show (56 : Nat) ≠ 55 by decide)]
    rw [nvl_2 (by omega)]
  · rw [t5 x (by omega) hx]
    simp only [cp_up_ne (show (75 : Nat) ≠ 55 by decide)]
    rw [nvl_2 (by omega)]
  · refine c_M_call (b_M_call_0 ?_)
    unfold wp_M_call_0
    rw [nI_clamp (show i < 2 ^ 31 by omega), h41, h40, nI_clamp (show c < 2 ^ 31 by omega), h30]
    refine ⟨v39, v39, fun _ => ⟨fun _ => ⟨vp_in_nI (show c < 26 by omega) (by decide), fun hn => absurd rfl hn, fun _ => ⟨nI nv, nvl S nv 3 (nI c), MC_value h35 hnv, vp_in_nI (show nv < 6000 by omega) (by decide), ?_⟩⟩, fun hn => absurd (nI_le (by omega) (by omega)) hn⟩, fun hn => absurd (nI_le (by omega) (by omega)) hn⟩
    rw [nI_clamp (show nv < 2 ^ 31 by omega)]
    refine t6 _ _ (b_M_call_98 ⟨fun _ => ⟨_, T2, m1, fun hb => ?_, fun hb => ?_⟩, fun hn => absurd (nI_le (by omega) (by omega)) hn⟩)
    · cases big with
      | false => exact ⟨Sx, m2 rfl, rfl, rfl⟩
      | true => exact absurd hb (by decide)
    · cases big with
      | false => exact absurd rfl hb
      | true => exact ⟨rfl, m3 rfl⟩
theorem AR.con {ar : Nat → Nat} {f f' : Nat → Int32} {N nv nc C nv0 c m : Nat} {a : Nat → Nat → Int32} {ρ : Nat → Nat → Prop} {hl : List Nat} (V : VI f N a nv nc ρ hl C) (h : AR ar f ρ) (hf : ∀ j, j < N → f' j = f j) (hc : c < 26) (hm : m ≤ 6) (g0 : f' N = 6) (g1 : f' (N + 1) = nI (65 + c)) (g2 : f' (N + 2) = nI m) (hm' : m = ar c) : AR ar f' (fun x y => ρ x y ∨ (x = N ∧ y = nv0)) := by
  refine ⟨?_, fun v r hv e => by
    rcases hv with hv | ⟨rfl, rfl⟩
    · have hb := (V.1.1 v r hv).1
      rw [hf v (by omega)] at e
      exact h.2 v r hv e
    · exact absurd (g0.symm.trans e) (by decide)⟩
  intro v r l mm hv e1 hl' hmm e2 e3
  rcases hv with hv | ⟨rfl, rfl⟩
  · have hb := (V.1.1 v r hv).1
    rw [hf v (by omega)] at e1
    rw [hf _ (by omega)] at e2
    rw [hf _ (by omega)] at e3
    exact h.1 v r l mm hv e1 hl' hmm e2 e3
  · rw [g1] at e2
    rw [g2] at e3
    have e4 := (nI_eq (by omega) (by omega)).mp e2
    have e5 := (nI_eq (by omega) (by omega)).mp e3
    have : c = l := by omega
    subst this
    omega
section CPWK
variable {ar : Nat → Nat} {hl : List Nat} {C : Nat} {K Kc : cp_K} {S Sc : cp_S} {ρ ρc : Nat → Nat → Prop} {nv nc nvc ncc e w wc B Bc n i frame p : Nat} {y : Int32}
theorem let_con {mm c : Nat} (h : WST ar hl C K S ρ nv nc e w B n) (hF : HF S e) (hp : nd K p 9) (hop : S.2 39 i = 5) (h41 : S.2 41 i = nI mm) (hmm : mm ≤ 6) (hc : c < 26) (hs : K.2.1 p 1 = nI (65 + c)) (h40 : S.2 40 i = nI c) (h30 : S.2 30 c = 1) (har : mm = ar c) (hd : nd K (K.2.2.1 4 c) 10 ∧ K.2.1 (K.2.2.1 4 c) 1 = 0) (hw : w < 100) (g : MID ar hl C K S ρ nv nc e w B n Kc Sc ρc nvc ncc wc Bc (n + mm) (1 + mm) i mm y 6) (hA : ARG Kc Sc ρc e n mm) :
    (∃ v r K' S2 ρ' nv' nc', JC (WD (w + 1) + 2) m_U_apply (fun _ => .inl (some (.int (nI v)))) K' 28 (LA p e frame (K.2.2.1 4 c) n 0) (fun _ => []) Kc ∧ (∀ x1 x2 o Sx, LPR x1 x2 o Sx (GIV e S2 r) → LPR x1 x2 o Sx Sc) ∧ WPO ar hl C K S ρ nv nc e w B n K' S2 ρ' nv' nc' wc n 1 0 ∧ S2.1 62 = nI (e + 1) ∧ S2.1 63 = 0 ∧ S2.1 70 = nI Bc ∧ ρ' v r ∧ v < 2 ^ 31) ∨
    (∃ K' S2 ρ' nv' nc', JC (WD (w + 1) + 2) m_U_apply (fun _ => .inl (some (.int (-1)))) K' 28 (LA p e frame (K.2.2.1 4 c) n 0) (fun _ => []) Kc ∧ (∀ x1 x2, LPR x1 x2 (some (.int (-1))) S2 Sc) ∧ WPO ar hl C K S ρ nv nc e w B n K' S2 ρ' nv' nc' wc n 0 0) := by
  have V := g.1.1.1
  have hst := MID.wst h g
  have he := g.2.1.2.2.2.2.2.1
  have hB := g.1.2.1.2.1
  have nb := h.2.2.2.2.2.2.1
  have bk := g.bk
  have nk := g.nk
  have hh : ∀ h ∈ hl, h + 3 ≤ rsz Kc 7 := hst.1.2.1
  have b7 := hst.2.2.2.2.2.2.2.2.2.1
  have wc100 := hst.2.2.2.1
  have b5 := g.1.2.2.2.1.2.2.2.1
  have b6 := g.1.2.2.2.1.2.2.2.2.2.1
  have h5 := h.2.2.2.2.2.2.2.1
  have h6 := h.2.2.2.2.2.2.2.2.1
  have w20 := WD_20 (w := w + 1)
  obtain ⟨K2, k1, k2, k3, k4, k5, k6, k7, k8⟩ := K_makeConstant (x1 := nI (65 + c)) (from0 := n) (m := mm) hB (by omega) rfl (by omega)
  obtain ⟨T, t1, t2, t3, t4, t5, ⟨t6, t7, t8, t9⟩, t10, t11, t12⟩ := MC_call_c (c := c) (nv := nvc) (nc := ncc) g.2.1 (by rw [bk 41 (by omega)]; exact h41) hmm (by rw [bk 40 (by omega)]; exact h40) hc (by rw [bk 30 (by omega)]; exact h30) g.1.2.2.1.1 (by omega) g.1.2.2.1.2.1 (by omega)
  have V1 : VI (rat K2 7) (rsz Kc 7 + 3 + mm) T.2 (nvc + 1) (ncc + mm) ρc hl C := V.grow hh k3 (by omega) (by omega) t5 t10 (by omega) (by omega) (by omega) (by omega)
  have V2 : VI (rat K2 7) (rsz Kc 7 + 3 + mm) T.2 (nvc + 1) (ncc + mm) (fun x y => ρc x y ∨ (x = rsz Kc 7 ∧ y = nvc)) hl C := V1.add (by omega) (by omega) (Or.inr (Or.inr (Or.inr (Or.inr ⟨k4, t6, c, mm, ncc, hc, hmm, k5, t7, k6, t9, t8, Nat.le_refl _, Nat.le_refl _, fun x hx => by
      obtain ⟨-, v, r, z1, z2, z3, z4⟩ := hA x hx
      exact ⟨v, r, by rw [k7 x hx]; exact z1, by rw [t11 x hx]; exact z3, z4⟩⟩)))) (by rw [k4]; decide) (by rw [k4]; decide) (fun h hm => Or.inr (Or.inl (by have := hh h hm; omega)))
  have A2 := AR.con (nv0 := nvc) V g.1.1.2.1 k3 hc hmm k4 k5 k6 har
  have kb : KF [15, 17, 19] K2 (bcut K2 (nI n)) := KF.bcut
  have e7 := kb.2.2.1 7 (by decide)
  obtain ⟨big, hit, s1, s2, -, s3⟩ := small_m V2 (v := rsz Kc 7) (r := nvc) (Or.inr ⟨rfl, rfl⟩) (hole := -1) (rh := -1) (fun u s q _ => ⟨fun q1 => absurd q1 (nI_m1 (by have := (V2.1.1 u s q).1; omega)), fun q1 => absurd q1 (nI_m1 (by have := (V2.1.1 u s q).2.1; omega))⟩)
  have hit0 : hit = false := by
    cases hit with
    | false => rfl
    | true =>
      obtain ⟨u, s, q1, q2⟩ := s3 rfl
      exact absurd q2 (nI_m1 (by have := (V2.1.1 u s q1).1; omega))
  subst hit0
  have r9 : rsz (bcut K2 (nI n)) 9 < 16000 := by
    rw [(kb.2.2.1 9 (by decide)).1, (k1.2.2.1 9 (by decide)).1]
    exact g.1.2.2.2.1.2.2.2.2.2.2.1
  obtain ⟨K5, c1, c2, c3⟩ := s1 (bcut K2 (nI n)) e7.2 (e7.1.trans k2) r9
  obtain ⟨T2, f1, f2⟩ := s2 T (fun _ _ _ => rfl)
  have kAll : KF rs6 Kc K5 := ((k1.sub (by decide)).trans (kb.sub (by decide))).trans (c1.sub (by decide))
  have hB2 : BS K2 (n + mm) := ⟨by rw [(k1.2.2.1 15 (by decide)).1]; exact hB.1, by rw [(k1.2.2.1 17 (by decide)).1]; exact hB.2.1, by rw [(k1.2.2.1 19 (by decide)).1]; exact hB.2.2⟩
  have hB3 := bcut_BS hB2 (m := n) (by omega) (by omega)
  have hB5 : BS K5 n := ⟨by rw [(c1.2.2.1 15 (by decide)).1]; exact hB3.1, by rw [(c1.2.2.1 17 (by decide)).1]; exact hB3.2.1, by rw [(c1.2.2.1 19 (by decide)).1]; exact hB3.2.2⟩
  have at5 : ∀ q, q = 7 ∨ q = 15 ∨ q = 17 ∨ q = 19 → rat K5 q = rat K2 q := fun q hq => by
    rw [(c1.2.2.1 q (by rcases hq with rfl | rfl | rfl | rfl <;> decide)).2, bcut_at]
  have z7 : rsz K5 7 = rsz Kc 7 + 3 + mm := by rw [(c1.2.2.1 7 (by decide)).1, e7.1, k2]
  have V5 : VI (rat K5 7) (rsz K5 7) T2.2 (nvc + 1) (ncc + mm) (fun x y => ρc x y ∨ (x = rsz Kc 7 ∧ y = nvc)) hl C := by
    rw [at5 7 (by omega), z7]
    exact V2.ga (fun h hm => by have := hh h hm; omega) (fun p p1 p2 => f1.2 p (by omega) (by omega))
  have W5 : WPO ar hl C K S ρ nv nc e w B n K5 T2 (fun x y => ρc x y ∨ (x = rsz Kc 7 ∧ y = nvc)) (nvc + 1) (ncc + mm) wc n 1 0 := by
    refine WPO.up (c1 := 1) (dc := mm) (u1 := 0) (du := 1) g.1 V5 (by rw [at5 7 (by omega)]; exact A2) (fun _ _ q => Or.inl q) kAll hB5 (fun q hq x hx => ?_) ⟨by omega, by omega, fun x hx => by rw [at5 7 (by omega)]; exact k3 x hx⟩ ⟨?_, ?_, ?_, ?_⟩ ⟨by omega, by omega, by omega, by omega, by omega, ?_⟩ ⟨fun k hk => ?_, fun p hp => ?_, fun p p1 p2 x hx => ?_, fun x hx => ?_, fun p p1 p2 x hx => ?_⟩ (fun p p1 p2 r hr => ?_) (fun t ht => ?_)
    · rw [at5 q (Or.inr hq), (k1.2.2.1 q (by rcases hq with rfl | rfl | rfl <;> decide)).2]
    · rw [f1.1]; exact t2
    · rw [f1.1]; exact t3
    · rw [f1.1]; exact t1 61 (by decide) (by decide)
    · rw [f1.1]; exact t1 60 (by decide) (by decide)
    · rw [(c1.2.2.1 11 (by decide)).1, (kb.2.2.1 11 (by decide)).1, (k1.2.2.1 11 (by decide)).1]; exact g.1.2.2.2.1.2.2.2.2.2.2.2
    · rw [f1.1]; exact t1 k (fun q => hk (by rw [q]; decide)) (fun q => hk (by rw [q]; decide))
    · rw [f1.2 p (by omega) (by omega)]; exact t4 p (by omega)
    · rw [f1.2 p (by omega) (by omega), t4 p (by omega)]
    · rw [f1.2 75 (by omega) (by omega), t4 75 (by omega)]
    · rw [f1.2 p (by omega) (by omega), t4 p (by omega)]
    · rw [f1.2 p (by omega) (by omega)]; exact t5 p p1 p2 r hr
    · rw [f1.2 56 (by omega) (by omega)]; exact t10 t ht
  have hd0 : ¬ K.2.2.1 4 c = 0 := by have := hd.1.1; omega
  have o5 : Sc.2 39 i = 5 := by rw [bk 39 (by omega)]; exact hop
  have s62 : T2.1 62 = nI (e + 1) := by rw [f1.1]; exact (t1 62 (by decide) (by decide)).trans g.2.1.1
  have cl : ∀ x : Int32, x = (if big then -1 else nI (rsz Kc 7)) → JC (WD (w + 1) + 2) m_U_apply (fun _ => .inl (some (.int x))) K5 28 (LA p e frame (K.2.2.1 4 c) n 0) (fun _ => []) Kc := by
    intro x hx
    have hDD : WD (w + 1) + 2 = WD (w + 1) - 6 + 8 := by omega
    rw [hDD]
    refine b_U_apply_28 ⟨fun _ => ⟨fun hn => absurd hn hd0, fun _ => ⟨nk.2.2 _ _ hd.1, fun _ => ?_, fun hn => absurd (by rw [nk.1 _ 1 hd.1.1]; exact hd.2) hn⟩⟩, fun hn => absurd rfl hn⟩
    refine b_U_apply_124 ⟨nk.2.2 _ _ hp, nI (rsz Kc 7), K2, ?_, _, K5, c3.mono (by omega), fun hb => ?_, fun hb => ?_⟩
    · rw [nk.1 p 1 hp.1, hs]; exact k8.mono (by omega)
    · cases big with
      | false => exact absurd hb (by decide)
      | true => exact ⟨by rw [hx]; rfl, rfl⟩
    · cases big with
      | false => exact ⟨by rw [hx]; rfl, rfl⟩
      | true => exact absurd rfl hb
  cases hbig : big with
  | false =>
    rw [hbig] at f2 cl
    have hF2 : HF T2 e := FRB.hf hF W5.2.2.2.2.1
    refine Or.inl ⟨rsz Kc 7, nvc, K5, T2, _, nvc + 1, ncc + mm, cl _ rfl, fun x1 x2 o Sx q => lp_call g.2.1 o5 (t12 false T2 _ f2 (fun _ => MC_GIV s62 (by omega) hF2) (fun q => by cases q)) q, W5, s62, ?_, ?_, Or.inr ⟨rfl, rfl⟩, by omega⟩
    · rw [f1.1]; exact (t1 63 (by decide) (by decide)).trans g.2.1.2.1
    · rw [f1.1]; exact (t1 70 (by decide) (by decide)).trans g.2.2.1
  | true =>
    rw [hbig] at f2 cl
    exact Or.inr ⟨K5, fld T2, _, nvc + 1, ncc + mm, cl _ rfl, fun x1 x2 => lp_call g.2.1 o5 (t12 true T2 _ f2 (fun q => by cases q) (fun _ => rfl)) (lp_fail fld_63), (W5.fld).less (by omega) (by omega)⟩
end CPWK
