/-! ===== types: simple terms; what a wrong leaves ===== -/
/-- the type: x of the class, ts of the reference -/
def TYR (K : cp_K) (ρ : Nat → Nat → Prop) (x : Nat) (ts : Int32) : Prop := (ts = -2 ∧ rat K 7 x = 3 ∧ rat K 7 (x + 2) = 0 ∧ x + 3 ≤ rsz K 7) ∨ ∃ r, ts = nI r ∧ ρ x r
/-- a wrong was found -/
def BDQ (K : cp_K) (S : cp_S) (K' : cp_K) (S' : cp_S) : Prop := KX K K' ∧ SX 1 S S' ∧ (K.2.1 23 4 = S.1 60 → K'.2.1 23 4 = S'.1 60) ∧ S'.1 59 = K'.2.1 24 6 ∧ (∃ w, w < 100 ∧ S'.1 59 = nI w) ∧ rsz K' 7 ≤ 1046000 ∧ rsz K' 9 < 16000 ∧ rsz K' 11 < 16000 ∧ ∃ n, n ≤ 10000 ∧ BS K' n
theorem SX.le {lev lev' : Nat} {S S' : cp_S} (h : SX lev S S') (hl : lev' ≤ lev) : SX lev' S S' := ⟨h.1, h.2.1, fun x hx => h.2.2.1 x (by omega), fun p p1 p2 x hx => h.2.2.2 p p1 p2 x (by omega)⟩
theorem BIS.n3 {f : Nat → Int32} {N nv nc v r : Nat} {a : Nat → Nat → Int32} {ρ : Nat → Nat → Prop} (h : BIS f N a nv nc ρ) (q : ρ v r) : ¬ f v = 3 := by
  rcases (h.1 v r q).2.2 with z | z | z | z | z <;> (rw [z.1]; decide)
section CPSM
variable {ar : Nat → Nat} {rf : Nat} {pl : Nat → Nat → Prop} {lev n n' nE : Nat} {K K1 K2 : cp_K} {S S1 S2 : cp_S} {ρ ρ1 : Nat → Nat → Prop} {nv nc nv1 nc1 : Nat} {hl hl1 : List Nat} {C C1 F F1 : Nat} {L L1 : Nat → Nat → Nat → Nat → Prop}
theorem BDQ.pre (g : TPO ar rf pl lev n n' K S ρ nv nc hl C F L K1 S1 ρ1 nv1 nc1 hl1 C1 F1 L1) (hl : 1 ≤ lev) (h : BDQ K1 S1 K2 S2) : BDQ K S K2 S2 := by
  obtain ⟨-, -, -, g1, g2, g3, -⟩ := g
  obtain ⟨h1, h2, h3, h4⟩ := h
  exact ⟨g2.trans h1, (g3.le hl).trans h2 (Nat.le_refl _), fun q => h3 (g1.1 q), h4⟩
theorem BDQ.of {y : Int32} (g : TPO ar rf pl lev n n' K S ρ nv nc hl C F L K1 S1 ρ1 nv1 nc1 hl1 C1 F1 L1) (hl : 1 ≤ lev) (hn : n' ≤ 10000) (h7 : rsz K1 7 ≤ 1046000) (hy : ∃ w, w < 100 ∧ y = nI w) : BDQ K S (kI K1 24 6 y) (va_up S1.1 59 y, S1.2) := by
  obtain ⟨⟨⟨-, -, h9, h11⟩, -⟩, -, -, g1, g2, g3, g4, -⟩ := g
  refine ⟨g2.trans (KX.put (Or.inr ⟨rfl, by decide, by decide⟩)), ⟨fun k hk => ?_, (g3.le hl).2⟩, fun q => ?_, ?_, ?_, h7, h9, h11, n', hn, g4⟩
  · show va_up S1.1 59 y k = _
    rw [cp_up_ne (fun e => hk (by rw [e]; decide))]
    exact g3.1 k hk
  · show (kI K1 24 6 y).2.1 23 4 = va_up S1.1 59 y 60
    rw [kI_i, cp_up_ne (by decide), cp_up_ne (by decide)]
    exact g1.1 q
  · show va_up S1.1 59 y 59 = (kI K1 24 6 y).2.1 24 6
    rw [kI_i, va_up_at, va_up_at, va_up_at]
  · show ∃ w, w < 100 ∧ va_up S1.1 59 y 59 = nI w
    rw [va_up_at]; exact hy
theorem TST.refl (st : TST ar rf pl nE n K S ρ nv nc hl C F L) : TPO ar rf pl lev n n K S ρ nv nc hl C F L K S ρ nv nc hl C F L := by
  obtain ⟨⟨h1, h2, h3, h4⟩, -, -, -, -, hB, -⟩ := st
  exact TPO.ev h3 h4 h1.1.2.1 h2 h1 (fun _ _ q => q) KX.refl rfl hB (fun _ _ _ _ => rfl) (Nat.le_refl _) (fun _ _ => rfl) (fun _ _ => rfl) (fun _ _ => rfl) (fun _ _ => rfl) (fun _ _ _ _ _ => rfl) (fun _ _ _ _ _ => rfl) (fun _ _ => rfl)
/-- a simple term on both sides -/
theorem simp_m {k p a j : Nat} (st : TST ar rf pl nE n K S ρ nv nc hl C F L) (ht : TR K S.2 pl (k + 1) p a j) (h5 : ¬ S.2 39 a = 5) (ha : a < 2720) (hn : n < 10000) (h7 : rsz K 7 < 1040000) (hnv : nv + 1 < 6000) (hlv : 1 ≤ lev) : j = a + 1 ∧
    ∃ (ok : Bool) (K1 : cp_K) (S1 : cp_S) (ρ1 : Nat → Nat → Prop) (nv1 x v : Nat) (ts : Int32), (ok = true → KC 9 m_T_typeOf (fun G => [.ref (cp_b G + 24), va_rf (kr G p)]) K (fun _ => some (.int (nI x))) K1 ∧ MC 1 m_M_simple [.int (nI a)] S (some (.int ts)) S1 ∧ ¬ ts = -1 ∧ TYR K1 ρ1 x ts ∧ x < rsz K1 7 ∧ TPO ar rf pl lev n n K S ρ nv nc hl C F L K1 S1 ρ1 nv1 nc hl C F L ∧ K1.2.1 24 7 = nI v ∧ v < 2 ^ 31 ∧ CTX K1 hl nE L (k + 1) p v ∧ VAL S1 ar L a (a + 1) ∧ (nv ≤ nv1 ∧ nv1 ≤ nv + 1 ∧ rsz K1 7 ≤ rsz K 7 + 6) ∧ ∀ p, (p < 52 ∨ 57 < p) → S1.2 p = S.2 p) ∧
      (ok = false → KC 9 m_T_typeOf (fun G => [.ref (cp_b G + 24), va_rf (kr G p)]) K (fun _ => some (.int (-1))) K1 ∧ MC 1 m_M_simple [.int (nI a)] S (some (.int (-1))) S1 ∧ BDQ K S K1 S1) := by
  have T0 : TPO ar rf pl lev n n K S ρ nv nc hl C F L K S ρ nv nc hl C F L := st.refl
  obtain ⟨⟨⟨⟨V, hh, hA⟩, ⟨h35, h40⟩, h9, h11⟩, h42, hs, hd4⟩, hF, nm, -, ⟨p20, plf, -⟩, hB, hnE, h245, -⟩ := id st
  obtain ⟨n0, hpl, ht⟩ := ht
  obtain ⟨f1, f2, f3, f4, f5⟩ := plf p a hpl
  have va : vp_in (nI a) (cp_ml 39) := vp_in_nI (show a < 2720 by omega) (by decide)
  have vr : vp_in (nI (a - rf)) (cp_ml 42) := vp_in_nI (show a - rf < 82 by omega) (by decide)
  have wr : MC 0 m_M_wrong [.int (S.2 42 (a - rf))] S (some (.int (-1))) (va_up S.1 59 (S.2 42 (a - rf)), S.2) := c_M_wrong (b_M_wrong_0 ⟨rfl, rfl⟩)
  have bd : BDQ K S (kI K 24 6 (K.2.1 p 2)) (va_up S.1 59 (S.2 42 (a - rf)), S.2) := by rw [f5]; exact BDQ.of T0 hlv (by omega) (by omega) f3.2
  have hne : ∀ {x c c' : Int32} {P : Prop}, x = c → c ≠ c' → x = c' → P := fun {_ _ _ _} h1 h2 h3 => absurd (Eq.trans (Eq.symm h1) h3) h2
  rcases ht with ⟨t1, t2, ⟨c, tc, t3, t4⟩, t5⟩ | ⟨t1, t2, t3, t5⟩ | ⟨t1, t2, t3, t5⟩ | ⟨t1, t2, t5⟩ | t
  · -- a variable
    have vcc : vp_in (nI c) (cp_ml 64) := vp_in_nI (show c < 26 by omega) (by decide)
    refine ⟨t5, ?_⟩
    rcases nm c tc with ⟨q1, q2⟩ | ⟨ix, v, r, tv, tr, z1, z2, z3, z4, z5, z6, z7, z8, z9, z10, z11⟩
    · refine ⟨false, kI K 24 6 (K.2.1 p 2), _, ρ, nv, 0, 0, 0, fun h => (by cases h), fun _ => ⟨c_T_typeOf (D := 1) ⟨n0, fun e => hne t1 (by decide) e, fun e => hne t1 (by decide) e, fun e => hne t1 (by decide) e, fun e => hne t1 (by decide) e, fun _ => ⟨-1, _, c_T_typeOfVariable (D := 0) ⟨n0, -1, K, ?_, fun hn => absurd rfl hn, fun _ => ⟨n0, rfl, rfl⟩⟩, rfl, rfl⟩, fun e => hne t1 (by decide) e, fun e => absurd t1 (e 5 (by decide))⟩, c_M_simple (b_M_simple_0 ?_), bd⟩⟩
      · rw [t3, h245, show (0 : Int32) = nI 0 from rfl]
        exact (K_indexOf0 (by rw [hB.1]; exact hnE) (by rw [hB.1]; omega) (by omega) (fun i _ hi => q2 i hi)).mono (by omega)
      · unfold wp_M_simple_0
        rw [nI_clamp (show a < 2 ^ 31 by omega), t2, t4, nI_clamp (show c < 2 ^ 31 by omega), q1, p20, pk_sub f1, nI_clamp (show a - rf < 2 ^ 31 by omega)]
        exact ⟨va, fun _ => ⟨va, fun _ => ⟨va, fun hn => absurd rfl hn, fun _ => ⟨va, vcc, fun hn => absurd rfl hn, fun _ => ⟨vr, -1, _, wr, rfl, rfl⟩⟩⟩, fun e => absurd e (by decide)⟩, fun e => absurd e (by decide)⟩
    · have zi := z1.2.1
      refine ⟨true, kI K 24 7 (nI v), S, ρ, nv, tv, v, nI tr, fun _ => ⟨c_T_typeOf (D := 1) ⟨n0, fun e => hne t1 (by decide) e, fun e => hne t1 (by decide) e, fun e => hne t1 (by decide) e, fun e => hne t1 (by decide) e, fun _ => ⟨nI tv, _, c_T_typeOfVariable (D := 0) ⟨n0, nI ix, K, ?_, fun _ => ⟨?_, ?_⟩, fun hn => absurd hn (nI_m1 (by omega))⟩, rfl, rfl⟩, fun e => hne t1 (by decide) e, fun e => absurd t1 (e 5 (by decide))⟩, c_M_simple (b_M_simple_0 ?_), nI_m1 z9, Or.inr ⟨tr, rfl, z11⟩, ?_, ?_, ?_, z3, ?_, ?_, ⟨Nat.le_refl _, by omega, by show rsz K 7 ≤ _; omega⟩, fun _ _ => rfl⟩, fun h => (by cases h)⟩
      · rw [t3, h245, show (0 : Int32) = nI 0 from rfl]
        exact (K_indexOf z1 (by rw [hB.1]; exact hnE) (by rw [hB.1]; omega)).mono (by omega)
      · have : rget (kI K 24 7 (rget K 17 (nI ix))) 19 (nI ix) = nI tv := by
          rw [rget_of (by show ix < rsz K 19; rw [hB.2.2]; omega) (by show rsz K 19 < _; rw [hB.2.2]; omega)]
          exact z4
        rw [this]
      · rw [rget_of (by rw [hB.2.1]; omega) (by rw [hB.2.1]; omega), z2]
      · unfold wp_M_simple_0
        rw [nI_clamp (show a < 2 ^ 31 by omega), t2, t4, nI_clamp (show c < 2 ^ 31 by omega), z8]
        exact ⟨va, fun _ => ⟨va, fun _ => ⟨va, fun hn => absurd rfl hn, fun _ => ⟨va, vcc, fun _ => ⟨rfl, rfl⟩, fun hn => absurd hn (nI_m1 z9)⟩⟩, fun e => absurd e (by decide)⟩, fun e => absurd e (by decide)⟩
      · have := (V.1.1 _ _ z11).1
        show tv < rsz K 7
        omega
      · exact TPO.ev hs hd4 hh h42 ⟨⟨V, hh, hA⟩, ⟨h35, h40⟩, h9, h11⟩ (fun _ _ q => q) (KX.put (Or.inr ⟨rfl, by decide, by decide⟩)) (by rw [kI_i, cp_up_ne (by decide)]) hB (fun _ _ _ _ => rfl) (Nat.le_refl _) (fun _ _ => rfl) (fun _ _ => rfl) (fun _ _ => rfl) (fun _ _ => rfl) (fun _ _ _ _ _ => rfl) (fun _ _ _ _ _ => rfl) (fun _ _ => rfl)
      · rw [kI_i, va_up_at, va_up_at]
      · have e0 : ∀ y, (kI K 24 7 (nI v)).2.1 p y = K.2.1 p y := fun y => by rw [kI_i, cp_up_ne (by have := n0.1; omega)]
        exact Or.inl ⟨by rw [e0]; exact t1, c, tc, by rw [e0]; exact t3, tc, z3, ix, z1, z2⟩
      · intro x x1 x2
        have : x = a := by omega
        subst this
        refine ⟨fun c' _ e2 hc' => ?_, fun e => hne t2 (by decide) e, fun _ _ e => hne t2 (by decide) e⟩
        have : c' = c := (nI_eq (by omega) (by omega)).mp (e2.symm.trans t4)
        rw [this, z8]
        exact nI_m1 z9
  · -- a number
    refine ⟨t5, ?_⟩
    obtain ⟨Ka, hKa⟩ : ∃ Ka : cp_K, Ka = kI (mks K 1 (K.2.1 p 1)) 24 7 (nI (rsz K 7)) := ⟨_, rfl⟩
    have ka7 : rsz Ka 7 = rsz K 7 + 3 := by rw [hKa]; show rsz (mks K 1 (K.2.1 p 1)) 7 = _; rw [mks_sz, if_pos rfl]
    have ra7 : rat Ka 7 = va_up (va_up (va_up (rat K 7) (rsz K 7) 1) (rsz K 7 + 1) (K.2.1 p 1)) (rsz K 7 + 2) 0 := by rw [hKa]; exact mks_at
    have k17 : rsz (mks Ka 2 0) 7 = rsz K 7 + 6 := by rw [mks_sz, if_pos rfl, ka7]
    have r17 : rat (mks Ka 2 0) 7 = va_up (va_up (va_up (rat Ka 7) (rsz K 7 + 3) 2) (rsz K 7 + 3 + 1) 0) (rsz K 7 + 3 + 2) 0 := by rw [mks_at, ka7]
    have lo : ∀ x, x < rsz K 7 → rat (mks Ka 2 0) 7 x = rat K 7 x := fun x hx => by rw [r17, cp_up_ne (by omega), cp_up_ne (by omega), cp_up_ne (by omega), ra7, cp_up_ne (by omega), cp_up_ne (by omega), cp_up_ne (by omega)]
    have kx : KX K (mks Ka 2 0) := ((KX.of (KF.mks (x := 1) (y := K.2.1 p 1)) (by decide)).trans (by rw [hKa]; exact KX.put (Or.inr ⟨rfl, by decide, by decide⟩))).trans (KX.of KF.mks (by decide))
    have ki : ∀ y, (mks Ka 2 0).2.1 p y = K.2.1 p y := fun y => by rw [kx.nk.1 p y n0.1]
    have ro : ∀ q, q ≠ 7 → rsz (mks Ka 2 0) q = rsz K q ∧ rat (mks Ka 2 0) q = rat K q := fun q hq => by
      refine ⟨?_, ?_⟩
      · rw [mks_sz, if_neg hq, hKa]; show rsz (mks K 1 (K.2.1 p 1)) q = _; rw [mks_sz, if_neg hq]
      · rw [mks_at_ne hq, hKa]; exact mks_at_ne hq
    have w0 : rat (mks Ka 2 0) 7 (rsz K 7 + 3) = 2 ∧ rat (mks Ka 2 0) 7 (rsz K 7 + 3 + 1) = 0 ∧ rat (mks Ka 2 0) 7 (rsz K 7 + 3 + 2) = 0 := by
      rw [r17]
      refine ⟨?_, ?_, ?_⟩
      · rw [cp_up_ne (by omega), cp_up_ne (by omega), va_up_at]
      · rw [cp_up_ne (by omega), va_up_at]
      · rw [va_up_at]
    have w1 : rat (mks Ka 2 0) 7 (rsz K 7) = 1 ∧ rat (mks Ka 2 0) 7 (rsz K 7 + 1) = K.2.1 p 1 ∧ rat (mks Ka 2 0) 7 (rsz K 7 + 2) = 0 := by
      rw [r17]
      refine ⟨?_, ?_, ?_⟩
      · rw [cp_up_ne (by omega), cp_up_ne (by omega), cp_up_ne (by omega), ra7, cp_up_ne (by omega), cp_up_ne (by omega), va_up_at]
      · rw [cp_up_ne (by omega), cp_up_ne (by omega), cp_up_ne (by omega), ra7, cp_up_ne (by omega), va_up_at]
      · rw [cp_up_ne (by omega), cp_up_ne (by omega), cp_up_ne (by omega), ra7, va_up_at]
    have e3 : ext (rat (mks Ka 2 0) 7) (rsz K 7 + 3) = rsz K 7 + 6 := by unfold ext; rw [w0.2.2]; show rsz K 7 + 3 + 3 + 0 = _; omega
    have e1 : ext (rat (mks Ka 2 0) 7) (rsz K 7) = rsz K 7 + 3 := by unfold ext; rw [w1.2.2]; rfl
    have V1 : VI (rat (mks Ka 2 0) 7) (rsz (mks Ka 2 0) 7) (nvl S nv 1 0).2 (nv + 1) nc ρ hl C := V.grow hh lo (by omega) (by omega) (fun q q1 q2 r hr => nvl_lo hr q1 q2) (fun t _ => by rw [nvl_2 (by omega)]) (by omega) (by omega) (Nat.le_refl _) V.2.2.2.2.2.2.1
    have na := nvl_at (S := S) (nv := nv) (x := 1) (z := 0)
    have V2 := V1.add (v := rsz K 7 + 3) (r := nv) (by omega) (by omega) (Or.inr (Or.inl ⟨w0.1, na.1, w0.2.1, na.2.1, w0.2.2, na.2.2.2⟩)) (by rw [w0.1]; decide) (by rw [w0.1]; decide) (fun h hm => Or.inr (Or.inl (by have := hh h hm; omega)))
    have A1 : AR ar (rat (mks Ka 2 0) 7) (fun x y => ρ x y ∨ (x = rsz K 7 + 3 ∧ y = nv)) := ⟨fun x y l m q1 q2 => by
      rcases q1 with q1 | ⟨rfl, rfl⟩
      · exact (AR.up V hA lo).1 x y l m q1 q2
      · rw [w0.1] at q2; exact absurd q2 (by decide), fun x y q1 q2 => by
      rcases q1 with q1 | ⟨rfl, rfl⟩
      · exact (AR.up V hA lo).2 x y q1 q2
      · rw [w0.1] at q2; exact absurd q2 (by decide)⟩
    refine ⟨true, mks Ka 2 0, nvl S nv 1 0, fun x y => ρ x y ∨ (x = rsz K 7 + 3 ∧ y = nv), nv + 1, rsz K 7 + 3, rsz K 7, nI nv, fun _ => ⟨c_T_typeOf (D := 1) ⟨n0, fun _ => ?_, fun e => hne t1 (by decide) e, fun e => hne t1 (by decide) e, fun e => hne t1 (by decide) e, fun e => hne t1 (by decide) e, fun e => hne t1 (by decide) e, fun e => absurd t1 (e 1 (by decide))⟩, c_M_simple (b_M_simple_0 ?_), nI_m1 (by omega), Or.inr ⟨nv, rfl, Or.inr ⟨rfl, rfl⟩⟩, by omega, ?_, ?_, by omega, ?_, ?_, ⟨by omega, Nat.le_refl _, by omega⟩, fun q hq => nvl_2 (by omega)⟩, fun h => (by cases h)⟩
    · rw [← hKa, ka7]
      exact ⟨by show rsz K 7 + 2 < 1048576; omega, by show rsz K 7 + 3 + 2 < 1048576; omega, rfl, rfl⟩
    · unfold wp_M_simple_0
      rw [nI_clamp (show a < 2 ^ 31 by omega), t2]
      exact ⟨va, fun hn => absurd rfl hn, fun _ => ⟨nI nv, _, MC_value h35 (by omega), rfl, rfl⟩⟩
    · refine TPO.ev hs hd4 hh h42 ⟨⟨V2, fun h hm => by have := hh h hm; omega, A1⟩, ⟨nvl_35, by rw [nvl_1 (by decide)]; exact h40⟩, by rw [(ro 9 (by decide)).1]; exact h9, by rw [(ro 11 (by decide)).1]; exact h11⟩ (fun _ _ q => Or.inl q) kx ?_ ⟨by rw [(ro 15 (by decide)).1]; exact hB.1, by rw [(ro 17 (by decide)).1]; exact hB.2.1, by rw [(ro 19 (by decide)).1]; exact hB.2.2⟩ (fun q hq x hx => by rw [(ro q (by omega)).2]) (by omega) lo (fun k hk => nvl_1 (fun q => hk (by rw [q]; decide))) (fun q hq => nvl_2 (by omega)) (fun x _ => by rw [nvl_2 (by omega)]) (fun q q1 q2 x _ => by rw [nvl_2 (by omega)]) (fun q q1 q2 r hr => nvl_lo hr q1 q2) (fun t _ => by rw [nvl_2 (by omega)])
      rw [mks_i, hKa, kI_i, cp_up_ne (by decide), mks_i]
    · rw [mks_i, hKa, kI_i, va_up_at, va_up_at]
    · refine Or.inr (Or.inr ⟨⟨by rw [e1]; omega, fun h hm => Or.inl (by have := hh h hm; omega)⟩, Or.inl ⟨by rw [ki]; exact t1, w1.1, by rw [ki]; exact w1.2.1, w1.2.2⟩⟩)
    · intro x x1 x2
      have : x = a := by omega
      subst this
      rw [nvl_2 (by omega)]
      exact ⟨fun c' e => hne t2 (by decide) e, fun e => hne t2 (by decide) e, fun _ _ e => hne t2 (by decide) e⟩
  · -- the type of types
    refine ⟨t5, ?_⟩
    obtain ⟨Ka, hKa⟩ : ∃ Ka : cp_K, Ka = kI (mks K (K.2.1 p 0) 0) 24 7 (nI (rsz K 7)) := ⟨_, rfl⟩
    have ka7 : rsz Ka 7 = rsz K 7 + 3 := by rw [hKa]; show rsz (mks K (K.2.1 p 0) 0) 7 = _; rw [mks_sz, if_pos rfl]
    have ra7 : rat Ka 7 = va_up (va_up (va_up (rat K 7) (rsz K 7) 2) (rsz K 7 + 1) 0) (rsz K 7 + 2) 0 := by rw [hKa, ← t1]; exact mks_at
    have k17 : rsz (mks Ka 3 0) 7 = rsz K 7 + 6 := by rw [mks_sz, if_pos rfl, ka7]
    have r17 : rat (mks Ka 3 0) 7 = va_up (va_up (va_up (rat Ka 7) (rsz K 7 + 3) 3) (rsz K 7 + 3 + 1) 0) (rsz K 7 + 3 + 2) 0 := by rw [mks_at, ka7]
    have lo : ∀ x, x < rsz K 7 → rat (mks Ka 3 0) 7 x = rat K 7 x := fun x hx => by rw [r17, cp_up_ne (by omega), cp_up_ne (by omega), cp_up_ne (by omega), ra7, cp_up_ne (by omega), cp_up_ne (by omega), cp_up_ne (by omega)]
    have kx : KX K (mks Ka 3 0) := ((KX.of (KF.mks (x := K.2.1 p 0) (y := 0)) (by decide)).trans (by rw [hKa]; exact KX.put (Or.inr ⟨rfl, by decide, by decide⟩))).trans (KX.of KF.mks (by decide))
    have ki : ∀ y, (mks Ka 3 0).2.1 p y = K.2.1 p y := fun y => by rw [kx.nk.1 p y n0.1]
    have ro : ∀ q, q ≠ 7 → rsz (mks Ka 3 0) q = rsz K q ∧ rat (mks Ka 3 0) q = rat K q := fun q hq => by
      refine ⟨?_, ?_⟩
      · rw [mks_sz, if_neg hq, hKa]; show rsz (mks K (K.2.1 p 0) 0) q = _; rw [mks_sz, if_neg hq]
      · rw [mks_at_ne hq, hKa]; exact mks_at_ne hq
    have w1 : rat (mks Ka 3 0) 7 (rsz K 7) = 2 ∧ rat (mks Ka 3 0) 7 (rsz K 7 + 1) = 0 ∧ rat (mks Ka 3 0) 7 (rsz K 7 + 2) = 0 := by
      rw [r17]
      refine ⟨?_, ?_, ?_⟩
      · rw [cp_up_ne (by omega), cp_up_ne (by omega), cp_up_ne (by omega), ra7, cp_up_ne (by omega), cp_up_ne (by omega), va_up_at]
      · rw [cp_up_ne (by omega), cp_up_ne (by omega), cp_up_ne (by omega), ra7, cp_up_ne (by omega), va_up_at]
      · rw [cp_up_ne (by omega), cp_up_ne (by omega), cp_up_ne (by omega), ra7, va_up_at]
    have e1 : ext (rat (mks Ka 3 0) 7) (rsz K 7) = rsz K 7 + 3 := by unfold ext; rw [w1.2.2]; rfl
    have V1 : VI (rat (mks Ka 3 0) 7) (rsz (mks Ka 3 0) 7) S.2 nv nc ρ hl C := V.grow hh lo (by omega) (by omega) (fun _ _ _ _ _ => rfl) (fun _ _ => rfl) (Nat.le_refl _) V.2.2.2.2.2.1 (Nat.le_refl _) V.2.2.2.2.2.2.1
    refine ⟨true, mks Ka 3 0, S, ρ, nv, rsz K 7 + 3, rsz K 7, -2, fun _ => ⟨c_T_typeOf (D := 1) ⟨n0, fun e => hne t1 (by decide) e, fun _ => ?_, fun e => hne t1 (by decide) e, fun e => hne t1 (by decide) e, fun e => hne t1 (by decide) e, fun e => hne t1 (by decide) e, fun e => absurd t1 (e 2 (by decide))⟩, c_M_simple (b_M_simple_0 ?_), by decide, Or.inl ⟨rfl, ?_, by rw [r17, va_up_at], by omega⟩, by omega, ?_, ?_, by omega, ?_, ?_, ⟨by omega, by omega, by omega⟩, fun _ _ => rfl⟩, fun h => (by cases h)⟩
    · rw [← hKa, ka7]
      exact ⟨by show rsz K 7 + 2 < 1048576; omega, by show rsz K 7 + 3 + 2 < 1048576; omega, rfl, rfl⟩
    · unfold wp_M_simple_0
      rw [nI_clamp (show a < 2 ^ 31 by omega), t2]
      exact ⟨va, fun _ => ⟨va, fun hn => absurd rfl hn, fun _ => ⟨rfl, rfl⟩⟩, fun e => absurd e (by decide)⟩
    · rw [r17, cp_up_ne (by omega), cp_up_ne (by omega), va_up_at]
    · refine TPO.ev hs hd4 hh h42 ⟨⟨V1, fun h hm => by have := hh h hm; omega, AR.up V hA lo⟩, ⟨h35, h40⟩, by rw [(ro 9 (by decide)).1]; exact h9, by rw [(ro 11 (by decide)).1]; exact h11⟩ (fun _ _ q => q) kx ?_ ⟨by rw [(ro 15 (by decide)).1]; exact hB.1, by rw [(ro 17 (by decide)).1]; exact hB.2.1, by rw [(ro 19 (by decide)).1]; exact hB.2.2⟩ (fun q hq x hx => by rw [(ro q (by omega)).2]) (by omega) lo (fun _ _ => rfl) (fun _ _ => rfl) (fun _ _ => rfl) (fun _ _ _ _ _ => rfl) (fun _ _ _ _ _ => rfl) (fun _ _ => rfl)
      rw [mks_i, hKa, kI_i, cp_up_ne (by decide), mks_i]
    · rw [mks_i, hKa, kI_i, va_up_at, va_up_at]
    · refine Or.inr (Or.inr ⟨⟨by rw [e1]; omega, fun h hm => Or.inl (by have := hh h hm; omega)⟩, Or.inr (Or.inl ⟨by rw [ki]; exact t1, w1.1, w1.2.1, w1.2.2⟩)⟩)
    · intro x x1 x2
      have : x = a := by omega
      subst this
      exact ⟨fun c' e => hne t2 (by decide) e, fun e => hne t2 (by decide) e, fun _ _ e => hne t2 (by decide) e⟩
  · -- a hole
    refine ⟨t5, false, kI K 24 6 (K.2.1 p 2), _, ρ, nv, 0, 0, 0, fun h => (by cases h), fun _ => ⟨c_T_typeOf (D := 1) ⟨n0, fun e => hne t1 (by decide) e, fun e => hne t1 (by decide) e, fun e => hne t1 (by decide) e, fun _ => ⟨rfl, rfl⟩, fun e => hne t1 (by decide) e, fun e => hne t1 (by decide) e, fun e => absurd t1 (e 4 (by decide))⟩, c_M_simple (b_M_simple_0 ?_), bd⟩⟩
    unfold wp_M_simple_0
    rw [nI_clamp (show a < 2 ^ 31 by omega), t2, p20, pk_sub f1, nI_clamp (show a - rf < 2 ^ 31 by omega)]
    exact ⟨va, fun _ => ⟨va, fun _ => ⟨va, fun _ => ⟨fun hn => absurd rfl hn, fun _ => ⟨vr, -1, _, wr, rfl, rfl⟩⟩, fun e => absurd e (by decide)⟩, fun e => absurd e (by decide)⟩, fun e => absurd e (by decide)⟩
  · exact absurd t.2.1 h5
end CPSM
