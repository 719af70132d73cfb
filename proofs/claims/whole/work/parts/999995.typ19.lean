/-! ===== declarations: what stays; names are learnt ===== -/
def KY (K K' : cp_K) : Prop := ∃ I, KF rs6 (K.1, I, K.2.2) K' ∧ ∀ p, p ≠ 23 → p ≠ 24 → I p = K.2.1 p
theorem KX.ky {K K' : cp_K} (h : KX K K') : KY K K' := by
  obtain ⟨I, h1, h2, -⟩ := h
  exact ⟨I, h1, h2⟩
theorem KY.refl {K : cp_K} : KY K K := KX.refl.ky
theorem KY.put {K : cp_K} {p k : Nat} {x : Int32} (h : p = 23 ∨ p = 24) : KY K (kI K p k x) := by
  refine ⟨(kI K p k x).2.1, KF.refl, fun q q1 q2 => ?_⟩
  rw [kI_i, cp_up_ne (by omega)]
theorem KY.trans {K K1 K2 : cp_K} (h : KY K K1) (g : KY K1 K2) : KY K K2 := by
  obtain ⟨I1, h1, h2⟩ := h
  obtain ⟨I2, g1, g2⟩ := g
  have e1 : K1.2.1 = I1 := h1.1
  refine ⟨I2, ⟨g1.1, g1.2.1.trans h1.2.1, fun q hq => ⟨(g1.2.2.1 q hq).1.trans (h1.2.2.1 q hq).1, (g1.2.2.1 q hq).2.trans (h1.2.2.1 q hq).2⟩, Nat.le_trans h1.2.2.2.1 g1.2.2.2.1, fun p hp => (g1.2.2.2.2.1 p (Nat.lt_of_lt_of_le hp h1.2.2.2.1)).trans (h1.2.2.2.2.1 p hp), fun ho => ?_⟩, fun p p1 p2 => (g2 p p1 p2).trans (by rw [e1]; exact h2 p p1 p2)⟩
  obtain ⟨a1, a2⟩ := h1.2.2.2.2.2 ho
  obtain ⟨b1, b2⟩ := g1.2.2.2.2.2 a1
  refine ⟨b1, ?_⟩
  have e1 : ((K.1, I2, K.2.2) : cp_K).1.1 = ((K.1, I1, K.2.2) : cp_K).1.1 := rfl
  have e2 : k_caps ((K.1, I2, K.2.2) : cp_K) = k_caps ((K.1, I1, K.2.2) : cp_K) := rfl
  have e3 : ((K1.1, I2, K1.2.2) : cp_K).1.1 = K1.1.1 := rfl
  have e4 : k_caps ((K1.1, I2, K1.2.2) : cp_K) = k_caps K1 := rfl
  rw [e1, e2]
  rw [e3, e4] at b2
  omega
theorem KY.nk {K K' : cp_K} (h : KY K K') : NK K K' := by
  obtain ⟨I, g1, g2⟩ := h
  refine ⟨fun q k hq => ?_, g1.2.1, fun q c hq => KF.nd (K := (K.1, I, K.2.2)) g1 hq⟩
  rw [g1.1]
  show I q k = _
  rw [g2 q (by omega) (by omega)]
theorem KY.i {K K' : cp_K} (h : KY K K') {p : Nat} (h1 : p ≠ 23) (h2 : p ≠ 24) : K'.2.1 p = K.2.1 p := by
  obtain ⟨I, g1, g2⟩ := h
  rw [g1.1]
  exact g2 p h1 h2
def SY (S S' : cp_S) : Prop := (∀ k, k ∉ ([35, 40, 42, 44, 59, 60, 61, 62, 63, 64, 70] : List Nat) → S'.1 k = S.1 k) ∧ ∀ p, ((p < 43 ∨ 43 < p ∧ p < 52) ∨ 78 < p) → S'.2 p = S.2 p
theorem SY.trans {S S1 S2 : cp_S} (h : SY S S1) (g : SY S1 S2) : SY S S2 := ⟨fun k hk => (g.1 k hk).trans (h.1 k hk), fun p hp => (g.2 p hp).trans (h.2 p hp)⟩
theorem SY.bk {S S' : cp_S} (h : SY S S') : BK S.2 S'.2 := fun p hp => h.2 p (Or.inl hp)
theorem SX.sy {lev : Nat} {S S' : cp_S} (h : SX lev S S') : SY S S' := ⟨h.1, fun p hp => h.2.1 p (by omega)⟩
/-- what a declaration's look leaves as it was -/
def DFR (K : cp_K) (S : cp_S) (K' : cp_K) (S' : cp_S) : Prop := KY K K' ∧ SY S S' ∧ (K.2.1 23 4 = S.1 60 → K'.2.1 23 4 = S'.1 60)
theorem DFR.trans {K K1 K2 : cp_K} {S S1 S2 : cp_S} (h : DFR K S K1 S1) (g : DFR K1 S1 K2 S2) : DFR K S K2 S2 := ⟨h.1.trans g.1, h.2.1.trans g.2.1, fun q => g.2.2 (h.2.2 q)⟩
theorem TPO.dfr {ar : Nat → Nat} {rf : Nat} {pl : Nat → Nat → Prop} {lev n n' : Nat} {K K1 : cp_K} {S S1 : cp_S} {ρ ρ1 : Nat → Nat → Prop} {nv nc nv1 nc1 : Nat} {hl hl1 : List Nat} {C C1 F F1 : Nat} {L L1 : Nat → Nat → Nat → Nat → Prop} (g : TPO ar rf pl lev n n' K S ρ nv nc hl C F L K1 S1 ρ1 nv1 nc1 hl1 C1 F1 L1) : DFR K S K1 S1 := ⟨g.2.2.2.2.1.ky, g.2.2.2.2.2.1.sy, g.2.2.2.1.1⟩
/-- bounds behind a look -/
def BND (K : cp_K) : Prop := rsz K 7 ≤ 1046000 ∧ rsz K 9 < 16000 ∧ rsz K 11 < 16000 ∧ ∃ n, n ≤ 10000 ∧ BS K n
def BDW (K : cp_K) (S : cp_S) (K' : cp_K) (S' : cp_S) (y : Int32) : Prop := DFR K S K' S' ∧ S'.1 59 = y ∧ (∃ w, w < 100 ∧ y = nI w) ∧ BND K'
theorem BDQ.bdw {K K' : cp_K} {S S' : cp_S} (h : BDQ K S K' S') : BDW K S K' S' (K'.2.1 24 6) := by
  obtain ⟨h1, h2, h3, h4, ⟨w, h5, h6⟩, h7⟩ := h
  exact ⟨⟨h1.ky, h2.sy, h3⟩, h4, ⟨w, h5, by rw [← h4]; exact h6⟩, h7⟩
theorem BDW.pre {K K1 K2 : cp_K} {S S1 S2 : cp_S} {y : Int32} (h : DFR K S K1 S1) (g : BDW K1 S1 K2 S2 y) : BDW K S K2 S2 y := ⟨h.trans g.1, g.2⟩
section CPDE
variable {ar : Nat → Nat} {rf : Nat} {pl : Nat → Nat → Prop} {lev n n' nE : Nat} {K K1 : cp_K} {S S1 : cp_S} {ρ ρ1 : Nat → Nat → Prop} {nv nc nv1 nc1 : Nat} {hl : List Nat} {C F : Nat} {L : Nat → Nat → Nat → Nat → Prop}
theorem TPO.old (h : TPO ar rf pl lev n n' K S ρ nv nc hl C F L K1 S1 ρ1 nv1 nc1 hl C F L) (st : TVS ar hl C K S ρ nv nc) (hs : HLS S rf pl L ρ) (hv : nv ≤ nv1) (hc : nc ≤ nc1) : TPO ar rf pl lev n n' K S ρ nv nc hl C F L K1 S1 ρ nv1 nc1 hl C F L := by
  obtain ⟨⟨⟨⟨V1, hh1, hA1⟩, h35, h9⟩, h42, hs1, hd4⟩, ⟨b1, b2, b3, b4, b5, b6⟩, ⟨c1, c2, c3, c4⟩, h4, h5, h6, h7, h8⟩ := h
  obtain ⟨⟨V, hh, hA⟩, -⟩ := st
  obtain ⟨-, -, -, a4, a5, a6, a7⟩ := c4 rfl
  refine ⟨⟨⟨⟨V.grow hh a4 b3 V1.2.2.2.2.2.2.2 a5 a6 hv V1.2.2.2.2.2.1 hc V1.2.2.2.2.2.2.1, hh1, AR.up V hA a4⟩, h35, h9⟩, h42, ⟨fun p x v r w => ?_, hs.2⟩, hd4⟩, ⟨fun _ _ w => w, b2, b3, b4, b5, b6⟩, ⟨c1, c2, c3, c4⟩, h4, h5, h6, h7, h8⟩
  obtain ⟨z1, z2, z3, z4, z5, z6, z7, z8⟩ := hs.1 p x v r w
  obtain ⟨y1, y2, y3, y4, y5, y6, y7, y8⟩ := hs1.1 p x v r w
  exact ⟨z1, z2, z3, z4, y5, z6, z7, y8⟩
/-- other scalars -/
theorem TST.sc {S' : cp_S} (st : TST ar rf pl nE n K S ρ nv nc hl C F L) (e2 : S'.2 = S.2) (e1 : ∀ k, k = 35 ∨ k = 40 ∨ k = 42 ∨ k = 20 ∨ k = 58 → S'.1 k = S.1 k) : TST ar rf pl nE n K S' ρ nv nc hl C F L := by
  obtain ⟨⟨⟨h1, ⟨h35, h40⟩, h9⟩, h42, hs, hd4⟩, hF, nm, hd, hp, hB, hn, h245, h244⟩ := st
  unfold TST TVS HLS NMS PLF
  rw [e2, e1 35 (by omega), e1 40 (by omega), e1 42 (by omega), e1 20 (by omega), e1 58 (by omega)]
  exact ⟨⟨⟨h1, ⟨h35, h40⟩, h9⟩, h42, hs, hd4⟩, hF, nm, hd, hp, hB, hn, h245, h244⟩
/-- the class learns a name -/
theorem lrn_k {sym : Int32} {v : Nat} (hB : BS K n) (hn : n < 10000) (h7 : rsz K 7 < 1046000) (h24 : K.2.1 24 7 = nI v) : ∃ K3 : cp_K, KC 8 m_T_learnName (fun G => [.ref (cp_b G + 24), .int sym]) K (fun _ => none) K3 ∧ KY K K3 ∧ K3.2.1 24 4 = K.2.1 24 4 ∧ K3.2.1 24 5 = nI (n + 1) ∧ K3.2.1 23 = K.2.1 23 ∧ BS K3 (n + 1) ∧ rat K3 15 = va_up (rat K 15) n sym ∧ rat K3 17 = va_up (rat K 17) n (nI (rsz K 7)) ∧ rat K3 19 = va_up (rat K 19) n (nI v) ∧ rsz K3 7 = rsz K 7 + 3 ∧ (∀ x, x < rsz K 7 → rat K3 7 x = rat K 7 x) ∧ (rat K3 7 (rsz K 7) = 5 ∧ rat K3 7 (rsz K 7 + 1) = nI (rsz K 7) ∧ rat K3 7 (rsz K 7 + 2) = 0) ∧ rsz K3 9 = rsz K 9 ∧ rsz K3 11 = rsz K 11 := by
  have kf : KF [7] K (mks K 5 (nI (rsz K 7))) := KF.mks
  obtain ⟨Ka, hKa⟩ : ∃ Ka : cp_K, Ka = mks K 5 (nI (rsz K 7)) := ⟨_, rfl⟩
  rw [← hKa] at kf
  have r7 : rat Ka 7 = va_up (va_up (va_up (rat K 7) (rsz K 7) 5) (rsz K 7 + 1) (nI (rsz K 7))) (rsz K 7 + 2) 0 := by rw [hKa]; exact mks_at
  have z7 : rsz Ka 7 = rsz K 7 + 3 := by rw [hKa, mks_sz, if_pos rfl]
  have hBa : BS Ka n := ⟨(kf.2.2.1 15 (by decide)).1.trans hB.1, (kf.2.2.1 17 (by decide)).1.trans hB.2.1, (kf.2.2.1 19 (by decide)).1.trans hB.2.2⟩
  obtain ⟨Kb, hKb⟩ : ∃ Kb : cp_K, Kb = bpush Ka sym (nI (rsz K 7)) (nI v) := ⟨_, rfl⟩
  have kb : KF [15, 17, 19] Ka Kb := by rw [hKb]; exact KF.bpush
  have hBb : BS Kb (n + 1) := by rw [hKb]; exact hBa.push
  have i1 : Kb.2.1 = K.2.1 := kb.1.trans kf.1
  have e7 := kb.2.2.1 7 (by decide)
  refine ⟨kI Kb 24 5 (nI (n + 1)), c_T_learnName (D := 1) ⟨nI (rsz K 7), Ka, ?_, ⟨by rw [hBa.1]; show n < 16384; omega, by rw [hBa.2.1]; show n < 16384; omega, by rw [hBa.2.2]; show n < 16384; omega⟩, rfl, ?_⟩, ((KX.of kf (by decide)).ky.trans (KX.of kb (by decide)).ky).trans (KY.put (Or.inr rfl)), ?_, ?_, ?_, hBb, ?_, ?_, ?_, ?_, ?_, ?_, ?_, ?_⟩
  · rw [hKa]; exact C_VmakeName (by show rsz K 7 + 2 < 1048576; omega)
  · rw [kf.1, h24, ← hKb, hBb.1]
  · rw [kI_i, va_up_at, cp_up_ne (by decide), i1]
  · rw [kI_i, va_up_at, va_up_at]
  · rw [kI_i, cp_up_ne (by decide), i1]
  · show rat Kb 15 = _
    rw [hKb, bpush_at15, hBa.1, (kf.2.2.1 15 (by decide)).2]
  · show rat Kb 17 = _
    rw [hKb, bpush_at17, hBa.2.1, (kf.2.2.1 17 (by decide)).2]
  · show rat Kb 19 = _
    rw [hKb, bpush_at19, hBa.2.2, (kf.2.2.1 19 (by decide)).2]
  · show rsz Kb 7 = _
    rw [e7.1, z7]
  · intro x hx
    show rat Kb 7 x = _
    rw [e7.2, r7, cp_up_ne (by omega), cp_up_ne (by omega), cp_up_ne (by omega)]
  · show rat Kb 7 _ = 5 ∧ rat Kb 7 _ = _ ∧ rat Kb 7 _ = 0
    rw [e7.2, r7]
    refine ⟨?_, ?_, ?_⟩
    · rw [cp_up_ne (by omega), cp_up_ne (by omega), va_up_at]
    · rw [cp_up_ne (by omega), va_up_at]
    · rw [va_up_at]
  · show rsz Kb 9 = _
    rw [(kb.2.2.1 9 (by decide)).1, (kf.2.2.1 9 (by decide)).1]
  · show rsz Kb 11 = _
    rw [(kb.2.2.1 11 (by decide)).1, (kf.2.2.1 11 (by decide)).1]
/-- FIX: the names among the values are those of parts before pt -/
def FIX (K : cp_K) (S : cp_S) (ρ : Nat → Nat → Prop) (pt : Nat) : Prop := ∀ v r, ρ v r → rat K 7 v = 5 → ∃ kk, kk < pt ∧ S.2 53 r = nI kk
theorem learn_u {v pt : Nat} (st : TST ar rf pl n n K S ρ nv nc [] 0 0 L0) (fx : FIX K S ρ pt) (hn : n < 10000) (h7 : rsz K 7 < 1046000) (h24 : K.2.1 24 7 = nI v) : ∃ K3 : cp_K, KC 8 m_T_learnName (fun G => [.ref (cp_b G + 24), .int 0]) K (fun _ => none) K3 ∧ DFR K S K3 S ∧ TST ar rf pl (n + 1) (n + 1) K3 S ρ nv nc [] 0 0 L0 ∧ FIX K3 S ρ (pt + 1) ∧ rsz K3 7 = rsz K 7 + 3 := by
  obtain ⟨⟨⟨⟨V, hh, hA⟩, h3540, h9, h11⟩, h42, hs, hd4⟩, hF, nm, ⟨hd1, hd2⟩, hp, hB, hnE, h245, h244⟩ := id st
  obtain ⟨K3, k1, k2, k3, k4, k5, k6, k7, k8, k9, k10, k11, k12, k13, k14⟩ := lrn_k (sym := 0) hB hn h7 h24
  have nk := k2.nk
  have bk : BK S.2 S.2 := fun _ _ => rfl
  refine ⟨K3, k1, ⟨k2, ⟨fun _ _ => rfl, fun _ _ => rfl⟩, fun q => by rw [k5]; exact q⟩, ⟨⟨⟨⟨V.grow hh k11 (by omega) (by omega) (fun _ _ _ _ _ => rfl) (fun _ _ => rfl) (Nat.le_refl _) V.2.2.2.2.2.1 (Nat.le_refl _) V.2.2.2.2.2.2.1, fun h hm => (by cases hm), AR.up V hA k11⟩, h3540, by rw [k13]; exact h9, by rw [k14]; exact h11⟩, h42, ⟨fun _ _ _ _ w => w.elim, fun _ _ _ _ _ _ _ w => w.elim⟩, ⟨fun h hm => (by cases hm), fun h hm => (by cases hm)⟩⟩, hF, fun c hc => ?_, ⟨hd1.mv nk bk, hd2.mv nk bk⟩, hp.mv nk rfl rfl, k6, Nat.le_refl _, k4, by rw [k3]; exact h244⟩, fun v' r w e => ?_, k10⟩
  · rcases nm c hc with ⟨q1, q2⟩ | ⟨ix, v', r, tv, tr, ⟨z1, z2, z3, z4⟩, z5, z6, z7, z8, z9⟩
    · refine Or.inl ⟨q1, fun ix hx => ?_⟩
      rw [k7]
      by_cases hi : ix = n
      · rw [hi, va_up_at]; exact fun e => absurd e.symm (nI_ne0 (by omega) (by omega))
      · rw [cp_up_ne hi]; exact q2 ix (by omega)
    · refine Or.inr ⟨ix, v', r, tv, tr, ⟨z1, by omega, by rw [k7, cp_up_ne (by omega)]; exact z3, fun j j1 j2 => ?_⟩, by rw [k8, cp_up_ne (by omega)]; exact z5, z6, by rw [k9, cp_up_ne (by omega)]; exact z7, z8, z9⟩
      rw [k7]
      by_cases hj : j = n
      · rw [hj, va_up_at]; exact fun e => absurd e.symm (nI_ne0 (by omega) (by omega))
      · rw [cp_up_ne hj]; exact z4 j j1 (by omega)
  · have := (V.1.1 _ _ w).1
    rw [k11 v' (by omega)] at e
    obtain ⟨kk, z1, z2⟩ := fx v' r w e
    exact ⟨kk, by omega, z2⟩
/-- a name is learnt on both sides -/
theorem learn_n {v x pt r : Nat} {S2 : cp_S} {ρ2 : Nat → Nat → Prop} {nv2 nc2 : Nat} (har : ar 26 = 1) (st : TST ar rf pl n n K S2 ρ2 nv2 nc2 [] 0 0 L0) (fx : FIX K S2 ρ2 pt) (hn : n < 10000) (h7 : rsz K 7 < 1046000) (h24 : K.2.1 24 7 = nI v) (hv : v < 2 ^ 31) (hr : r < 2 ^ 31) (hx : x < 26) (hρ : ρ2 v r) (hpt : pt < 180) (hnv : nv2 + 1 < 6000) : ∃ (K3 : cp_K) (S3 : cp_S) (ρ3 : Nat → Nat → Prop), KC 8 m_T_learnName (fun G => [.ref (cp_b G + 24), .int (nI (97 + x))]) K (fun _ => none) K3 ∧ (∃ T15, MC 0 m_M_value [.int 4, .int (nI pt)] (S2.1, (va_up S2.2 64 (upd (S2.2 64) x (nI r)))) (some (.int (nI nv2))) T15 ∧ S3 = (T15.1, va_up T15.2 63 (upd (T15.2 63) x (nI nv2)))) ∧ DFR K S2 K3 S3 ∧ TST ar rf pl (n + 1) (n + 1) K3 S3 ρ3 (nv2 + 1) nc2 [] 0 0 L0 ∧ FIX K3 S3 ρ3 (pt + 1) ∧ rsz K3 7 = rsz K 7 + 3 ∧ (∀ c, c < 26 → ¬ S3.2 64 c = -1 → ¬ S2.2 64 c = -1 ∨ c = x) ∧ S3.1 61 = S2.1 61 := by
  obtain ⟨⟨⟨⟨V, hh, hA⟩, ⟨h35, h40⟩, h9, h11⟩, h42, hs, hd4⟩, hF, nm, ⟨hd1, hd2⟩, hp, hB, hnE, h245, h244⟩ := id st
  obtain ⟨K3, k1, k2, k3, k4, k5, k6, k7, k8, k9, k10, k11, ⟨k12, k12', k12''⟩, k13, k14⟩ := lrn_k (sym := nI (97 + x)) hB hn h7 h24
  obtain ⟨Sa, hSa⟩ : ∃ Sa : cp_S, Sa = (S2.1, (va_up S2.2 64 (upd (S2.2 64) x (nI r)))) := ⟨_, rfl⟩
  have a1 : Sa.1 = S2.1 := by rw [hSa]
  have a2 : ∀ p, p ≠ 64 → Sa.2 p = S2.2 p := fun p hp => by rw [hSa]; exact cp_up_ne hp
  have a64 : ∀ c, Sa.2 64 c = if c = x then nI r else S2.2 64 c := fun c => by
    rw [hSa]
    show va_up S2.2 64 (upd (S2.2 64) x (nI r)) 64 c = _
    rw [va_up_at]
    by_cases hc : c = x
    · rw [if_pos hc, hc, pk_us]
    · rw [if_neg hc, pk_un hc]
  obtain ⟨S3, hS3⟩ : ∃ S3 : cp_S, S3 = ((nvl Sa nv2 4 (nI pt)).1, va_up (nvl Sa nv2 4 (nI pt)).2 63 (upd ((nvl Sa nv2 4 (nI pt)).2 63) x (nI nv2))) := ⟨_, rfl⟩
  have s1 : S3.1 = (nvl Sa nv2 4 (nI pt)).1 := by rw [hS3]
  have s2' : ∀ p, p ≠ 63 → S3.2 p = (nvl Sa nv2 4 (nI pt)).2 p := fun p hp => by rw [hS3]; exact cp_up_ne hp
  have s2 : ∀ p, p ≠ 63 → p ≠ 64 → (p < 52 ∨ 55 < p) → S3.2 p = S2.2 p := fun p hp hq hr => by rw [s2' p hp, nvl_2 hr, a2 p hq]
  have s64 : ∀ c, S3.2 64 c = if c = x then nI r else S2.2 64 c := fun c => by rw [s2' 64 (by decide), nvl_2 (by omega)]; exact a64 c
  have s63 : ∀ c, S3.2 63 c = if c = x then nI nv2 else S2.2 63 c := fun c => by
    rw [hS3]
    show va_up (nvl Sa nv2 4 (nI pt)).2 63 (upd ((nvl Sa nv2 4 (nI pt)).2 63) x (nI nv2)) 63 c = _
    rw [va_up_at]
    by_cases hc : c = x
    · rw [if_pos hc, hc, pk_us]
    · rw [if_neg hc, pk_un hc, nvl_2 (by omega), a2 63 (by decide)]
  have slo : ∀ p, 52 ≤ p → p ≤ 55 → ∀ r, r < nv2 → S3.2 p r = S2.2 p r := fun p p1 p2 r hr => by rw [s2' p (by omega), nvl_lo hr p1 p2, a2 p (by omega)]
  have na := nvl_at (S := Sa) (nv := nv2) (x := 4) (z := nI pt)
  have nk := k2.nk
  have bk : BK S2.2 S3.2 := fun p hp => s2 p (by omega) (by omega) (by omega)
  have V1 : VI (rat K3 7) (rsz K 7) S3.2 nv2 nc2 ρ2 [] 0 := V.grow hh k11 (Nat.le_refl _) (by omega) slo (fun t _ => by rw [s2 56 (by decide) (by decide) (by omega)]) (Nat.le_refl _) V.2.2.2.2.2.1 (Nat.le_refl _) V.2.2.2.2.2.2.1
  have V2 := V1.name hh (by omega) k12 k12' k12'' (by omega) (by rw [s2' 52 (by decide)]; exact na.1) (by rw [s2' 55 (by decide)]; exact na.2.2.2) (fun v' r' w e => by
    have b := V.1.1 _ _ w
    rw [k11 v' (by omega)] at e
    obtain ⟨kk, z1, z2⟩ := fx v' r' w e
    rw [slo 53 (by omega) (by omega) r' b.2.1, z2, s2' 53 (by decide), na.2.1]
    exact fun e => absurd ((nI_eq (by omega) (by omega)).mp e) (by omega))
  rw [← k10] at V2
  have A1 : AR ar (rat K3 7) (fun x y => ρ2 x y ∨ (x = rsz K 7 ∧ y = nv2)) := AR.num V hA k11 (by rw [k12]; decide) (fun _ => har)
  have s35 : S3.1 35 = nI (nv2 + 1) := by rw [s1, nvl_35]
  have sne : ∀ k, k ≠ 35 → S3.1 k = S2.1 k := fun k hk => by rw [s1, nvl_1 hk, a1]
  refine ⟨K3, S3, fun x y => ρ2 x y ∨ (x = rsz K 7 ∧ y = nv2), k1, ⟨nvl Sa nv2 4 (nI pt), ?_, hS3⟩, ⟨k2, ⟨fun k hk => sne k (fun e => hk (by rw [e]; decide)), fun p hp => s2 p (by omega) (by omega) (by omega)⟩, fun q => by rw [k5, sne 60 (by decide)]; exact q⟩, ⟨⟨⟨⟨V2, fun h hm => (by cases hm), A1⟩, ⟨s35, by rw [sne 40 (by decide)]; exact h40⟩, by rw [k13]; exact h9, by rw [k14]; exact h11⟩, by rw [sne 42 (by decide)]; exact h42, ⟨fun _ _ _ _ w => w.elim, fun _ _ _ _ _ _ _ w => w.elim⟩, ⟨fun h hm => (by cases hm), fun h hm => (by cases hm)⟩⟩, hF, fun c hc => ?_, ⟨hd1.mv nk bk, hd2.mv nk bk⟩, hp.mv nk (sne 20 (by decide)) (bk 42 (by omega)), k6, Nat.le_refl _, k4, by rw [k3, sne 58 (by decide)]; exact h244⟩, fun v' r' w e => ?_, k10, fun c hc h => ?_, sne 61 (by decide)⟩
  · rw [← hSa]
    exact MC_value (by rw [a1]; exact h35) (by omega)
  · by_cases hcx : c = x
    · subst hcx
      refine Or.inr ⟨n, rsz K 7, nv2, v, r, ⟨Nat.zero_le _, by omega, by rw [k7, va_up_at], fun j j1 j2 => by omega⟩, by rw [k8, va_up_at], by omega, by rw [k9, va_up_at], hv, by rw [s63, if_pos rfl], by omega, by rw [s64, if_pos rfl], hr, Or.inr ⟨rfl, rfl⟩, Or.inl hρ⟩
    · rw [s64, if_neg hcx, s63, if_neg hcx]
      rcases nm c hc with ⟨q1, q2⟩ | ⟨ix, v', r', tv, tr, ⟨z1, z2, z3, z4⟩, z5, z6, z7, z8, z9, z10, z11, z12, z13, z14⟩
      · refine Or.inl ⟨q1, fun ix hx => ?_⟩
        rw [k7]
        by_cases hi : ix = n
        · rw [hi, va_up_at]; exact fun e => hcx (by have := (nI_eq (by omega) (by omega)).mp e; omega)
        · rw [cp_up_ne hi]; exact q2 ix (by omega)
      · refine Or.inr ⟨ix, v', r', tv, tr, ⟨z1, by omega, by rw [k7, cp_up_ne (by omega)]; exact z3, fun j j1 j2 => ?_⟩, by rw [k8, cp_up_ne (by omega)]; exact z5, z6, by rw [k9, cp_up_ne (by omega)]; exact z7, z8, z9, z10, z11, z12, Or.inl z13, Or.inl z14⟩
        rw [k7]
        by_cases hj : j = n
        · rw [hj, va_up_at]; exact fun e => hcx (by have := (nI_eq (by omega) (by omega)).mp e; omega)
        · rw [cp_up_ne hj]; exact z4 j j1 (by omega)
  · rcases w with w | ⟨rfl, rfl⟩
    · have b := V.1.1 _ _ w
      rw [k11 v' (by omega)] at e
      obtain ⟨kk, z1, z2⟩ := fx v' r' w e
      exact ⟨kk, by omega, by rw [slo 53 (by omega) (by omega) r' b.2.1]; exact z2⟩
    · exact ⟨pt, by omega, by rw [s2' 53 (by decide)]; exact na.2.1⟩
  · rw [s64] at h
    by_cases hcx : c = x
    · exact Or.inr hcx
    · rw [if_neg hcx] at h; exact Or.inl h
end CPDE
