/-! ===== running: + and -, both sides ===== -/
section CPWA
variable {ar : Nat → Nat} {hl : List Nat} {C : Nat} {K K1 : cp_K} {S S1 : cp_S} {ρ ρ1 : Nat → Nat → Prop} {nv nc nv1 nc1 e w w1 B n n1 c1 u1 p frame i : Nat} {y : Int32}
theorem WPO.num {z : Int32} (h : WPO ar hl C K S ρ nv nc e w B n K1 S1 ρ1 nv1 nc1 w1 n1 c1 (u1 + 1)) (hh : ∀ h ∈ hl, h + 3 ≤ rsz K1 7) (hN : rsz K1 7 + 3 ≤ 1048576) (hnv : nv1 + 1 ≤ 6000) : WPO ar hl C K S ρ nv nc e w B n (mks K1 1 z) (nvl S1 nv1 0 z) (fun x y => ρ1 x y ∨ (x = rsz K1 7 ∧ y = nv1)) (nv1 + 1) nc1 w1 n1 c1 u1 := by
  obtain ⟨⟨V, hA, h3⟩, ⟨h4, h5, h6, h7, h8, h9⟩, ⟨h10, h11, h12, h13⟩, ⟨a1, a2, a3, a4, a5, a6, a7, a8⟩, h14, h15, h16⟩ := h
  have km : KF [7] K1 (mks K1 1 z) := KF.mks
  have ks : rsz (mks K1 1 z) 7 = rsz K1 7 + 3 := by rw [mks_sz, if_pos rfl]
  have ka : rat (mks K1 1 z) 7 = va_up (va_up (va_up (rat K1 7) (rsz K1 7) 1) (rsz K1 7 + 1) z) (rsz K1 7 + 2) 0 := mks_at
  have lo : ∀ j, j < rsz K1 7 → rat (mks K1 1 z) 7 j = rat K1 7 j := fun j hj => by rw [ka, cp_up_ne (by omega), cp_up_ne (by omega), cp_up_ne (by omega)]
  have p0 : rat (mks K1 1 z) 7 (rsz K1 7) = 1 := by rw [ka, cp_up_ne (by omega), cp_up_ne (by omega), va_up_at]
  have p1 : rat (mks K1 1 z) 7 (rsz K1 7 + 1) = z := by rw [ka, cp_up_ne (by omega), va_up_at]
  have p2 : rat (mks K1 1 z) 7 (rsz K1 7 + 2) = 0 := by rw [ka, va_up_at]
  obtain ⟨q0, q1, q2, q3⟩ := nvl_at (S := S1) (nv := nv1) (x := 0) (z := z)
  have V2 := num_VI (a' := (nvl S1 nv1 0 z).2) V hh hN hnv lo p0 p1 p2 (fun p p1 p2 r hr => by rw [nvl_lo hr p1 p2]) (by rw [nvl_2 (by omega)]) q0 q1 q3
  have ku : KF rs6 (kI K1 23 3 (nI w1)) (mks K1 1 z) := KU.of km (KU.s h4) (by decide)
  refine ⟨⟨by rw [ks]; exact V2, AR.num V hA lo (by rw [p0]; decide) (fun e => absurd (p0.symm.trans e) (by decide)), fun x y q => Or.inl (h3 x y q)⟩, ⟨KU.trans h4 ku, ⟨?_, ?_, ?_⟩, fun q hq x hx => ?_, by omega, by omega, fun x hx => (lo x (by omega)).trans (h9 x hx)⟩, ⟨nvl_35, ?_, ?_, ?_⟩, ⟨a1, a2, by omega, by omega, a5, a6, ?_, ?_⟩, h14.trans nvl_FRB (Nat.le_refl _) (Nat.le_refl _), fun p p1 p2 r hr => ?_, fun t ht => ?_⟩
  · rw [(km.2.2.1 15 (by decide)).1]; exact h5.1
  · rw [(km.2.2.1 17 (by decide)).1]; exact h5.2.1
  · rw [(km.2.2.1 19 (by decide)).1]; exact h5.2.2
  · rw [mks_at_ne (by omega)]; exact h6 q hq x hx
  · rw [nvl_1 (by decide)]; exact h11
  · rw [nvl_1 (by decide)]; exact h12
  · rw [nvl_1 (by decide)]; exact h13
  · rw [(km.2.2.1 9 (by decide)).1]; exact a7
  · rw [(km.2.2.1 11 (by decide)).1]; exact a8
  · rw [nvl_lo (by omega) p1 p2]; exact h15 p p1 p2 r hr
  · rw [nvl_2 (by omega)]; exact h16 t ht
theorem WD_s {w : Nat} (h : w < 100) : WD w = WD (w + 1) + 3 := by unfold WD; omega
theorem WD_le {w w' : Nat} (h : w ≤ w') : WD w' ≤ WD w := by unfold WD; omega
theorem WD_20 {w : Nat} : 20 ≤ WD w := by unfold WD; omega
theorem arn_m1 {K : cp_K} {x : Int32} : arn K x (-1) = 0 := by unfold arn; rw [if_neg (fun h => h.2.1 rfl)]
theorem W_add {m k j : Nat} {sc : Nat → Prop} (ih : WIH ar hl C m) (h : WST ar hl C K S ρ nv nc e w B n) (hF : HF S e) (hD : DIC K S.2 ar) (hp : nd K p 9) (hs : (K.2.1 p 0 = 7 ∧ S.2 39 i = 6) ∨ (K.2.1 p 0 = 8 ∧ S.2 39 i = 7)) (hc : CHN (CR K S.2 ar k sc) K 2 (K.2.2.1 p 4) (i + 1) j) (hl5 : K.2.2.1 p 5 = K.2.2.1 (K.2.2.1 p 4) 6) (hj : j ≤ 2720) (hE : ENV K S.2 B frame y sc ρ) (hf : frame ≤ n) (hm : 100 - w < m + 1) (hw : w < 100) (he : e < 30) : WCON ar hl C K S ρ nv nc e w B n p frame i y := by
  obtain ⟨n0, n1', i1, c0, c1'⟩ := CHN2 hc
  have lt0 := SH_lt _ _ _ (CR.sh _ _ _ _ _ c0)
  have lt1 := SH_lt _ _ _ (CR.sh _ _ _ _ _ c1')
  have hi : i < 2720 := by omega
  have M0 := MID.start h hw he hi (y := y)
  have hp86 := hp.1
  -- how the class comes to reckon
  have cls : ∀ (r : Int32) (K' : cp_K), KC (WD w - 1) m_U_reckon (fun G => [.ref (cp_b G + 23), va_rf (kr G p), .int (nI (e + 1)), .int (nI frame)]) (kI K 23 3 (nI (w + 1))) (fun _ => some (.int r)) K' → KC (WD w) m_U_work (fun G => [.ref (cp_b G + 23), va_rf (kr G p), .int (nI (e + 1)), .int (nI frame)]) K (fun _ => some (.int r)) K' := by
    intro r K' kr
    have w20 := WD_20 (w := w)
    refine (c_U_work (D := WD w - 8) (work_go (c := K.2.1 p 0) hp h.2.2.1.1 hw he rfl ?_ ?_ ?_ (fun _ => ⟨r, K', kr.mono (by omega), rfl, rfl⟩) ?_ ?_ ?_ ?_)).mono (by omega)
    · intro q; rcases hs with ⟨a, -⟩ | ⟨a, -⟩ <;> (rw [a] at q; exact absurd q (by decide))
    · intro q; rcases hs with ⟨a, -⟩ | ⟨a, -⟩ <;> (rw [a] at q; exact absurd q (by decide))
    · intro q; rcases hs with ⟨a, -⟩ | ⟨a, -⟩ <;> (rw [a] at q; exact absurd q (by decide))
    · intro q; rcases hs with ⟨a, -⟩ | ⟨a, -⟩ <;> (rw [a] at q; exact absurd q (by decide))
    · intro q; rcases hs with ⟨a, -⟩ | ⟨a, -⟩ <;> (rw [a] at q; exact absurd q (by decide))
    · intro q; rcases hs with ⟨a, -⟩ | ⟨a, -⟩ <;> (rw [a] at q; exact absurd q (by decide))
    · rcases hs with ⟨a, -⟩ | ⟨a, -⟩ <;> (rw [a]; decide)
  have wds := WD_s hw
  have w20 := WD_20 (w := w + 1)
  have enter0 : MC 0 m_M_enter [.int (nI i), .int y] S none (ent S w e (nI i) y) := MC_enter h.2.1.2.2.1 h.2.1.2.2.2.1 hw he
  have op6 : ∀ {Sx : cp_S}, BK S.2 Sx.2 → ∃ c : Int32, Sx.2 39 i = c ∧ (c = 6 ∨ c = 7) := fun {Sx} hb => ⟨Sx.2 39 i, rfl, by rw [hb 39 (by omega)]; rcases hs with ⟨-, a⟩ | ⟨-, a⟩ <;> (rw [a]; decide)⟩
  have firstE : (kI K 23 3 (nI (w + 1))).2.2.1 p 4 = K.2.2.1 p 4 := rfl
  have ch0 : MC 2 m_M_child [.int (nI i), .int (nI 0)] (ent S w e (nI i) y) (some (.int (nI (i + 1)))) (ent S w e (nI i) y) := MC_child (k := 1) (by omega) rfl (by omega)
  obtain ⟨cop, o1, o2⟩ := op6 M0.bk
  have E0 : ENV (kI K 23 3 (nI (w + 1))) (ent S w e (nI i) y).2 B frame y sc ρ := hE.mv (fun c v _ q => q) (fun p p1 p2 x _ => by rw [ent_2 (by omega)]) (Nat.le_refl _) (fun _ _ q => q)
  rcases W_child ih h M0 (by omega) (hD.mv M0.nk M0.bk) (CR.mv M0.nk M0.bk k sc _ _ _ c0) (by omega) E0 hf hm with ⟨v, r, w2, K2, T1, S3, ρ2, nv2, nc2, B2, a1, a2, a3, a4, a5, a6, a7, a8, a9, a10, a11⟩ | ⟨w2, K2, T1, S2, ρ2, nv2, nc2, n2, a1, a2, a3, a4, a5, a6⟩
  · -- the first is worked out
    have V2 := a4.1.1.1
    have bk2 := a4.bk
    have nk2 := a4.nk
    have l0 := lk_both V2 a8
    have ub0 := V2.1.1 _ _ l0.1.1
    have nN2 := V2.2.2.2.2.2.2.2
    have wl0 := look_ok V2 a8 rfl rfl a9 WD_20 a1
    have ch1 : MC 2 m_M_child [.int (nI i), .int (nI 1)] S3 (some (.int (nI i1))) S3 := MC_child (k := k + 2) (by omega) ⟨i1, CR.sh _ _ _ _ _ (CR.mv nk2 bk2 k sc _ _ _ c0), rfl⟩ (by omega)
    obtain ⟨cop2, o3, o4⟩ := op6 bk2
    have hB0 : BS (kI K 23 3 (nI (w + 1))) n := h.2.2.1.2
    have E2 : ENV K2 S3.2 B2 frame y sc ρ2 := E0.mv (fun c v _ q => LU.same hB0 a5.2.1.2.1 a5.2.1.2.2.1 q) (fun p p1 p2 x hx => a5.2.2.2.2.1.2.2.2.2 p p1 p2 x hx) a4.2.2.2.1 a10
    have lastE : K2.2.2.1 p 5 = K.2.2.1 (K.2.2.1 p 4) 6 := by rw [nk2.2.1]; exact hl5
    have e22 : nI (e + 1) + 1 = nI (e + 2) := nI_1 (e + 1)
    rcases W_child ih h a4 (by omega) (hD.mv nk2 bk2) (CR.mv nk2 bk2 k sc _ _ _ c1') hj E2 (by have := a4.2.2.2.2.2.1; omega) hm with ⟨v', r', w3, K3, T2, S4, ρ3, nv3, nc3, B3, b1, b2, b3, b4, b5, b6, b7, b8, b9, b10, b11⟩ | ⟨w3, K3, T2, S4, ρ3, nv3, nc3, n3, b1, b2, b3, b4, b5, b6⟩
    · -- both are
      have V3 := b4.1.1.1
      have bk3 := b4.bk
      have nk3 := b4.nk
      have l1 := lk_both V3 b8
      have ub1 := V3.1.1 _ _ l1.1.1
      have nN3 := V3.2.2.2.2.2.2.2
      have wl1 := look_ok V3 b8 rfl rfl b9 WD_20 b1
      have wle : WD w2 ≤ WD (w + 1) := WD_le (by have := a4.2.2.2.2.2.2.2; omega)
      have ρu0 : ρ3 (lk (rat K2 7) (rsz K2 7) S3.2 ρ2 v r).1 (lk (rat K2 7) (rsz K2 7) S3.2 ρ2 v r).2 := b10 _ _ l0.1.1
      have s0b := V3.1.1 _ _ ρu0
      have nv6 := V3.2.2.2.2.2.1
      have g0 : S4.2 75 (8 * e) = nI r := by have := b7 0 (by omega); rw [Nat.add_zero] at this a6; rw [this]; exact a6
      have seen0 : MC 0 m_M_seen [.int (nI r)] S4 (some (.int (nI (lk (rat K2 7) (rsz K2 7) S3.2 ρ2 v r).2))) S4 := l0.2 S4 (fun x y q => by
        have hy := (V2.1.1 x y q).2.1
        exact ⟨b5.2.2.2.2.2.1 52 (by omega) (by omega) y hy, b5.2.2.2.2.2.1 53 (by omega) (by omega) y hy⟩)
      have seen1 : MC 0 m_M_seen [.int (nI r')] S4 (some (.int (nI (lk (rat K3 7) (rsz K3 7) S4.2 ρ3 v' r').2))) S4 := l1.1.2.2.2 S4 rfl rfl
      have arE := arn_of V3 (K := K3) rfl rfl ρu0 l1.1.1
      obtain ⟨cop3, o5, o6⟩ := op6 bk3
      have hst3 := MID.wst h b4
      have reck : ∀ (o : Int32) (K' : cp_K), ((¬ arn K3 (nI (lk (rat K2 7) (rsz K2 7) S3.2 ρ2 v r).1) (nI (lk (rat K3 7) (rsz K3 7) S4.2 ρ3 v' r').1) = 0 → (¬ K3.2.1 p 0 = 7 → rsz K3 7 + 2 < k_lim 7 ∧ o = nI (rsz K3 7) ∧ K' = mks K3 1 (rget K3 7 (nI (lk (rat K2 7) (rsz K2 7) S3.2 ρ2 v r).1 + 1) - rget K3 7 (nI (lk (rat K3 7) (rsz K3 7) S4.2 ρ3 v' r').1 + 1))) ∧ (K3.2.1 p 0 = 7 → rsz K3 7 + 2 < k_lim 7 ∧ o = nI (rsz K3 7) ∧ K' = mks K3 1 (rget K3 7 (nI (lk (rat K2 7) (rsz K2 7) S3.2 ρ2 v r).1 + 1) + rget K3 7 (nI (lk (rat K3 7) (rsz K3 7) S4.2 ρ3 v' r').1 + 1)))) ∧ (arn K3 (nI (lk (rat K2 7) (rsz K2 7) S3.2 ρ2 v r).1) (nI (lk (rat K3 7) (rsz K3 7) S4.2 ρ3 v' r').1) = 0 → o = -1 ∧ K' = K3)) → KC (WD w - 1) m_U_reckon (fun G => [.ref (cp_b G + 23), va_rf (kr G p), .int (nI (e + 1)), .int (nI frame)]) (kI K 23 3 (nI (w + 1))) (fun _ => some (.int o)) K' := by
        intro o K' q
        refine (c_U_reckon (D := WD (w + 1) - 6) (o := fun _ => some (.int o)) ⟨nd_kI hp, nI (lk (rat K2 7) (rsz K2 7) S3.2 ρ2 v r).1, K2, ?_, fun _ => ⟨nk2.2.2 p 9 hp, nI (lk (rat K3 7) (rsz K3 7) S4.2 ρ3 v' r').1, K3, ?_, fun q1 => ⟨nk3.2.2 p 9 hp, fun q2 => ?_, fun q2 => ?_⟩, fun q1 => ?_⟩, fun hn => absurd hn (nI_m1 (by omega))⟩).mono (by omega)
        · rw [e22]; exact wl0.mono (by omega)
        · rw [e22, lastE]; exact wl1.mono (by omega)
        · obtain ⟨z1, rfl, rfl⟩ := (q.1 q1).1 q2; exact ⟨z1, rfl, rfl⟩
        · obtain ⟨z1, rfl, rfl⟩ := (q.1 q1).2 q2; exact ⟨z1, rfl, rfl⟩
        · obtain ⟨rfl, rfl⟩ := q.2 q1; exact ⟨rfl, rfl⟩
      have lp2 : ∀ (x1 x2 : Int32) (o : Option Value) (Sx : cp_S), LPR x1 x2 o Sx S4 → LPR x1 x2 o Sx (ent S w e (nI i) y) := fun x1 x2 o Sx q => lp_add M0.2.1 o1 o2 (MC_add_e M0.2.1 (by omega) ch0 a2) (a3 x1 x2 o Sx (lp_add a4.2.1 o3 o4 (MC_add_e a4.2.1 (by omega) ch1 b2) (b3 x1 x2 o Sx q)))
      by_cases hnum : S4.2 52 (lk (rat K2 7) (rsz K2 7) S3.2 ρ2 v r).2 = 0 ∧ S4.2 52 (lk (rat K3 7) (rsz K3 7) S4.2 ρ3 v' r').2 = 0
      · rw [if_pos hnum] at arE
        have d0 : rget K3 7 (nI (lk (rat K2 7) (rsz K2 7) S3.2 ρ2 v r).1 + 1) = S4.2 53 (lk (rat K2 7) (rsz K2 7) S3.2 ρ2 v r).2 := by rw [nI_1, rget_of (by omega) (by omega)]; exact num_dat V3 ρu0 hnum.1
        have d1 : rget K3 7 (nI (lk (rat K3 7) (rsz K3 7) S4.2 ρ3 v' r').1 + 1) = S4.2 53 (lk (rat K3 7) (rsz K3 7) S4.2 ρ3 v' r').2 := by rw [nI_1, rget_of (by omega) (by omega)]; exact num_dat V3 l1.1.1 hnum.2
        have rs3 : rsz K3 7 + 3 ≤ 1048576 := by have := hst3.2.2.2.2.2.2.2.2.2.1; omega
        have nv3b : nv3 + 1 ≤ 6000 := by have := b4.1.2.2.2.1.2.2.2.1; have := h.2.2.2.2.2.2.2.1; have := b4.1.2.2.2.1.2.1; omega
        have hh3 : ∀ h ∈ hl, h + 3 ≤ rsz K3 7 := hst3.1.2.1
        obtain ⟨z, hz⟩ : ∃ z : Int32, z = (if S4.2 39 i = 6 then S4.2 53 (lk (rat K2 7) (rsz K2 7) S3.2 ρ2 v r).2 + S4.2 53 (lk (rat K3 7) (rsz K3 7) S4.2 ρ3 v' r').2 else S4.2 53 (lk (rat K2 7) (rsz K2 7) S3.2 ρ2 v r).2 - S4.2 53 (lk (rat K3 7) (rsz K3 7) S4.2 ρ3 v' r').2) := ⟨_, rfl⟩
        have hP := WPO.num (u1 := 0) (z := z) b4.1 hh3 rs3 nv3b
        have MV : MC 0 m_M_value [.int 0, .int z] S4 (some (.int (nI nv3))) (nvl S4 nv3 0 z) := MC_value b4.1.2.2.1.1 (by omega)
        have hF4 : HF (nvl S4 nv3 0 z) e := FRB.hf hF hP.2.2.2.2.1
        have MG := MC_GIV (S := nvl S4 nv3 0 z) (e := e) (r := nv3) (by rw [nvl_1 (by decide)]; exact b4.2.1.1) (by omega) hF4
        refine Or.inl ⟨rsz K3 7, nv3, w3, mks K3 1 z, ent S w e (nI i) y, nvl S4 nv3 0 z, _, nv3 + 1, nc3, B3, cls _ _ (reck _ _ ⟨fun _ => ⟨fun q => ⟨by show rsz K3 7 + 2 < 1048576; omega, rfl, ?_⟩, fun q => ⟨by show rsz K3 7 + 2 < 1048576; omega, rfl, ?_⟩⟩, fun q => absurd q (by rw [arE]; decide)⟩), enter0, fun x1 x2 o Sx q => lp2 x1 x2 o Sx (lp_add b4.2.1 o5 o6 (MC_add_2 b4.2.1 g0 b6 seen0 seen1 (by omega) (by omega) ⟨fun q => absurd hnum q, fun _ => ⟨?_, nI nv3, by rw [← hz]; exact MV, MG⟩⟩) q), hP.less (by omega) (by omega), b4.2.2.2.2.2.2.2, by rw [nvl_1 (by decide)]; exact b4.2.1.1, by rw [nvl_1 (by decide)]; exact b4.2.1.2.1, by rw [nvl_1 (by decide)]; exact b4.2.2.1, b4.2.2.2.1, (by have := b4.2.2.2.2.1; omega), Or.inr ⟨rfl, rfl⟩, by omega⟩
        · rw [d0, d1, hz, if_neg]
          rw [bk3 39 (by omega)]
          rw [nk3.1 p 0 hp86] at q
          rcases hs with ⟨q1, -⟩ | ⟨-, q1⟩
          · exact absurd q1 q
          · rw [q1]; decide
        · rw [d0, d1, hz, if_pos]
          rw [bk3 39 (by omega)]
          rw [nk3.1 p 0 hp86] at q
          rcases hs with ⟨-, q1⟩ | ⟨q1, -⟩
          · exact q1
          · rw [q1] at q; exact absurd q (by decide)
        · rw [o5]; exact o6
      · rw [if_neg hnum] at arE
        refine Or.inr ⟨w3, K3, ent S w e (nI i) y, fld S4, ρ3, nv3, nc3, n, cls _ _ (reck _ _ ⟨fun q => absurd arE q, fun _ => ⟨rfl, rfl⟩⟩), enter0, fun x1 x2 => lp2 x1 x2 _ _ (lp_add b4.2.1 o5 o6 (MC_add_2 (U := S4) b4.2.1 g0 b6 seen0 seen1 (by omega) (by omega) ⟨fun _ => rfl, fun q => absurd q hnum⟩) (lp_fail fld_63)), (b4.1.fld).less (by omega) (by omega), Nat.le_refl _, by have := h.2.2.2.2.2.2.1; omega⟩
    · -- the second fails
      have wle : WD w2 ≤ WD (w + 1) := WD_le (by have := a4.2.2.2.2.2.2.2; omega)
      refine Or.inr ⟨w3, K3, ent S w e (nI i) y, S4, ρ3, nv3, nc3, n3, cls _ _ ((c_U_reckon (D := WD (w + 1) - 6) (o := fun _ => some (.int (-1))) ⟨nd_kI hp, nI (lk (rat K2 7) (rsz K2 7) S3.2 ρ2 v r).1, K2, ?_, fun _ => ⟨nk2.2.2 p 9 hp, -1, K3, ?_, fun q1 => absurd arn_m1 q1, fun _ => ⟨rfl, rfl⟩⟩, fun hn => absurd hn (nI_m1 (by omega))⟩).mono (by omega)), enter0, fun x1 x2 => lp_add M0.2.1 o1 o2 (MC_add_e M0.2.1 (by omega) ch0 a2) (a3 x1 x2 _ _ (lp_add a4.2.1 o3 o4 (MC_add_e a4.2.1 (by omega) ch1 b2) (b3 x1 x2))), b4, b5, b6⟩
      · rw [e22]; exact wl0.mono (by omega)
      · rw [e22, lastE]; exact (look_f WD_20 b1).mono (by omega)
  · -- the first fails
    refine Or.inr ⟨w2, K2, ent S w e (nI i) y, S2, ρ2, nv2, nc2, n2, cls _ _ ((c_U_reckon (D := WD (w + 1) - 6) (o := fun _ => some (.int (-1))) ⟨nd_kI hp, -1, K2, ?_, fun hn => absurd rfl hn, fun _ => ⟨fun q1 => absurd arn_m1 q1, fun _ => ⟨rfl, rfl⟩⟩⟩).mono (by omega)), enter0, fun x1 x2 => lp_add M0.2.1 o1 o2 (MC_add_e M0.2.1 (by omega) ch0 a2) (a3 x1 x2), a4, a5, a6⟩
    rw [nI_1 (e + 1)]
    exact (look_f WD_20 a1).mono (by omega)
end CPWA
