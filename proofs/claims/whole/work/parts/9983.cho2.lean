/-! ===== running: [, both sides ===== -/
section CPWH
variable {ar : Nat → Nat} {hl : List Nat} {C : Nat} {K : cp_K} {S : cp_S} {ρ : Nat → Nat → Prop} {nv nc e w B n p frame i : Nat} {y : Int32}
theorem CHN4 {R : Nat → Nat → Nat → Prop} {q i j : Nat} (h : CHN R K 4 q i j) : nd K q 9 ∧ nd K (K.2.2.1 q 6) 9 ∧ nd K (K.2.2.1 (K.2.2.1 q 6) 6) 9 ∧ nd K (K.2.2.1 (K.2.2.1 (K.2.2.1 q 6) 6) 6) 9 ∧ ∃ i1 i2 i3, R q i i1 ∧ R (K.2.2.1 q 6) i1 i2 ∧ R (K.2.2.1 (K.2.2.1 q 6) 6) i2 i3 ∧ R (K.2.2.1 (K.2.2.1 (K.2.2.1 q 6) 6) 6) i3 j := by
  obtain ⟨h1, i1, a1, h2, i2, a2, h3, i3, a3, h4, i4, a4, -, h5⟩ := h
  subst h5
  exact ⟨h1, h2, h3, h4, i1, i2, i3, a1, a2, a3, a4⟩
theorem MID.cmp {Kc K2 : cp_K} {Sc S2 : cp_S} {ρc : Nat → Nat → Prop} {nvc ncc wc Bc n1 c1 s db : Nat} (g : MID ar hl C K S ρ nv nc e w B n Kc Sc ρc nvc ncc wc Bc n1 c1 i s y db) (hh : ∀ h ∈ hl, h + 3 ≤ rsz Kc 7) (kf : KF [11] Kc K2) (h11 : rsz K2 11 < 16000) (fc : FC Sc S2) : MID ar hl C K S ρ nv nc e w B n K2 S2 ρc nvc ncc wc Bc n1 c1 i s y db := by
  obtain ⟨g1, ⟨t1, t2, t3, t4, t5, t6, t7⟩, g3, g4⟩ := g
  exact ⟨g1.cmp hh kf h11 fc, ⟨(fc.1 62 (by decide)).trans t1, (fc.1 63 (by decide)).trans t2, by rw [fc.2 72 (by decide) (by decide) (by decide)]; exact t3, by rw [fc.2 73 (by decide) (by decide) (by decide)]; exact t4, by rw [fc.2 74 (by decide) (by decide) (by decide)]; exact t5, t6, t7⟩, (fc.1 70 (by decide)).trans g3, g4⟩
theorem W_cho {m k j : Nat} {sc : Nat → Prop} (ih : WIH ar hl C m) (h : WST ar hl C K S ρ nv nc e w B n) (hF : HF S e) (hD : DIC K S.2 ar) (hp : nd K p 9) (hs : (K.2.1 p 0 = 11 ∧ S.2 40 i = 61) ∨ (K.2.1 p 0 = 12 ∧ S.2 40 i = 60)) (hop : S.2 39 i = 9) (hc : CHN (CR K S.2 ar k sc) K 4 (K.2.2.1 p 4) (i + 1) j) (hl5 : K.2.2.1 p 5 = K.2.2.1 (K.2.2.1 (K.2.2.1 (K.2.2.1 p 4) 6) 6) 6) (hj : j ≤ 2720) (hE : ENV K S.2 B frame y sc ρ) (hf : frame ≤ n) (hm : 100 - w < m + 1) (hw : w < 100) (he : e < 30) : WCON ar hl C K S ρ nv nc e w B n p frame i y := by
  obtain ⟨n0, n1, n2, n3, i1, i2, i3, c0, c1, c2, c3⟩ := CHN4 hc
  have lt0 := SH_lt _ _ _ (CR.sh _ _ _ _ _ c0)
  have lt1 := SH_lt _ _ _ (CR.sh _ _ _ _ _ c1)
  have lt2 := SH_lt _ _ _ (CR.sh _ _ _ _ _ c2)
  have lt3 := SH_lt _ _ _ (CR.sh _ _ _ _ _ c3)
  have hi : i < 2720 := by omega
  have M0 := MID.start h hw he hi (y := y)
  have hp86 := hp.1
  have cls : ∀ (r : Int32) (K' : cp_K), KC (WD w - 1) m_U_choose (fun G => [.ref (cp_b G + 23), va_rf (kr G p), .int (nI (e + 1)), .int (nI frame)]) (kI K 23 3 (nI (w + 1))) (fun _ => some (.int r)) K' → KC (WD w) m_U_work (fun G => [.ref (cp_b G + 23), va_rf (kr G p), .int (nI (e + 1)), .int (nI frame)]) K (fun _ => some (.int r)) K' := by
    intro r K' kr
    have w20 := WD_20 (w := w)
    refine (c_U_work (D := WD w - 8) (work_go (c := K.2.1 p 0) hp h.2.2.1.1 hw he rfl ?_ ?_ ?_ ?_ ?_ (fun _ => ⟨r, K', kr.mono (by omega), rfl, rfl⟩) ?_ ?_)).mono (by omega)
    · intro q; rcases hs with ⟨a, -⟩ | ⟨a, -⟩ <;> (rw [a] at q; exact absurd q (by decide))
    · intro q; rcases hs with ⟨a, -⟩ | ⟨a, -⟩ <;> (rw [a] at q; exact absurd q (by decide))
    · intro q; rcases hs with ⟨a, -⟩ | ⟨a, -⟩ <;> (rw [a] at q; exact absurd q (by decide))
    · intro q; rcases hs with ⟨a, -⟩ | ⟨a, -⟩ <;> (rw [a] at q; exact absurd q (by decide))
    · intro q; rcases hs with ⟨a, -⟩ | ⟨a, -⟩ <;> (rw [a] at q; exact absurd q (by decide))
    · intro q; rcases hs with ⟨a, -⟩ | ⟨a, -⟩ <;> (rw [a] at q; exact absurd q (by decide))
    · rcases hs with ⟨a, -⟩ | ⟨a, -⟩ <;> (rw [a]; decide)
  have wds := WD_s hw
  have w20 := WD_20 (w := w + 1)
  have enter0 : MC 0 m_M_enter [.int (nI i), .int y] S none (ent S w e (nI i) y) := MC_enter h.2.1.2.2.1 h.2.1.2.2.2.1 hw he
  have op9 : ∀ {Sx : cp_S}, BK S.2 Sx.2 → Sx.2 39 i = 9 := fun {Sx} hb => by rw [hb 39 (by omega)]; exact hop
  have ch0 : MC 2 m_M_child [.int (nI i), .int (nI 0)] (ent S w e (nI i) y) (some (.int (nI (i + 1)))) (ent S w e (nI i) y) := MC_child (k := 1) (by omega) rfl (by omega)
  have o1 := op9 M0.bk
  have q1ne : ¬ K.2.2.1 (K.2.2.1 p 4) 6 = 0 := by have := n1.1; omega
  have E0 : ENV (kI K 23 3 (nI (w + 1))) (ent S w e (nI i) y).2 B frame y sc ρ := hE.mv (fun c v _ q => q) (fun p p1 p2 x _ => by rw [ent_2 (by omega)]) (Nat.le_refl _) (fun _ _ q => q)
  have e22 : nI (e + 1) + 1 = nI (e + 2) := nI_1 (e + 1)
  rcases W_child ih h M0 (by omega) (hD.mv M0.nk M0.bk) (CR.mv M0.nk M0.bk k sc _ _ _ c0) (by omega) E0 hf hm with ⟨v, r, w2, K2, T1, S3, ρ2, nv2, nc2, B2, a1, a2, a3, a4, a5, a6, a7, a8, a9, a10, a11⟩ | ⟨w2, K2, T1, S2, ρ2, nv2, nc2, n2', a1, a2, a3, a4, a5, a6⟩
  · have V2 := a4.1.1.1
    have bk2 := a4.bk
    have nk2 := a4.nk
    have l0 := lk_both V2 a8
    have ub0 := V2.1.1 _ _ l0.1.1
    have nN2 := V2.2.2.2.2.2.2.2
    have wl0 := look_ok V2 a8 rfl rfl a9 WD_20 a1
    have ch1 : MC 2 m_M_child [.int (nI i), .int (nI 1)] S3 (some (.int (nI i1))) S3 := MC_child (k := k + 2) (by omega) ⟨i1, CR.sh _ _ _ _ _ (CR.mv nk2 bk2 k sc _ _ _ c0), rfl⟩ (by omega)
    have o3 := op9 bk2
    have hB0 : BS (kI K 23 3 (nI (w + 1))) n := h.2.2.1.2
    have E2 : ENV K2 S3.2 B2 frame y sc ρ2 := E0.mv (fun c v _ q => LU.same hB0 a5.2.1.2.1 a5.2.1.2.2.1 q) (fun p p1 p2 x hx => a5.2.2.2.2.1.2.2.2.2 p p1 p2 x hx) a4.2.2.2.1 a10
    have wle2 : WD w2 ≤ WD (w + 1) := WD_le (by have := a4.2.2.2.2.2.2.2; omega)
    rcases W_child ih h a4 (by omega) (hD.mv nk2 bk2) (CR.mv nk2 bk2 k sc _ _ _ c1) (by omega) E2 (by have := a4.2.2.2.2.2.1; omega) hm with ⟨v', r', w3, K3, T2, S4, ρ3, nv3, nc3, B3, b1, b2, b3, b4, b5, b6, b7, b8, b9, b10, b11⟩ | ⟨w3, K3, T2, S4, ρ3, nv3, nc3, n3', b1, b2, b3, b4, b5, b6⟩
    · have V3 := b4.1.1.1
      have bk3 := b4.bk
      have nk3 := b4.nk
      have l1 := lk_both V3 b8
      have ub1 := V3.1.1 _ _ l1.1.1
      have nN3 := V3.2.2.2.2.2.2.2
      have wl1 := look_ok V3 b8 rfl rfl b9 WD_20 b1
      have wle3 : WD w3 ≤ WD (w + 1) := WD_le (by have := b4.2.2.2.2.2.2.2; omega)
      have ρu0 : ρ3 (lk (rat K2 7) (rsz K2 7) S3.2 ρ2 v r).1 (lk (rat K2 7) (rsz K2 7) S3.2 ρ2 v r).2 := b10 _ _ l0.1.1
      have s0b := V3.1.1 _ _ ρu0
      have nv6 := V3.2.2.2.2.2.1
      have g0 : S4.2 75 (8 * e) = nI r := by have := b7 0 (by omega); rw [Nat.add_zero] at this a6; rw [this]; exact a6
      have seen0 : MC 0 m_M_seen [.int (nI r)] S4 (some (.int (nI (lk (rat K2 7) (rsz K2 7) S3.2 ρ2 v r).2))) S4 := l0.2 S4 (fun x y q => by
        have hy := (V2.1.1 x y q).2.1
        exact ⟨b5.2.2.2.2.2.1 52 (by omega) (by omega) y hy, b5.2.2.2.2.2.1 53 (by omega) (by omega) y hy⟩)
      have seen1 : MC 0 m_M_seen [.int (nI r')] S4 (some (.int (nI (lk (rat K3 7) (rsz K3 7) S4.2 ρ3 v' r').2))) S4 := l1.1.2.2.2 S4 rfl rfl
      have arE := arn_of V3 (K := K3) rfl rfl ρu0 l1.1.1
      have o5 := op9 bk3
      have hst3 := MID.wst h b4
      have hh3 : ∀ h ∈ hl, h + 3 ≤ rsz K3 7 := hst3.1.2.1
      have lp2 : ∀ (x1 x2 : Int32) (o : Option Value) (Sx : cp_S), LPR x1 x2 o Sx S4 → LPR x1 x2 o Sx (ent S w e (nI i) y) := fun x1 x2 o Sx q => lp_choose M0.2.1 o1 (MC_cho_e M0.2.1 (by omega) ch0 a2) (a3 x1 x2 o Sx (lp_choose a4.2.1 o3 (MC_cho_e a4.2.1 (by omega) ch1 b2) (b3 x1 x2 o Sx q)))
      have hu0 : ¬ nI (lk (rat K2 7) (rsz K2 7) S3.2 ρ2 v r).1 = -1 := nI_m1 (by omega)
      have hu1 : ¬ nI (lk (rat K3 7) (rsz K3 7) S4.2 ρ3 v' r').1 = -1 := nI_m1 (by omega)
      -- the decision on both sides
      obtain ⟨yes, K4, S5, hy, kf4, h114, fc5, weq, wlt, csel⟩ : ∃ (yes : Int32) (K4 : cp_K) (S5 : cp_S), (yes = -1 ∨ yes = 0 ∨ yes = 1) ∧ KF [11] K3 K4 ∧ rsz K4 11 < 16000 ∧ FC S4 S5 ∧ (S4.2 40 i = 61 → MC 2 m_M_compare [.int (nI (lk (rat K2 7) (rsz K2 7) S3.2 ρ2 v r).2), .int (nI (lk (rat K3 7) (rsz K3 7) S4.2 ρ3 v' r').2)] S4 (some (.int yes)) S5) ∧ (S4.2 40 i = 60 → S5 = S4 ∧ yes = if S4.2 52 (lk (rat K2 7) (rsz K2 7) S3.2 ρ2 v r).2 = 0 ∧ S4.2 52 (lk (rat K3 7) (rsz K3 7) S4.2 ρ3 v' r').2 = 0 then (if S4.2 53 (lk (rat K3 7) (rsz K3 7) S4.2 ρ3 v' r').2 ≤ S4.2 53 (lk (rat K2 7) (rsz K2 7) S3.2 ρ2 v r).2 then 0 else 1) else -1) ∧ (∀ (rr : Int32) (K5 : cp_K), (yes = -1 → rr = -1 ∧ K5 = K4) → (yes = 0 → KC (WD (w + 1) + 1) m_U_work (fun G => [.ref (cp_b G + 23), va_rf (kr G (K.2.2.1 (K.2.2.1 (K.2.2.1 (K.2.2.1 p 4) 6) 6) 6)), .int (nI (e + 2)), .int (nI frame)]) K4 (fun _ => some (.int rr)) K5) → (yes = 1 → KC (WD (w + 1) + 1) m_U_work (fun G => [.ref (cp_b G + 23), va_rf (kr G (K.2.2.1 (K.2.2.1 (K.2.2.1 p 4) 6) 6)), .int (nI (e + 2)), .int (nI frame)]) K4 (fun _ => some (.int rr)) K5) → KC (WD w - 1) m_U_choose (fun G => [.ref (cp_b G + 23), va_rf (kr G p), .int (nI (e + 1)), .int (nI frame)]) (kI K 23 3 (nI (w + 1))) (fun _ => some (.int rr)) K5) := by
        have np3 : nd K3 p 9 := nk3.2.2 p 9 hp
        rcases hs with ⟨hs1, hs2⟩ | ⟨hs1, hs2⟩
        · obtain ⟨yes, K4, S5, hy, kf4, h114, fc5, kc, mc⟩ := comp_m V3 (K := K3) (S := S4) rfl rfl hst3.2.2.2.2.2.2.2.2.2.2.2 (fun p _ _ => rfl) ρu0 l1.1.1
          have nk4 := nk3.trans kf4.nk
          refine ⟨yes, K4, S5, hy, kf4, h114, fc5, fun _ => mc, fun q => ?_, fun rr K5 u0 u1 u2 => ?_⟩
          · rw [bk3 40 (by omega), hs2] at q; exact absurd q (by decide)
          · refine (c_U_choose (D := WD (w + 1) - 6) (o := fun _ => some (.int rr)) (cho_cls (T3 := K2) (nd_kI hp) rfl (nd_kI n0) rfl q1ne ?_ hu0 ?_ np3 ⟨fun q => absurd q hu1, fun _ => ⟨fun _ => ?_, fun q => ?_⟩⟩)).mono (by omega)
            · rw [e22]; exact wl0.mono (by omega)
            · rw [e22]; exact wl1.mono (by omega)
            · refine b_U_choose_101 ⟨fun _ => ⟨yes, K4, kc.mono (by omega), fun q1 => ⟨fun q2 => ⟨nk4.2.2 p 9 hp, rr, K5, ?_, rfl, rfl⟩, fun q2 => ⟨nk4.2.2 _ 9 n1, rr, K5, ?_, rfl, rfl⟩⟩, fun q1 => ?_⟩, fun hn => absurd rfl hn⟩
              · rw [nk4.2.1, hl5, e22]
                exact (u1 ((hy.resolve_left q1).resolve_right q2)).mono (by omega)
              · rw [nk4.2.1, e22]
                exact (u2 q2).mono (by omega)
              · obtain ⟨rfl, rfl⟩ := u0 q1; exact ⟨rfl, rfl⟩
            · rw [nk3.1 p 0 hp86, hs1] at q; exact absurd q (by decide)
        · have dat : S4.2 52 (lk (rat K2 7) (rsz K2 7) S3.2 ρ2 v r).2 = 0 ∧ S4.2 52 (lk (rat K3 7) (rsz K3 7) S4.2 ρ3 v' r').2 = 0 → rget K3 7 (nI (lk (rat K2 7) (rsz K2 7) S3.2 ρ2 v r).1 + 1) = S4.2 53 (lk (rat K2 7) (rsz K2 7) S3.2 ρ2 v r).2 ∧ rget K3 7 (nI (lk (rat K3 7) (rsz K3 7) S4.2 ρ3 v' r').1 + 1) = S4.2 53 (lk (rat K3 7) (rsz K3 7) S4.2 ρ3 v' r').2 := fun hnum => ⟨by rw [nI_1, rget_of (by omega) (by omega)]; exact num_dat V3 ρu0 hnum.1, by rw [nI_1, rget_of (by omega) (by omega)]; exact num_dat V3 l1.1.1 hnum.2⟩
          refine ⟨_, K3, S4, ?_, KF.refl, hst3.2.2.2.2.2.2.2.2.2.2.2, ⟨fun _ _ => rfl, fun _ _ _ _ => rfl⟩, fun q => ?_, fun _ => ⟨rfl, rfl⟩, fun rr K5 u0 u1 u2 => ?_⟩
          · by_cases hnum : S4.2 52 (lk (rat K2 7) (rsz K2 7) S3.2 ρ2 v r).2 = 0 ∧ S4.2 52 (lk (rat K3 7) (rsz K3 7) S4.2 ρ3 v' r').2 = 0
            · rw [if_pos hnum]
              split
              · exact Or.inr (Or.inl rfl)
              · exact Or.inr (Or.inr rfl)
            · rw [if_neg hnum]; exact Or.inl rfl
          · rw [bk3 40 (by omega), hs2] at q; exact absurd q (by decide)
          · refine (c_U_choose (D := WD (w + 1) - 6) (o := fun _ => some (.int rr)) (cho_cls (T3 := K2) (nd_kI hp) rfl (nd_kI n0) rfl q1ne ?_ hu0 ?_ np3 ⟨fun q => absurd q hu1, fun _ => ⟨fun q => ?_, fun _ => ⟨fun q => ?_, fun q => ?_⟩⟩⟩)).mono (by omega)
            · rw [e22]; exact wl0.mono (by omega)
            · rw [e22]; exact wl1.mono (by omega)
            · rw [nk3.1 p 0 hp86, hs1] at q; exact absurd rfl q
            · by_cases hnum : S4.2 52 (lk (rat K2 7) (rsz K2 7) S3.2 ρ2 v r).2 = 0 ∧ S4.2 52 (lk (rat K3 7) (rsz K3 7) S4.2 ρ3 v' r').2 = 0
              · obtain ⟨d0, d1⟩ := dat hnum
                rw [if_pos hnum] at u0 u1 u2
                refine b_U_choose_101 ⟨fun hn => absurd hn (by decide), fun _ => ?_⟩
                rw [d0, d1]
                by_cases hle : S4.2 53 (lk (rat K3 7) (rsz K3 7) S4.2 ρ3 v' r').2 ≤ S4.2 53 (lk (rat K2 7) (rsz K2 7) S3.2 ρ2 v r).2
                · rw [if_pos hle] at u1 ⊢
                  refine ⟨fun _ => ⟨fun _ => ⟨np3, rr, K5, ?_, rfl, rfl⟩, fun hn => absurd hn (by decide)⟩, fun hn => absurd hn (by decide)⟩
                  rw [nk3.2.1, hl5, e22]
                  exact (u1 rfl).mono (by omega)
                · rw [if_neg hle] at u2 ⊢
                  refine ⟨fun _ => ⟨fun hn => absurd rfl hn, fun _ => ⟨nk3.2.2 _ 9 n1, rr, K5, ?_, rfl, rfl⟩⟩, fun hn => absurd hn (by decide)⟩
                  rw [nk3.2.1, e22]
                  exact (u2 rfl).mono (by omega)
              · rw [if_neg hnum] at arE
                exact absurd arE q
            · by_cases hnum : S4.2 52 (lk (rat K2 7) (rsz K2 7) S3.2 ρ2 v r).2 = 0 ∧ S4.2 52 (lk (rat K3 7) (rsz K3 7) S4.2 ρ3 v' r').2 = 0
              · rw [if_pos hnum] at arE
                rw [arE] at q
                exact absurd q (by decide)
              · rw [if_neg hnum] at u0
                obtain ⟨rfl, rfl⟩ := u0 rfl
                exact ⟨rfl, rfl⟩
      have M4 := MID.cmp b4 hh3 kf4 h114 fc5
      have bk4 := M4.bk
      have nk4 := M4.nk
      have hop4 : S4.2 40 i = 61 ∨ S4.2 40 i = 60 := by rw [bk3 40 (by omega)]; rcases hs with ⟨-, q⟩ | ⟨-, q⟩ <;> (rw [q]; decide)
      have hB4 : BS K4 n := by
        have := M4.1.2.1.2.1
        exact this
      have E4 : ENV K4 S5.2 B3 frame y sc ρ3 := E2.mv (fun c v _ q => by
          have hbs3 := b5.2.1.2.1
          have q2 := LU.same a5.2.1.2.1 hbs3 b5.2.1.2.2.1 q
          have k15 := kf4.2.2.1 15 (by decide)
          have k17 := kf4.2.2.1 17 (by decide)
          have k19 := kf4.2.2.1 19 (by decide)
          exact LU.same hbs3 hB4 (fun q hq x _ => by rcases hq with rfl | rfl | rfl; rw [k15.2]; rw [k17.2]; rw [k19.2]) q2) (fun p p1 p2 x hx => by rw [fc5.2 p (by omega) (by omega) (by omega)]; exact b5.2.2.2.2.1.2.2.2.2 p p1 p2 x hx) b11 b10
      have ch2 : MC 2 m_M_child [.int (nI i), .int 2] S5 (some (.int (nI i2))) S5 := MC_child (t := 2) (k := k + 2) (by omega) ⟨i1, CR.sh _ _ _ _ _ (CR.mv nk4 bk4 k sc _ _ _ c0), i2, CR.sh _ _ _ _ _ (CR.mv nk4 bk4 k sc _ _ _ c1), rfl⟩ (by omega)
      have ch3 : MC 2 m_M_child [.int (nI i), .int 3] S5 (some (.int (nI i3))) S5 := MC_child (t := 3) (k := k + 2) (by omega) ⟨i1, CR.sh _ _ _ _ _ (CR.mv nk4 bk4 k sc _ _ _ c0), i2, CR.sh _ _ _ _ _ (CR.mv nk4 bk4 k sc _ _ _ c1), i3, CR.sh _ _ _ _ _ (CR.mv nk4 bk4 k sc _ _ _ c2), rfl⟩ (by omega)
      have h745 : S5.2 74 e = y := M4.2.1.2.2.2.2.1
      have fin : ∀ (q3 x3 jx : Nat), CR K S.2 ar k sc q3 x3 jx → jx ≤ 2720 → (∀ (rr : Int32) (K5 : cp_K), KC (WD (w + 1) + 1) m_U_work (fun G => [.ref (cp_b G + 23), va_rf (kr G q3), .int (nI (e + 2)), .int (nI frame)]) K4 (fun _ => some (.int rr)) K5 → KC (WD w - 1) m_U_choose (fun G => [.ref (cp_b G + 23), va_rf (kr G p), .int (nI (e + 1)), .int (nI frame)]) (kI K 23 3 (nI (w + 1))) (fun _ => some (.int rr)) K5) → (∀ T, MC 0 m_M_enter [.int (nI x3), .int y] S5 none T → MC 3 m_M_choose [.int (nI e), .int (nI i), .int (nI 2)] S4 none T) → WCON ar hl C K S ρ nv nc e w B n p frame i y := by
        intro q3 x3 jx cq hjx kcl rcl
        rcases W_child ih h M4 (by omega) (hD.mv nk4 bk4) (CR.mv nk4 bk4 k sc _ _ _ cq) hjx E4 (by have := M4.2.2.2.2.2.1; omega) hm with ⟨v2, r2, w4, K5, T3, S6, ρ4, nv4, nc4, B4, d1, d2, d3, d4, d5, d6, d7, d8, d9, d10, d11⟩ | ⟨w4, K5, T3, S6, ρ4, nv4, nc4, n4, d1, d2, d3, d4, d5, d6⟩
        · have hF6 : HF S6 e := FRB.hf hF d4.1.2.2.2.2.1
          have MG := MC_GIV (S := S6) (e := e) (r := r2) d4.2.1.1 (by omega) hF6
          refine Or.inl ⟨v2, r2, w4, K5, ent S w e (nI i) y, S6, ρ4, nv4, nc4, B4, cls _ _ (kcl _ _ (d1.mono (by omega))), enter0, fun x1 x2 o Sx q => lp2 x1 x2 o Sx (lp_choose b4.2.1 o5 (rcl _ d2) (d3 x1 x2 o Sx (lp_choose d4.2.1 (op9 d4.bk) (MC_cho_3 d4.2.1 d6 MG) q))), d4.1.less (by omega) (by omega), d4.2.2.2.2.2.2.2, d4.2.1.1, d4.2.1.2.1, d4.2.2.1, d4.2.2.2.1, (by have := d4.2.2.2.2.1; omega), d8, d9⟩
        · exact Or.inr ⟨w4, K5, ent S w e (nI i) y, S6, ρ4, nv4, nc4, n4, cls _ _ (kcl _ _ (d1.mono (by omega))), enter0, fun x1 x2 => lp2 x1 x2 _ _ (lp_choose b4.2.1 o5 (rcl _ d2) (d3 x1 x2)), d4, d5, d6⟩
      rcases hy with hy | hy | hy
      · -- it can't be told
        refine Or.inr ⟨w3, K4, ent S w e (nI i) y, fld S5, ρ3, nv3, nc3, n, cls _ _ (csel (-1) K4 (fun _ => ⟨rfl, rfl⟩) (fun q => by rw [hy] at q; exact absurd q (by decide)) (fun q => by rw [hy] at q; exact absurd q (by decide))), enter0, fun x1 x2 => lp2 x1 x2 _ _ (lp_choose b4.2.1 o5 (MC_cho_2 b4.2.1 g0 b6 seen0 seen1 (by omega) (by omega) hop4 weq wlt (Or.inl hy) h745 (fun _ => rfl) (fun q => by rw [hy] at q; exact absurd q (by decide)) (fun q => by rw [hy] at q; exact absurd q (by decide))) (lp_fail fld_63)), (M4.1.fld).less (by omega) (by omega), Nat.le_refl _, by have := h.2.2.2.2.2.2.1; omega⟩
      · refine fin _ i3 j c3 hj (fun rr K5 kk => csel rr K5 (fun q => by rw [hy] at q; exact absurd q (by decide)) (fun _ => kk) (fun q => by rw [hy] at q; exact absurd q (by decide))) (fun T mm => MC_cho_2 b4.2.1 g0 b6 seen0 seen1 (by omega) (by omega) hop4 weq wlt (Or.inr (Or.inl hy)) h745 (fun q => by rw [hy] at q; exact absurd q (by decide)) (fun _ => ⟨i3, ch3, mm⟩) (fun q => by rw [hy] at q; exact absurd q (by decide)))
      · refine fin _ i2 i3 c2 (by omega) (fun rr K5 kk => csel rr K5 (fun q => by rw [hy] at q; exact absurd q (by decide)) (fun q => by rw [hy] at q; exact absurd q (by decide)) (fun _ => kk)) (fun T mm => MC_cho_2 b4.2.1 g0 b6 seen0 seen1 (by omega) (by omega) hop4 weq wlt (Or.inr (Or.inr hy)) h745 (fun q => by rw [hy] at q; exact absurd q (by decide)) (fun q => by rw [hy] at q; exact absurd q (by decide)) (fun _ => ⟨i2, ch2, mm⟩))
    · have hu0' : ¬ nI (lk (rat K2 7) (rsz K2 7) S3.2 ρ2 v r).1 = -1 := nI_m1 (by omega)
      refine Or.inr ⟨w3, K3, ent S w e (nI i) y, S4, ρ3, nv3, nc3, n3', cls _ _ ((c_U_choose (D := WD (w + 1) - 6) (o := fun _ => some (.int (-1))) (cho_cls (T3 := K2) (nd_kI hp) rfl (nd_kI n0) rfl q1ne ?_ hu0' ?_ (KU.nd b4.2.1.1 hp) ⟨fun _ => ⟨rfl, rfl⟩, fun q => absurd rfl q⟩)).mono (by omega)), enter0, fun x1 x2 => lp_choose M0.2.1 o1 (MC_cho_e M0.2.1 (by omega) ch0 a2) (a3 x1 x2 _ _ (lp_choose a4.2.1 o3 (MC_cho_e a4.2.1 (by omega) ch1 b2) (b3 x1 x2))), b4, b5, b6⟩
      · rw [e22]; exact wl0.mono (by omega)
      · rw [e22]; exact (look_f WD_20 b1).mono (by omega)
  · refine Or.inr ⟨w2, K2, ent S w e (nI i) y, S2, ρ2, nv2, nc2, n2', cls _ _ ((c_U_choose (D := WD (w + 1) - 6) (o := fun _ => some (.int (-1))) (cho_f1 (nd_kI hp) rfl (nd_kI n0) q1ne ?_ (KU.nd a4.2.1.1 hp) ⟨rfl, rfl⟩)).mono (by omega)), enter0, fun x1 x2 => lp_choose M0.2.1 o1 (MC_cho_e M0.2.1 (by omega) ch0 a2) (a3 x1 x2), a4, a5, a6⟩
    rw [e22]
    exact (look_f WD_20 a1).mono (by omega)
end CPWH
