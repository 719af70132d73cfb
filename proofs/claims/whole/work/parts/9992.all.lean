/-! ===== running: { } and all codes ===== -/
section CPWM
variable {ar : Nat → Nat} {hl : List Nat} {C : Nat} {K : cp_K} {S : cp_S} {ρ : Nat → Nat → Prop} {nv nc e w B n p frame i : Nat} {y : Int32}
theorem W_mat {m k j i1 mc : Nat} {sc : Nat → Prop} (ih : WIH ar hl C m) (h : WST ar hl C K S ρ nv nc e w B n) (hF : HF S e) (hD : DIC K S.2 ar) (hp : nd K p 9) (hs : K.2.1 p 0 = 9) (hop : S.2 39 i = 8) (hmc1 : 1 ≤ mc) (hmc : mc ≤ 5) (h41 : S.2 41 i = nI mc) (hc0 : CR K S.2 ar k sc (K.2.2.1 p 4) (i + 1) i1) (hcs : CSE (CR K S.2 ar k) K S.2 ar sc mc (K.2.2.1 (K.2.2.1 p 4) 6) i1 j) (hj : j ≤ 2720) (hE : ENV K S.2 B frame y sc ρ) (hf : frame ≤ n) (hm : 100 - w < m + 1) (hw : w < 100) (he : e < 30) : WCON ar hl C K S ρ nv nc e w B n p frame i y := by
  have lt0 := SH_lt _ _ _ (CR.sh _ _ _ _ _ hc0)
  have lej := SHL_le (SH_lt _) _ _ _ (CSE_SHL (fun sc q i j => CR.sh k sc q i j) _ _ _ _ hcs)
  have hi : i < 2720 := by omega
  have M0 := MID.start h hw he hi (y := y)
  have wds := WD_s hw
  have w20 := WD_20 (w := w + 1)
  have nb := h.2.2.2.2.2.2.1
  have hBB := h.2.2.2.2.2.1
  have enter0 : MC 0 m_M_enter [.int (nI i), .int y] S none (ent S w e (nI i) y) := MC_enter h.2.1.2.2.1 h.2.1.2.2.2.1 hw he
  have E0 : ENV (kI K 23 3 (nI (w + 1))) (ent S w e (nI i) y).2 B frame y sc ρ := hE.mv (fun c v _ q => q) (fun p p1 p2 x _ => by rw [ent_2 (by omega)]) (Nat.le_refl _) (fun _ _ q => q)
  have n0 := CR.nd hc0
  have f0 : ¬ K.2.2.1 p 4 = 0 := by have := n0.1; omega
  have op8 : ∀ {Sx : cp_S}, BK S.2 Sx.2 → Sx.2 39 i = 8 := fun {Sx} hb => by rw [hb 39 (by omega)]; exact hop
  have e22 : nI (e + 1) + 1 = nI (e + 2) := nI_1 (e + 1)
  have cls : ∀ (r : Int32) (K' : cp_K), KC (WD (w + 1) + 2) m_U_match (fun G => [.ref (cp_b G + 23), va_rf (kr G p), .int (nI (e + 1)), .int (nI frame)]) (kI K 23 3 (nI (w + 1))) (fun _ => some (.int r)) K' → KC (WD w) m_U_work (fun G => [.ref (cp_b G + 23), va_rf (kr G p), .int (nI (e + 1)), .int (nI frame)]) K (fun _ => some (.int r)) K' := fun r K' kap => (c_U_work (D := WD w - 8) (work_go hp h.2.2.1.1 hw he hs (fun hn => absurd hn (by decide)) (fun hn => absurd hn (by decide)) (fun hn => absurd hn (by decide)) (fun hn => absurd hn (by decide)) (fun _ => ⟨r, K', kap.mono (by omega), rfl, rfl⟩) (fun hn => absurd hn (by decide)) (fun hn => absurd hn (by decide)) (by decide))).mono (by omega)
  have hDD : WD (w + 1) + 2 = WD (w + 1) - 6 + 8 := by omega
  have fE : (kI K 23 3 (nI (w + 1))).2.2.1 = K.2.2.1 := rfl
  rcases W_child ih h M0 (by omega) (hD.mv M0.nk M0.bk) (CR.mv M0.nk M0.bk k sc _ _ _ hc0) (by omega) E0 hf hm with ⟨v, r, w2, K2, T1, S3, ρ2, nv2, nc2, B2, a1, a2, a3, a4, a5, a6, a7, a8, a9, a10, a11⟩ | ⟨w2, K2, T1, S2, ρ2, nv2, nc2, n2, a1, a2, a3, a4, a5, a6⟩
  · have V2 := a4.1.1.1
    have bk2 := a4.bk
    have nk2 := a4.nk
    have l0 := lk_both V2 a8
    have ub0 := V2.1.1 _ _ l0.1.1
    have nN2 := V2.2.2.2.2.2.2.2
    have nv6 := V2.2.2.2.2.2.1
    have wl0 := look_ok V2 a8 rfl rfl a9 WD_20 a1
    have ρu := l0.1.1
    have seen0 : MC 0 m_M_seen [.int (nI r)] S3 (some (.int (nI (lk (rat K2 7) (rsz K2 7) S3.2 ρ2 v r).2))) S3 := l0.1.2.2.2 S3 rfl rfl
    obtain ⟨u, s0, hu, hs0⟩ : ∃ u s0, (lk (rat K2 7) (rsz K2 7) S3.2 ρ2 v r).1 = u ∧ (lk (rat K2 7) (rsz K2 7) S3.2 ρ2 v r).2 = s0 := ⟨_, _, rfl, rfl⟩
    rw [hs0] at seen0
    rw [hu] at wl0
    rw [hu, hs0] at ρu ub0
    have g0 : S3.2 75 (8 * e) = nI r := by rw [Nat.add_zero] at a6; exact a6
    have bh : MC 1 m_M_behind [.int (nI (i + 1))] S3 (some (.int (nI i1))) S3 := MC_behind (CR.sh _ _ _ _ _ (CR.mv nk2 bk2 k sc _ _ _ hc0)) (by omega)
    have h41' : S3.2 41 i = nI mc := by rw [bk2 41 (by omega)]; exact h41
    have lp1 : ∀ (x1 x2 : Int32) (o : Option Value) (Sx : cp_S), LPR x1 x2 o Sx S3 → LPR x1 x2 o Sx (ent S w e (nI i) y) := fun x1 x2 o Sx q => lp_match M0.2.1 (op8 M0.bk) (MC_match_e M0.2.1 a2) (a3 x1 x2 o Sx q)
    have lp2 : ∀ (T : cp_S), JJ 2 m_M_match none T 74 (LM e i s0 y i1 0) S3 → ∀ (x1 x2 : Int32) (o : Option Value) (Sx : cp_S), LPR x1 x2 o Sx T → LPR x1 x2 o Sx (ent S w e (nI i) y) := fun T jj x1 x2 o Sx q => lp1 x1 x2 o Sx (lp_match a4.2.1 (op8 bk2) (MC_match_1 a4.2.1 g0 seen0 bh jj) q)
    have hum : ¬ nI u = -1 := nI_m1 (by omega)
    have ru : rget K2 7 (nI u) = rat K2 7 u := rget_of (by omega) (by omega)
    have BS2 : BS K2 n := a5.2.1.2.1
    have wle2 : WD w2 ≤ WD (w + 1) := WD_le (by have := a4.2.2.2.2.2.2.2; omega)
    by_cases h4 : rat K2 7 u = 4
    · -- an open hole
      have h52 : S3.2 52 s0 = 2 := (V2.h4 ρu).mp h4
      have kk : KC (WD (w + 1) + 2) m_U_match (fun G => [.ref (cp_b G + 23), va_rf (kr G p), .int (nI (e + 1)), .int (nI frame)]) (kI K 23 3 (nI (w + 1))) (fun _ => some (.int (-1))) K2 := by
        rw [hDD]
        refine c_U_match (o := fun _ => some (.int (-1))) ⟨nd_kI hp, nI u, K2, by rw [e22]; exact wl0.mono (by omega), fun hn => absurd hn f0, fun _ => ⟨fun hn => absurd hn hum, fun _ => ⟨fun hn => ?_, fun _ => ⟨rfl, rfl⟩⟩⟩⟩
        rw [ru, if_pos h4] at hn
        exact absurd hn (by decide)
      have jj : JJ 2 m_M_match none (fld S3) 74 (LM e i s0 y i1 0) S3 := by
        refine b_M_match_74 ?_
        unfold wp_M_match_74
        rw [nI_clamp (show i < 2 ^ 31 by omega), nI_clamp (show s0 < 2 ^ 31 by omega), h41', h52]
        exact ⟨vp_in_nI (show i < 2720 by omega) (by decide), fun _ => ⟨rfl, rfl⟩, fun _ => ⟨vp_in_nI (show s0 < 6000 by omega) (by decide), fun _ => ⟨rfl, rfl⟩, fun hn => absurd rfl hn⟩⟩
      exact Or.inr ⟨w2, K2, ent S w e (nI i) y, fld S3, ρ2, nv2, nc2, n, cls _ _ kk, enter0, fun x1 x2 => lp2 _ jj x1 x2 _ _ (lp_fail fld_63), (a4.1.fld).less (by omega) (by omega), Nat.le_refl _, by omega⟩
    · have toJC : ∀ (x : Int32) (K' : cp_K), JC (WD (w + 1) - 6 + 8) m_U_match (fun _ => .inl (some (.int x))) K' 50 (LB p e frame (K.2.2.1 p 4) u (K.2.2.1 (K.2.2.1 p 4) 6)) (fun _ => []) K2 → KC (WD (w + 1) + 2) m_U_match (fun G => [.ref (cp_b G + 23), va_rf (kr G p), .int (nI (e + 1)), .int (nI frame)]) (kI K 23 3 (nI (w + 1))) (fun _ => some (.int x)) K' := by
        intro x K' jc
        rw [hDD]
        refine c_U_match (o := fun _ => some (.int x)) ⟨nd_kI hp, nI u, K2, by rw [e22]; exact wl0.mono (by omega), fun hn => absurd hn f0, fun _ => ⟨fun hn => absurd hn hum, fun _ => ⟨fun _ => ⟨nk2.2.2 _ _ n0, ?_⟩, fun hn => absurd ?_ hn⟩⟩⟩
        · rw [nk2.2.1]; exact jc
        · rw [ru, if_neg h4]
      have hcs2 : CSE (CR K2 S3.2 ar k) K2 S3.2 ar sc mc (K.2.2.1 (K.2.2.1 p 4) 6) i1 j := CSE.mv nk2 bk2 (fun sc => CR.mv nk2 bk2 k sc) mc _ _ _ hcs
      rcases cases_go (D := WD (w + 1) - 6) (p := p) (e := e) (frame := frame) (p4 := K.2.2.1 p 4) (y := y) V2 ρu h4 h41' hmc hi hj mc 0 _ i1 (by omega) hcs2 with ⟨d1, d2⟩ | ⟨q', ip, vs, t', j2, d1, d2, d3, d4, d5, d6, d7, d8, d9⟩
      · exact Or.inr ⟨w2, K2, ent S w e (nI i) y, fld S3, ρ2, nv2, nc2, n, cls _ _ (toJC _ _ d1), enter0, fun x1 x2 => lp2 _ d2 x1 x2 _ _ (lp_fail fld_63), (a4.1.fld).less (by omega) (by omega), Nat.le_refl _, by omega⟩
      · have len6 := d3.1
        have ltp := SH_lt _ _ _ (CR.sh _ _ _ _ _ d5)
        obtain ⟨tt, z54, zA⟩ := fit_args V2 a4.1.1.2.1 ρu d3 d7
        have vch := d3.2.2.1
        have vat := VCH_at vs _ _ vch
        have gB := a4.2.2.2.2.1
        have gB' := a4.2.2.2.1
        have gw := a4.2.2.2.2.2.2.2
        have w100 := a4.1.2.2.2.1.2.1
        obtain ⟨Kb, k1, k2, k3, k4, k5⟩ := bv_loop (D := WD (w + 1) - 7) (p1 := K2.2.2.1 q' 4) (u := u) (f := rat K2 7) (N := rsz K2 7) vs _ 0 (ip + 1) n K2 vch BS2 (by omega) rfl rfl (by omega) (fun hl => by have := (z54 hl).2.2; omega)
        obtain ⟨Sb, t1, t2, t3, t4, t5, t6⟩ := mb_loop (e := e) (i := i) (s := s0) (y := y) (B := B2) (ip := ip) (tt := tt) (i8 := ip + 1 + vs.length) (x3 := nI 1) (x7 := nI t') (x9 := 1) (vs := vs) len6 (by omega) (by omega) (by omega) S3.2 d3.2.1 (fun x hx => (vat x hx).2) (fun hl => ⟨(z54 hl).1, (z54 hl).2.1⟩) vs.length 0 S3 (by omega) a4.2.2.1 (fun _ _ => rfl)
        have z7 : rsz Kb 7 = rsz K2 7 := (k1.2.2.1 7 (by decide)).1
        have W1 := a4.1.bnd k1 k2 k3
        have hh : ∀ h ∈ hl, h + 3 ≤ rsz K2 7 := (MID.wst h a4).1.2.1
        have W2 := W1.rf (S2 := Sb) (by rw [z7]; exact hh) ⟨fun k hk => t1 k (fun q => hk (by rw [q]; decide)), fun p hp => t3 p (by omega), fun p p1 p2 x _ => by rw [t3 p (by omega)], fun x _ => by rw [t3 75 (by omega)], fun p p1 p2 x hx => t4 p p1 p2 x (by omega)⟩ (fun p p1 p2 => t3 p (by omega)) ⟨t1 35 (by decide), t1 40 (by decide), t1 61 (by decide), t1 60 (by decide)⟩
        have M2 : MID ar hl C K S ρ nv nc e w B n Kb Sb ρ2 nv2 nc2 w2 (B2 + vs.length) (n + vs.length) (1 + 1) i 1 y 0 := by
          obtain ⟨m1, m2, m3, m4, m5, m6, m7⟩ := a4.2.1
          exact ⟨W2, ⟨(t1 62 (by decide)).trans m1, (t1 63 (by decide)).trans m2, by rw [t3 72 (by omega)]; exact m3, by rw [t3 73 (by omega)]; exact m4, by rw [t3 74 (by omega)]; exact m5, m6, m7⟩, t2, by omega, by omega, by omega, by omega, gw⟩
        have E2 : ENV K2 S3.2 B2 frame y sc ρ2 := E0.mv (fun c v _ q => LU.same (show BS (kI K 23 3 (nI (w + 1))) n from h.2.2.1.2) BS2 a5.2.1.2.2.1 q) (fun p p1 p2 x hx => a5.2.2.2.2.1.2.2.2.2 p p1 p2 x hx) gB' a10
        have E3 : ENV Kb Sb.2 (B2 + vs.length) frame (zf y B2 vs.length) (fun c => sc c ∨ c ∈ vs) ρ2 := ENV_match E2 hf BS2 k2 k3 (fun p p1 p2 x hx => t4 p p1 p2 x (by omega)) (fun x hx => by
          obtain ⟨u1, u2, u3⟩ := t5 x (by omega) hx
          obtain ⟨v', r', y1, y2, y3, y4⟩ := zA x hx
          exact ⟨(vat x hx).1, (k4 x hx).1, u1, u3, v', r', by rw [(k4 x hx).2, Nat.add_zero]; exact y1, y2, u2.trans y3, y4⟩)
        have kbv : KC (WD (w + 1) + 1) m_U_bindVariables (fun G => [.ref (cp_b G + 23), va_rf (kr G (K2.2.2.1 q' 4)), .int (nI u)]) K2 (fun _ => none) Kb := (c_U_bindVariables (D := WD (w + 1) - 7) (o := fun _ => none) ⟨d2, k5⟩).mono (by omega)
        have nkb := k1.nk
        have cl : ∀ (x : Int32) (K5 : cp_K), KC (WD w2) m_U_work (fun G => [.ref (cp_b G + 23), va_rf (kr G (K2.2.2.1 q' 5)), .int (nI (e + 2)), .int (nI frame)]) Kb (fun _ => some (.int x)) K5 → KC (WD w) m_U_work (fun G => [.ref (cp_b G + 23), va_rf (kr G p), .int (nI (e + 1)), .int (nI frame)]) K (fun _ => some (.int x)) (bcut K5 (nI n)) := by
          intro x K5 kk
          refine cls _ _ (toJC _ _ (d8 _ _ (b_U_match_50 ⟨fun hn => absurd hn (by have := d1.1; omega), fun _ => ⟨d1, d2, fun hn => absurd hn ((fit_iff V2 rfl rfl ρu h4 d3).mpr d7), fun _ => ⟨Kb, kbv.mono (by omega), nkb.2.2 _ _ d1, x, K5, ?_, rfl, by rw [BS2.1]⟩⟩⟩)))
          rw [nkb.2.1, e22]
          exact kk.mono (by omega)
        have lp3 : ∀ T1', MC 0 m_M_enter [.int (nI (ip + 1 + vs.length)), .int (zf y B2 vs.length)] Sb none T1' → ∀ (x1 x2 : Int32) (o : Option Value) (Sx : cp_S), LPR x1 x2 o Sx T1' → LPR x1 x2 o Sx (ent S w e (nI i) y) := fun T1' mm x1 x2 o Sx q => lp2 T1' (d9 _ _ (t6 T1' mm)) x1 x2 o Sx q
        rcases W_child ih h M2 (by omega) (hD.mv M2.nk M2.bk) (CR.mv nkb (fun p hp => t3 p (by omega)) k _ _ _ _ d5) d6 E3 (by omega) hm with ⟨v', r', w3, K3, T2, S4, ρ3, nv3, nc3, B3, b1, b2, b3, b4, b5, b6, b7, b8, b9, b10, b11⟩ | ⟨w3, K3, T2, S4, ρ3, nv3, nc3, n3, b1, b2, b3, b4, b5, b6⟩
        · have hB3 := b4.1.2.1.2.1
          have hF4 : HF S4 e := FRB.hf hF b4.1.2.2.2.2.1
          have MG := MC_GIV (S := S4) (e := e) (r := r') b4.2.1.1 (by omega) hF4
          have W3 := b4.1.bnd (KF.bcut (i := nI n)) (bcut_BS hB3 (m := n) (by omega) (by omega)) (fun q hq x hx => by rw [bcut_at])
          exact Or.inl ⟨v', r', w3, bcut K3 (nI n), ent S w e (nI i) y, S4, ρ3, nv3, nc3, B3, cl _ _ b1, enter0, fun x1 x2 o Sx q => lp3 T2 b2 x1 x2 o Sx (b3 x1 x2 o Sx (lp_match b4.2.1 (op8 b4.bk) (MC_match_g b4.2.1 b6 MG) q)), W3.less (by omega) (by omega), b4.2.2.2.2.2.2.2, b4.2.1.1, b4.2.1.2.1, b4.2.2.1, b4.2.2.2.1, by have := b4.2.2.2.2.1; omega, b8, b9⟩
        · have W3 := b4.bnd (KF.bcut (i := nI n)) (bcut_BS b4.2.1.2.1 (m := n) b5 (by omega)) (fun q hq x hx => by rw [bcut_at])
          exact Or.inr ⟨w3, bcut K3 (nI n), ent S w e (nI i) y, S4, ρ3, nv3, nc3, n, cl _ _ b1, enter0, fun x1 x2 => lp3 T2 b2 x1 x2 _ _ (b3 x1 x2), W3, Nat.le_refl _, by omega⟩
  · refine Or.inr ⟨w2, K2, ent S w e (nI i) y, S2, ρ2, nv2, nc2, n2, cls _ _ ?_, enter0, fun x1 x2 => lp_match M0.2.1 (op8 M0.bk) (MC_match_e M0.2.1 a2) (a3 x1 x2), a4, a5, a6⟩
    rw [hDD]
    exact c_U_match (o := fun _ => some (.int (-1))) ⟨nd_kI hp, -1, K2, by rw [e22]; exact (look_f WD_20 a1).mono (by omega), fun hn => absurd hn f0, fun _ => ⟨fun _ => ⟨rfl, rfl⟩, fun hn => absurd rfl hn⟩⟩
/-- all codes -/
theorem W_all : ∀ m : Nat, WIH ar hl C m
  | 0 => fun K S ρ nv nc e w B n p frame i y k sc j _ _ _ _ _ _ _ hm => by omega
  | m + 1 => fun K S ρ nv nc e w B n p frame i y k sc j h hF hD hC hj hE hf hm => by
    have ih := W_all m
    cases k with
    | zero => exact hC.elim
    | succ k =>
      have hlt := SH_lt _ _ _ (CR.sh _ _ _ _ _ hC)
      obtain ⟨hp, hC⟩ := hC
      have b1 := h.2.2.2.1
      have b2 := h.2.2.2.2.1
      by_cases ho : w = 100 ∨ e = 30
      · exact W_out h hp ho
      · have hw : w < 100 := by omega
        have he : e < 30 := by omega
        have hi : i < 2720 := by omega
        rcases hC with ⟨q1, q2, ⟨c, q3, q4, q5, q6⟩, -⟩ | ⟨q1, q2, q3, -⟩ | ⟨q1, q2, -⟩ | ⟨q1, q2, c, mm, q3, q4, q5, q6, q7, q8, q9, q10⟩ | ⟨q1, q2, q3⟩ | ⟨q1, q2, mc, i1, q3, q4, q5, q6, q7⟩ | ⟨q1, q2, q3, q4⟩
        · exact W_var h hF hw he hp q1 q2 q3 q4 q5 q6 hE hi
        · exact W_num h hF hw he hp q1 q2 q3 hi
        · exact W_til h hw he hp q1 q2 hi
        · exact W_let ih h hF hD hp q1 q2 q3 q4 q5 q6 q8 q9 q10 hj hE hf hm hw he
        · exact W_add ih h hF hD hp q1 q2 q3 hj hE hf hm hw he
        · exact W_mat ih h hF hD hp q1 q2 q3 q4 q5 q6 q7 hj hE hf hm hw he
        · exact W_cho ih h hF hD hp q1 q2 q3 q4 hj hE hf hm hw he
end CPWM
