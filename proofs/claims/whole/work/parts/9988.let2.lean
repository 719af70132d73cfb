/-! ===== running: letters, both sides ===== -/
section CPLE
variable {ar : Nat → Nat} {hl : List Nat} {C : Nat} {K Kc : cp_K} {S Sc : cp_S} {ρ ρc : Nat → Nat → Prop} {nv nc nvc ncc e w wc B Bc n i frame p : Nat} {y : Int32}
theorem let_prg {m c : Nat} {ps : List Nat} {k i' j' : Nat} (ih : WIH ar hl C m) (h : WST ar hl C K S ρ nv nc e w B n) (hF : HF S e) (hD : DIC K S.2 ar) (hop : S.2 39 i = 5) (h41 : S.2 41 i = nI ps.length) (hc : c < 26) (h40 : S.2 40 i = nI c) (h30 : S.2 30 c = 2)
    (q1 : nd K (K.2.2.1 4 c) 10) (q2 : ¬ K.2.1 (K.2.2.1 4 c) 1 = 0) (q3 : nd K (K.2.2.1 (K.2.2.1 4 c) 4) 9) (q4 : 1 ≤ ps.length) (q5 : ps.length ≤ 4) (q7 : ∀ x (h : x < ps.length), S.2 37 (4 * c + x) = nI ps[x]) (q8 : PCH K ps (K.2.2.1 (K.2.2.1 (K.2.2.1 4 c) 4) 4) (K.2.2.1 (K.2.2.1 (K.2.2.1 4 c) 4) 5)) (q9 : S.2 36 c = nI i') (q10 : j' ≤ 2720) (q11 : CR K S.2 ar k (fun c => c ∈ ps) (K.2.2.1 (K.2.2.1 (K.2.2.1 4 c) 4) 5) i' j') (hw : w < 100) (hm : 100 - w < m + 1)
    (g : MID ar hl C K S ρ nv nc e w B n Kc Sc ρc nvc ncc wc Bc (n + ps.length) (1 + ps.length) i ps.length y 6) (hA : ARG Kc Sc ρc e n ps.length) :
    (∃ v r w' K' S2 ρ' nv' nc' B', JC (WD (w + 1) + 2) m_U_apply (fun _ => .inl (some (.int (nI v)))) K' 28 (LA p e frame (K.2.2.1 4 c) n 0) (fun _ => []) Kc ∧ (∀ x1 x2 o Sx, LPR x1 x2 o Sx (GIV e S2 r) → LPR x1 x2 o Sx Sc) ∧ WPO ar hl C K S ρ nv nc e w B n K' S2 ρ' nv' nc' w' n 1 0 ∧ w < w' ∧ S2.1 62 = nI (e + 1) ∧ S2.1 63 = 0 ∧ S2.1 70 = nI B' ∧ B ≤ B' ∧ B' + 6 * w ≤ B + 6 * w' ∧ ρ' v r ∧ v < 2 ^ 31) ∨
    (∃ w' K' S2 ρ' nv' nc', JC (WD (w + 1) + 2) m_U_apply (fun _ => .inl (some (.int (-1)))) K' 28 (LA p e frame (K.2.2.1 4 c) n 0) (fun _ => []) Kc ∧ (∀ x1 x2, LPR x1 x2 (some (.int (-1))) S2 Sc) ∧ WPO ar hl C K S ρ nv nc e w B n K' S2 ρ' nv' nc' w' n 0 0) := by
  have V := g.1.1.1
  have hst := MID.wst h g
  have he := g.2.1.2.2.2.2.2.1
  have hB := g.1.2.1.2.1
  have nb := h.2.2.2.2.2.2.1
  have bk := g.bk
  have nk := g.nk
  have hh : ∀ h ∈ hl, h + 3 ≤ rsz Kc 7 := hst.1.2.1
  have wc100 := hst.2.2.2.1
  have w20 := WD_20 (w := w + 1)
  have gB := g.2.2.2.2.1
  have gB' := g.2.2.2.1
  have hBB := h.2.2.2.2.2.1
  have gw := g.2.2.2.2.2.2.2
  obtain ⟨t, ht⟩ : ∃ t, ps.length = t + 1 := ⟨ps.length - 1, by omega⟩
  have hd0 : ¬ K.2.2.1 4 c = 0 := by have := q1.1; omega
  -- the class names
  obtain ⟨Kn, k1, k2, k3, k4, k5⟩ := nam_loop (D := WD (w + 1) - 7) (x2 := nI n) ps _ n Kc (PCH.mv nk ps _ _ q8) (nk.2.2 _ _ q1) (by rw [nk.2.1]; exact nk.2.2 _ _ q3) (by rw [nk.2.1]) hB.1 (by omega) (by omega)
  have knm : KC (WD (w + 1) + 1) m_U_nameArguments (fun G => [.ref (cp_b G + 23), va_rf (kr G (K.2.2.1 4 c)), .int (nI n)]) Kc (fun _ => none) Kn := by
    refine (c_U_nameArguments (D := WD (w + 1) - 7) (o := fun _ => none) ⟨nk.2.2 _ _ q1, by rw [nk.2.1]; exact nk.2.2 _ _ q3, ?_⟩).mono (by omega)
    rw [nk.2.1]
    exact k5
  have hBn : BS Kn (n + ps.length) := ⟨k2, by rw [(k1.2.2.1 17 (by decide)).1]; exact hB.2.1, by rw [(k1.2.2.1 19 (by decide)).1]; exact hB.2.2⟩
  -- the reference binds
  obtain ⟨Sb, t1, t2, t3, t4, t5, t6⟩ := MC_call_p (i' := i') (t := t) g.2.1 (by rw [bk 41 (by omega)]; exact h41) q5 ht (by rw [bk 40 (by omega)]; exact h40) hc (by rw [bk 30 (by omega), h30]; decide) (fun x hx => by rw [bk 37 (by omega)]; exact q7 x hx) (by rw [bk 36 (by omega)]; exact q9) g.2.2.1 (by omega)
  have W1 := g.1.bnd (k1.sub (by decide)) hBn (fun q hq x hx => by
    rcases hq with rfl | rfl | rfl
    · exact k3 x hx
    · rw [(k1.2.2.1 17 (by decide)).2]
    · rw [(k1.2.2.1 19 (by decide)).2])
  have z7 : rsz Kn 7 = rsz Kc 7 := (k1.2.2.1 7 (by decide)).1
  have W2 := W1.rf (S2 := Sb) (by rw [z7]; exact hh) ⟨fun k hk => t1 k (fun q => hk (by rw [q]; decide)), fun p hp => t3 p (by omega), fun p p1 p2 x _ => by rw [t3 p (by omega)], fun x _ => by rw [t3 75 (by omega)], fun p p1 p2 x hx => t4 p p1 p2 x (by omega)⟩ (fun p p1 p2 => t3 p (by omega)) ⟨t1 35 (by decide), t1 40 (by decide), t1 61 (by decide), t1 60 (by decide)⟩
  have M2 : MID ar hl C K S ρ nv nc e w B n Kn Sb ρc nvc ncc wc (Bc + ps.length) (n + ps.length) (1 + ps.length) i ps.length y 0 := by
    obtain ⟨m1, m2, m3, m4, m5, m6, m7⟩ := g.2.1
    exact ⟨W2, ⟨(t1 62 (by decide)).trans m1, (t1 63 (by decide)).trans m2, by rw [t3 72 (by omega)]; exact m3, by rw [t3 73 (by omega)]; exact m4, by rw [t3 74 (by omega)]; exact m5, m6, m7⟩, t2, by omega, by omega, by omega, by omega, gw⟩
  have E2 : ENV Kn Sb.2 (Bc + ps.length) n (nI (Bc + t)) (fun c => c ∈ ps) ρc := ENV_call (PCH_26 ps _ _ q8) k2 (fun x hx => by
    obtain ⟨-, v, r, z1, z2, z3, z4⟩ := hA x hx
    obtain ⟨u1, u2, u3⟩ := t5 x hx
    refine ⟨k4 x hx, u1, u3, v, r, ?_, z2, u2.trans z3, z4⟩
    rw [(k1.2.2.1 17 (by decide)).2]
    exact z1) ht
  have o5 : Sc.2 39 i = 5 := by rw [bk 39 (by omega)]; exact hop
  have e22 : nI (e + 1) + 1 = nI (e + 2) := nI_1 (e + 1)
  have wle : WD wc ≤ WD (w + 1) := WD_le (by omega)
  have kr2 : Kn.2.2.1 = K.2.2.1 := M2.nk.2.1
  have cl : ∀ (x : Int32) (K2 : cp_K), KC (WD wc) m_U_work (fun G => [.ref (cp_b G + 23), va_rf (kr G (K.2.2.1 (K.2.2.1 (K.2.2.1 4 c) 4) 5)), .int (nI (e + 2)), .int (nI n)]) Kn (fun _ => some (.int x)) K2 → JC (WD (w + 1) + 2) m_U_apply (fun _ => .inl (some (.int x))) (bcut K2 (nI n)) 28 (LA p e frame (K.2.2.1 4 c) n 0) (fun _ => []) Kc := by
    intro x K2 kk
    have hDD : WD (w + 1) + 2 = WD (w + 1) - 6 + 8 := by omega
    rw [hDD]
    refine b_U_apply_28 ⟨fun _ => ⟨fun hn => absurd hn hd0, fun _ => ⟨nk.2.2 _ _ q1, fun hn => absurd (by rw [nk.1 _ 1 q1.1] at hn; exact hn) q2, fun _ => ⟨Kn, knm.mono (by omega), M2.nk.2.2 _ _ q1, by rw [kr2]; exact M2.nk.2.2 _ _ q3, x, K2, ?_, rfl, rfl⟩⟩⟩, fun hn => absurd rfl hn⟩
    rw [kr2, e22]
    exact kk.mono (by omega)
  rcases W_child ih h M2 (by omega) (hD.mv M2.nk M2.bk) (CR.mv M2.nk M2.bk k _ _ _ _ q11) q10 E2 (by omega) hm with ⟨v, r, w2, K2, T1, S3, ρ2, nv2, nc2, B2, a1, a2, a3, a4, a5, a6, a7, a8, a9, a10, a11⟩ | ⟨w2, K2, T1, S2, ρ2, nv2, nc2, n2, a1, a2, a3, a4, a5, a6⟩
  · have hB2 := a4.1.2.1.2.1
    have hF3 : HF S3 e := FRB.hf hF a4.1.2.2.2.2.1
    have MG := MC_GIV (S := S3) (e := e) (r := r) a4.2.1.1 (by omega) hF3
    have W3 := a4.1.bnd (KF.bcut (i := nI n)) (bcut_BS hB2 (m := n) (by omega) (by omega)) (fun q hq x hx => by rw [bcut_at])
    refine Or.inl ⟨v, r, w2, bcut K2 (nI n), S3, ρ2, nv2, nc2, B2, cl _ _ a1, fun x1 x2 o Sx q => lp_call g.2.1 o5 (t6 T1 a2) (a3 x1 x2 o Sx (lp_call a4.2.1 (by rw [a4.bk 39 (by omega)]; exact hop) (MC_call_g a4.2.1 (by rw [a4.bk 41 (by omega)]; exact h41) (by omega) a6 MG) q)), W3.less (by omega) (by omega), a4.2.2.2.2.2.2.2, a4.2.1.1, a4.2.1.2.1, a4.2.2.1, a4.2.2.2.1, by have := a4.2.2.2.2.1; omega, a8, a9⟩
  · have hB2 := a4.2.1.2.1
    have W3 := a4.bnd (KF.bcut (i := nI n)) (bcut_BS hB2 (m := n) a5 (by omega)) (fun q hq x hx => by rw [bcut_at])
    exact Or.inr ⟨w2, bcut K2 (nI n), S2, ρ2, nv2, nc2, cl _ _ a1, fun x1 x2 => lp_call g.2.1 o5 (t6 T1 a2) (a3 x1 x2), W3⟩
theorem W_let {m k j c mm : Nat} {sc : Nat → Prop} (ih : WIH ar hl C m) (h : WST ar hl C K S ρ nv nc e w B n) (hF : HF S e) (hD : DIC K S.2 ar) (hp : nd K p 9) (hs : K.2.1 p 0 = 6) (hop : S.2 39 i = 5) (hc : c < 26) (hmm : mm ≤ 6) (hs1 : K.2.1 p 1 = nI (65 + c)) (h40 : S.2 40 i = nI c) (h41 : S.2 41 i = nI mm) (hk : (S.2 30 c = 1 ∧ mm = ar c) ∨ (S.2 30 c = 2 ∧ S.2 31 c = nI mm)) (hch : CHN (CR K S.2 ar k sc) K mm (K.2.2.1 p 4) (i + 1) j) (hj : j ≤ 2720) (hE : ENV K S.2 B frame y sc ρ) (hf : frame ≤ n) (hm : 100 - w < m + 1) (hw : w < 100) (he : e < 30) : WCON ar hl C K S ρ nv nc e w B n p frame i y := by
  have hle := CHN_le (fun q i j h => SH_lt _ _ _ (CR.sh _ _ _ _ _ h)) _ _ _ _ hch
  have hi : i < 2720 := by omega
  have M0 := MID.start h hw he hi (y := y)
  have wds := WD_s hw
  have w20 := WD_20 (w := w + 1)
  have enter0 : MC 0 m_M_enter [.int (nI i), .int y] S none (ent S w e (nI i) y) := MC_enter h.2.1.2.2.1 h.2.1.2.2.2.1 hw he
  have E0 : ENV (kI K 23 3 (nI (w + 1))) (ent S w e (nI i) y).2 B frame y sc ρ := hE.mv (fun c v _ q => q) (fun p p1 p2 x _ => by rw [ent_2 (by omega)]) (Nat.le_refl _) (fun _ _ q => q)
  have nb := h.2.2.2.2.2.2.1
  have cls : ∀ (r : Int32) (K' : cp_K), JC (WD (w + 1) + 2) m_U_apply (fun _ => .inl (some (.int r))) K' 28 (LA p e frame (K.2.2.1 4 c) n (K.2.2.1 p 4)) (fun _ => []) (kI K 23 3 (nI (w + 1))) → KC (WD w) m_U_work (fun G => [.ref (cp_b G + 23), va_rf (kr G p), .int (nI (e + 1)), .int (nI frame)]) K (fun _ => some (.int r)) K' := by
    intro r K' jc
    have kap : KC (WD (w + 1) + 2) m_U_apply (fun G => [.ref (cp_b G + 23), va_rf (kr G p), .int (nI (e + 1)), .int (nI frame)]) (kI K 23 3 (nI (w + 1))) (fun _ => some (.int r)) K' := by
      have hDD : WD (w + 1) + 2 = WD (w + 1) - 6 + 8 := by omega
      rw [hDD] at jc ⊢
      refine c_U_apply ⟨nd_kI hp, ?_⟩
      have e1 : (kI K 23 3 (nI (w + 1))).2.1 p 1 = nI (65 + c) := by rw [kI_i, cp_up_ne (by have := hp.1; omega)]; exact hs1
      have e2 : rsz (kI K 23 3 (nI (w + 1))) 15 = n := h.2.2.1.2.1
      rw [e1, e2, dfind_of hc]
      exact jc
    refine (c_U_work (D := WD w - 8) (work_go hp h.2.2.1.1 hw he hs (fun hn => absurd hn (by decide)) (fun hn => absurd hn (by decide)) (fun _ => ⟨r, K', kap.mono (by omega), rfl, rfl⟩) (fun hn => absurd hn (by decide)) (fun hn => absurd hn (by decide)) (fun hn => absurd hn (by decide)) (fun hn => absurd hn (by decide)) (by decide))).mono (by omega)
  rcases let_args (p := p) (p4 := K.2.2.1 4 c) (k := k) ih h hD hop h41 hmm hj hf hm hw mm 0 (K.2.2.1 p 4) (i + 1) _ _ ρ nv nc (w + 1) B (by omega) rfl hch M0 E0 (fun x hx => by omega) with ⟨K', S', ρ', nv', nc', w', B', d1, d2, d3, d4⟩ | ⟨K', S', ρ', nv', nc', w', n', d1, d2, d3⟩
  · have g4 := d3.2.2.2.1
    have g5 := d3.2.2.2.2.1
    have g8 := d3.2.2.2.2.2.2.2
    rcases hk with ⟨h30, har⟩ | ⟨h30, h31⟩
    · rcases let_con (frame := frame) h hF hp hop h41 hmm hc hs1 h40 h30 har ((hD c hc).1 h30) hw d3 d4 with ⟨v, r, K2, S2, ρ2, nv2, nc2, b1, b2, b3, b4, b5, b6, b7, b8⟩ | ⟨K2, S2, ρ2, nv2, nc2, b1, b2, b3⟩
      · exact Or.inl ⟨v, r, w', K2, ent S w e (nI i) y, S2, ρ2, nv2, nc2, B', cls _ _ (d1 _ _ b1), enter0, fun x1 x2 o Sx q => d2 x1 x2 o Sx (b2 x1 x2 o Sx q), b3, g8, b4, b5, b6, g4, by omega, b7, b8⟩
      · exact Or.inr ⟨w', K2, ent S w e (nI i) y, S2, ρ2, nv2, nc2, n, cls _ _ (d1 _ _ b1), enter0, fun x1 x2 => d2 x1 x2 _ _ (b2 x1 x2), b3, Nat.le_refl _, by omega⟩
    · obtain ⟨ps, k', i', j', q1, q2, q3, q4, q5, q6, q7, q8, q9, q10, q11⟩ := (hD c hc).2 h30
      have : mm = ps.length := by rw [h31] at q6; exact (nI_eq (by omega) (by omega)).mp q6
      subst this
      rcases let_prg (frame := frame) (p := p) ih h hF hD hop h41 hc h40 h30 q1 q2 q3 q4 q5 q7 q8 q9 q10 q11 hw hm d3 d4 with ⟨v, r, w2, K2, S2, ρ2, nv2, nc2, B2, b1, b2, b3, b4, b5, b6, b7, b8, b9, b10, b11⟩ | ⟨w2, K2, S2, ρ2, nv2, nc2, b1, b2, b3⟩
      · exact Or.inl ⟨v, r, w2, K2, ent S w e (nI i) y, S2, ρ2, nv2, nc2, B2, cls _ _ (d1 _ _ b1), enter0, fun x1 x2 o Sx q => d2 x1 x2 o Sx (b2 x1 x2 o Sx q), b3, b4, b5, b6, b7, b8, b9, b10, b11⟩
      · exact Or.inr ⟨w2, K2, ent S w e (nI i) y, S2, ρ2, nv2, nc2, n, cls _ _ (d1 _ _ b1), enter0, fun x1 x2 => d2 x1 x2 _ _ (b2 x1 x2), b3, Nat.le_refl _, by omega⟩
  · exact Or.inr ⟨w', K', ent S w e (nI i) y, S', ρ', nv', nc', n', cls _ _ d1, enter0, fun x1 x2 => d2 x1 x2, d3⟩
end CPLE
