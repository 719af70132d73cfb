/-! ===== makeSame and compare as methods ===== -/
section CPCO
variable {N nv nc : Nat} {ρ : Nat → Nat → Prop} {hl : List Nat} {f : Nat → Int32} {a : Nat → Nat → Int32} {C : Nat}
theorem firstP (V : VI f N a nv nc ρ hl C) {S : cp_S} (hS : GE S a) {q : cp_Q} (h : ρ q.1.1 q.1.2 ∧ ρ q.2.1 q.2.2) : ∃ S', MC 1 m_M_firstPair [.int (nI q.1.2), .int (nI q.2.2)] S (some (.int (nI 1))) S' ∧ (∀ k, k ≠ 44 → S'.1 k = S.1 k) ∧ S'.1 44 = nI 0 ∧ (∀ p, p ≠ 58 → p ≠ 59 → p ≠ 60 → S'.2 p = S.2 p) ∧ PPH f N a ρ S'.2 1 [q] := by
  have l1 := lk_spec V h.1
  have l2 := lk_spec V h.2
  have s52 : S.2 52 = a 52 := hS 52 (by omega) (by omega)
  have s53 : S.2 53 = a 53 := hS 53 (by omega) (by omega)
  have v0 : vp_in 0 1001 := vp_in_nI (n := 0) (by omega) (by omega)
  refine ⟨(va_up S.1 44 0, va_up (va_up (va_up S.2 58 (upd (S.2 58) 0 (nI (lk f N a ρ q.1.1 q.1.2).2))) 59 (upd (S.2 59) 0 (nI (lk f N a ρ q.2.1 q.2.2).2))) 60 (upd (S.2 60) 0 0)), c_M_firstPair (b_M_firstPair_0 ⟨_, S, l1.2.2.2 S s52 s53, v0, _, _, l2.2.2.2 _ ?_ ?_, v0, v0, rfl, ?_⟩), fun k hk => cp_up_ne hk, (va_up_at (f := S.1) (k := 44) (v := 0)), fun p p1 p2 p3 => ?_, ⟨q, [], rfl, ?_, ?_, ?_, rfl⟩⟩
  · simp only [cp_up_ne (show (52 : Nat) ≠ 58 by decide)]; exact s52
  · simp only [cp_up_ne (show (53 : Nat) ≠ 58 by decide)]; exact s53
  · simp only [cp_up_ne (show (59 : Nat) ≠ 58 by decide), cp_up_ne (show (60 : Nat) ≠ 58 by decide)]; rfl
  · simp only [cp_up_ne p1, cp_up_ne p2, cp_up_ne p3]
  · simp only [cp_up_ne (show (58 : Nat) ≠ 60 by decide), cp_up_ne (show (58 : Nat) ≠ 59 by decide), va_up_at, pk_us]
  · simp only [cp_up_ne (show (59 : Nat) ≠ 60 by decide), va_up_at, pk_us]
  · simp only [va_up_at, pk_us]
theorem startP {K : cp_K} {x y : Int32} (h11 : rsz K 11 < 16000) : KF [11] K (spairs K x y) ∧ RS (spairs K x y) 11 [y, x] := by
  have k1 : KF [11] K (kcut K 11 0) := KF.cut
  have k2 : KF [11] (kcut K 11 0) (kpush (kcut K 11 0) 11 x) := KF.push (by decide)
  have k3 : KF [11] (kpush (kcut K 11 0) 11 x) (kpush (kpush (kcut K 11 0) 11 x) 11 y) := KF.push (by decide)
  have r0 : RS (kcut K 11 0) 11 [] := RS.nil (by omega)
  exact ⟨(k1.trans k2).trans k3, r0.push.push⟩
/-- makeSame on related values -/
theorem same_m (V : VI f N a nv nc ρ hl C) {K : cp_K} {S : cp_S} (eK : rat K 7 = f) (eN : rsz K 7 = N) (h9 : rsz K 9 < 16000) (h11 : rsz K 11 < 16000) (hS : GE S a) {v1 r1 v2 r2 : Nat} (p1 : ρ v1 r1) (p2 : ρ v2 r2) :
    ∃ (ok : Bool) (f' : Nat → Int32) (a' : Nat → Nat → Int32) (C' : Nat) (K' : cp_K) (S' : cp_S), MSP N nv nc ρ hl f a C K S f' a' C' K' S' ∧ KC 10 m_V_makeSame (fun G => [.ref (cp_b G + 6), .int (nI v1), .int (nI v2)]) K (fun _ => some (.int (if ok then 1 else 0))) K' ∧ MC 3 m_M_makeSame [.int (nI r1), .int (nI r2)] S (some (.int (if ok then 1 else 0))) S' := by
  obtain ⟨S1, m1, m2, m3, m4, m5⟩ := firstP V hS (q := ((v1, r1), (v2, r2))) ⟨p1, p2⟩
  obtain ⟨k1, k2⟩ := startP (x := nI v1) (y := nI v2) h11
  have hS1 : GE S1 a := fun p q1 q2 => (m4 p (by omega) (by omega) (by omega)).trans (hS p q1 q2)
  have h91 : rsz (spairs K (nI v1) (nI v2)) 9 < 16000 := by rw [(k1.2.2.1 9 (by decide)).1]; exact h9
  obtain ⟨ok, f', a', C', K', S', i1, i2, i3⟩ := same (x1 := nI v1) (x2 := nI v2) (y1 := nI r1) (y2 := nI r2) 1000 0 f a C (spairs K (nI v1) (nI v2)) S1 [((v1, r1), (v2, r2))] 1 (by omega) V (by rw [(k1.2.2.1 7 (by decide)).2]; exact eK) (by rw [(k1.2.2.1 7 (by decide)).1]; exact eN) h91 k2 hS1 m5 (by omega) m3 (by simp) (fun q hq => by rw [List.mem_singleton.mp hq]; exact ⟨p1, p2⟩)
  have fm : FM S S1 := ⟨fun k _ k2 => m2 k k2, fun p _ h2 => m4 p (by omega) (by omega) (by omega)⟩
  refine ⟨ok, f', a', C', K', S', (MSP.of V eK eN h9 k1 (by rw [k2.1]; simp) hS fm (m4 53 (by decide) (by decide) (by decide)) (m2 42 (by decide))).trans i1, c_V_makeSame (D := 2) ⟨h11, i2⟩, c_M_makeSame (b_M_makeSame_0 ⟨nI 1, S1, m1, i3⟩)⟩
def FC (S S' : cp_S) : Prop := (∀ k, k ≠ 44 → S'.1 k = S.1 k) ∧ ∀ p, p ≠ 58 → p ≠ 59 → p ≠ 60 → S'.2 p = S.2 p
theorem FC.trans {S S1 S2 : cp_S} (h : FC S S1) (g : FC S1 S2) : FC S S2 := ⟨fun k h1 => (g.1 k h1).trans (h.1 k h1), fun p h1 h2 h3 => (g.2 p h1 h2 h3).trans (h.2 p h1 h2 h3)⟩
theorem FP.fc {S S' : cp_S} (h : FP S S') : FC S S' := ⟨fun k _ => by rw [h.1], h.2⟩
theorem comp (V : VI f N a nv nc ρ hl C) {x1 x2 y1 y2 : Int32} : ∀ (b n : Nat) (K : cp_K) (S : cp_S) (L : List cp_Q) (d : Nat), n + b = 1000 → rat K 7 = f → rsz K 7 = N → RS K 11 (fl L) → GE S a → PPH f N a ρ S.2 d L → d ≤ n + 1 → S.1 44 = nI n → L.length ≤ 5 * n + 1 → QR ρ L →
    ∃ (r : Int32) (K' : cp_K) (S' : cp_S), (r = -1 ∨ r = 0 ∨ r = 1) ∧ KF [11] K K' ∧ rsz K' 11 < 16000 ∧ FC S S' ∧
      JC 8 m_V_compare (fun _ => .inl (some (.int r))) K' 8 (fun G => [(0, .ref (cp_b G + 6)), (1, .int x1), (2, .int x2), (3, .int (nI n))]) (fun _ => []) K ∧
      JJ 2 m_M_compare (some (.int r)) S' 7 [(1, .int y1), (2, .int y2), (3, .int (nI d))] S
  | b, n, K, S, [], d, hn, eK, eN, hR, hS, hH, hd, h44, hlen, hQ => by
    have hz : rsz K 11 = 0 := hR.1
    refine ⟨1, K, S, Or.inr (Or.inr rfl), KF.refl, by omega, ⟨fun _ _ => rfl, fun _ _ _ _ => rfl⟩, ?_, ?_⟩
    · refine b_V_compare_8 (D := 0) ?_
      unfold wp_V_compare_8
      rw [hz]
      exact ⟨fun _ => ⟨fun hn => absurd rfl hn, fun _ => ⟨rfl, rfl⟩⟩, fun _ => ⟨fun hn => absurd rfl hn, fun _ => ⟨rfl, rfl⟩⟩⟩
    · rw [PPH_nil hH]
      exact b_M_compare_7 ⟨fun _ => ⟨rfl, rfl⟩, fun hn => absurd (by decide) hn⟩
  | b, n, K, S, q :: L, d, hn, eK, eN, hR, hS, hH, hd, h44, hlen, hQ => by
    obtain ⟨e, rfl⟩ := PPH_cons hH
    obtain ⟨q0, L0, eq0, w1, w2, w3, w4⟩ := hH
    obtain ⟨rfl, rfl⟩ := List.cons.inj eq0
    obtain ⟨hq1, hq2⟩ := hQ q List.mem_cons_self
    have hQ' : QR ρ L := fun q hq => hQ q (List.mem_cons_of_mem _ hq)
    have l1 := lk_spec V hq1
    have l2 := lk_spec V hq2
    have hnv := V.2.2.2.2.2.1
    have hN := V.2.2.2.2.2.2.2
    have B1 := V.1.1 _ _ l1.1
    have B2 := V.1.1 _ _ l2.1
    rw [List.length_cons] at hlen
    have hz : rsz K 11 = 2 * L.length + 2 := by rw [hR.1, fl_len, List.length_cons]; omega
    have hz0 : ¬ nI (rsz K 11) = 0 := nI_ne0 (by omega) (by omega)
    have s1b : (lk f N a ρ q.1.1 q.1.2).2 < 6000 := by omega
    have s2b : (lk f N a ρ q.2.1 q.2.2).2 < 6000 := by omega
    have hx : ¬ nI (e + 1) ≤ 0 := nI_nle (by omega) (by omega)
    have v58 : vp_in (nI e) (cp_ml 58) := vp_in_nI (show e < 1001 by omega) (by decide)
    have v59 : vp_in (nI e) (cp_ml 59) := vp_in_nI (show e < 1001 by omega) (by decide)
    have ce : (nI e).toNatClampNeg = e := nI_clamp (by omega)
    have fc44 : FC S (va_up S.1 44 (S.1 44 + 1), S.2) := ⟨fun k k2 => cp_up_ne k2, fun _ _ _ _ => rfl⟩
    cases b with
    | zero =>
      have hn1 : n = 1000 := by omega
      subst hn1
      refine ⟨-1, K, (va_up S.1 44 (S.1 44 + 1), S.2), Or.inl rfl, KF.refl, by omega, fc44, ?_, ?_⟩
      · exact b_V_compare_8 (D := 0) ⟨fun _ => ⟨fun _ => ⟨rfl, rfl⟩, fun hn => absurd hn hz0⟩, fun hn => absurd (show (1000 : Int32) ≤ nI 1000 by decide) hn⟩
      · refine b_M_compare_7 ⟨fun hn => absurd hn hx, fun _ => ?_⟩
        rw [nI_pred]
        exact ⟨v58, v59, fun _ => ⟨rfl, rfl⟩, fun hn => absurd (show (1000 : Int32) < S.1 44 + 1 by rw [h44]; decide) hn⟩
    | succ b =>
      obtain ⟨r1, rt1⟩ := hR.pop
      obtain ⟨r2, rt2⟩ := r1.pop
      have hK1 : rat (kpop K 11) 7 = f ∧ rsz (kpop K 11) 7 = N := ⟨by rw [kpop_at]; exact eK, by rw [kpop_sz, if_neg (by decide)]; exact eN⟩
      have hK2 : rat (kpop (kpop K 11) 11) 7 = f ∧ rsz (kpop (kpop K 11) 11) 7 = N := ⟨by rw [kpop_at]; exact hK1.1, by rw [kpop_sz, if_neg (by decide)]; exact hK1.2⟩
      have kf2 : KF [11] K (kpop (kpop K 11) 11) := KF.pop.trans KF.pop
      have h11 : rsz (kpop (kpop K 11) 11) 11 < 16000 := by rw [r2.1, fl_len]; omega
      have L1 : KC 7 m_V_lookThrough (fun G => [.ref (cp_b G + 6), .int (rtop K 11)]) (kpop K 11) (fun _ => some (.int (nI (lk f N a ρ q.2.1 q.2.2).1))) (kpop K 11) := by
        rw [rt1]; exact (l2.2.2.1 _ hK1.1 hK1.2).mono (by omega)
      have L2 : KC 7 m_V_lookThrough (fun G => [.ref (cp_b G + 6), .int (rtop (kpop K 11) 11)]) (kpop (kpop K 11) 11) (fun _ => some (.int (nI (lk f N a ρ q.1.1 q.1.2).1))) (kpop (kpop K 11) 11) := by
        rw [rt2]; exact (l1.2.2.1 _ hK2.1 hK2.2).mono (by omega)
      have g1 : rget (kpop (kpop K 11) 11) 7 (nI (lk f N a ρ q.1.1 q.1.2).1) = f (lk f N a ρ q.1.1 q.1.2).1 := by rw [rget_of (by omega) (by omega), hK2.1]
      have g2 : rget (kpop (kpop K 11) 11) 7 (nI (lk f N a ρ q.2.1 q.2.2).1) = f (lk f N a ρ q.2.1 q.2.2).1 := by rw [rget_of (by omega) (by omega), hK2.1]
      have hS2 : GE (va_up S.1 44 (S.1 44 + 1), S.2) a := hS
      have h44' : S.1 44 + 1 = nI (n + 1) := by rw [h44, nI_1]
      have hle : ¬ 1000 < S.1 44 + 1 := by rw [h44']; exact nI_nlt (a := 1000) (b := n + 1) (by omega) (by omega)
      have vs1 : vp_in (nI (lk f N a ρ q.1.1 q.1.2).2) (cp_ml 52) := vp_in_nI (show _ < 6000 by omega) (by decide)
      have vs2 : vp_in (nI (lk f N a ρ q.2.1 q.2.2).2) (cp_ml 52) := vp_in_nI (show _ < 6000 by omega) (by decide)
      have cs1 : (nI (lk f N a ρ q.1.1 q.1.2).2).toNatClampNeg = (lk f N a ρ q.1.1 q.1.2).2 := nI_clamp (by omega)
      have cs2 : (nI (lk f N a ρ q.2.1 q.2.2).2).toNatClampNeg = (lk f N a ρ q.2.1 q.2.2).2 := nI_clamp (by omega)
      have e52 : S.2 52 = a 52 := hS 52 (by omega) (by omega)
      have hn1000 : ¬ (1000 : Int32) ≤ nI n := nI_ge (a := n) (b := 1000) (by omega) (by omega)
      by_cases n41 : f (lk f N a ρ q.1.1 q.1.2).1 = 4
      · refine ⟨-1, kpop (kpop K 11) 11, (va_up S.1 44 (S.1 44 + 1), S.2), Or.inl rfl, kf2, h11, fc44, ?_, ?_⟩
        · refine b_V_compare_8 (D := 0) ⟨fun hn => absurd hn hn1000, fun _ => ⟨fun _ => ⟨_, _, L1, _, _, L2, ?_⟩, fun hn => absurd hn hz0⟩⟩
          rw [g1, if_pos n41]
          exact ⟨fun _ => ⟨rfl, rfl⟩, fun hn => absurd hn (by decide)⟩
        · refine b_M_compare_7 ⟨fun hn => absurd hn hx, fun _ => ?_⟩
          rw [nI_pred, ce, w1, w2, cs1, cs2, e52]
          exact ⟨v58, v59, fun hn => absurd hn hle, fun _ => ⟨vs1, fun _ => ⟨rfl, rfl⟩, fun hn => absurd ((V.h4 l1.1).mp n41) hn⟩⟩
      · by_cases n42 : f (lk f N a ρ q.2.1 q.2.2).1 = 4
        · refine ⟨-1, kpop (kpop K 11) 11, (va_up S.1 44 (S.1 44 + 1), S.2), Or.inl rfl, kf2, h11, fc44, ?_, ?_⟩
          · refine b_V_compare_8 (D := 0) ⟨fun hn => absurd hn hn1000, fun _ => ⟨fun _ => ⟨_, _, L1, _, _, L2, ?_⟩, fun hn => absurd hn hz0⟩⟩
            rw [g1, g2, if_neg n41, if_pos n42]
            exact ⟨fun hn => absurd rfl hn, fun _ => ⟨fun hn => absurd hn (by decide), fun _ => ⟨rfl, rfl⟩⟩⟩
          · refine b_M_compare_7 ⟨fun hn => absurd hn hx, fun _ => ?_⟩
            rw [nI_pred, ce, w1, w2, cs1, cs2, e52]
            exact ⟨v58, v59, fun hn => absurd hn hle, fun _ => ⟨vs1, fun hn => absurd ((V.h4 l1.1).mpr hn) n41, fun _ => ⟨vs2, fun hn => absurd ((V.h4 l2.1).mp n42) hn, fun _ => ⟨rfl, rfl⟩⟩⟩⟩
        · have hd1 : rget (kpop (kpop K 11) 11) 7 (nI (lk f N a ρ q.1.1 q.1.2).1 + 1) = f ((lk f N a ρ q.1.1 q.1.2).1 + 1) := by rw [nI_1, rget_of (by omega) (by omega), hK2.1]
          have hd2 : rget (kpop (kpop K 11) 11) 7 (nI (lk f N a ρ q.2.1 q.2.2).1 + 1) = f ((lk f N a ρ q.2.1 q.2.2).1 + 1) := by rw [nI_1, rget_of (by omega) (by omega), hK2.1]
          have hc1 : rget (kpop (kpop K 11) 11) 7 (nI (lk f N a ρ q.1.1 q.1.2).1 + 2) = f ((lk f N a ρ q.1.1 q.1.2).1 + 2) := by rw [show (2 : Int32) = nI 2 from rfl, nI_add, rget_of (by omega) (by omega), hK2.1]
          have hc2 : rget (kpop (kpop K 11) 11) 7 (nI (lk f N a ρ q.2.1 q.2.2).1 + 2) = f ((lk f N a ρ q.2.1 q.2.2).1 + 2) := by rw [show (2 : Int32) = nI 2 from rfl, nI_add, rget_of (by omega) (by omega), hK2.1]
          have hhs : hsh (kpop (kpop K 11) 11) (nI (lk f N a ρ q.1.1 q.1.2).1) (nI (lk f N a ρ q.2.1 q.2.2).1) = if f (lk f N a ρ q.1.1 q.1.2).1 = f (lk f N a ρ q.2.1 q.2.2).1 ∧ f ((lk f N a ρ q.1.1 q.1.2).1 + 1) = f ((lk f N a ρ q.2.1 q.2.2).1 + 1) ∧ f ((lk f N a ρ q.1.1 q.1.2).1 + 2) = f ((lk f N a ρ q.2.1 q.2.2).1 + 2) then 1 else 0 := by
            unfold hsh
            rw [g1, g2, hd1, hd2, hc1, hc2]
          have hhd := V.head l1.1 l2.1 n41 n42
          have isl := MC_isLevel (S := (va_up S.1 44 (S.1 44 + 1), S.2)) s1b s2b
          dsimp only at isl
          rw [e52, hS 53 (by omega) (by omega), hS 55 (by omega) (by omega)] at isl
          by_cases hlv : f (lk f N a ρ q.1.1 q.1.2).1 = f (lk f N a ρ q.2.1 q.2.2).1 ∧ f ((lk f N a ρ q.1.1 q.1.2).1 + 1) = f ((lk f N a ρ q.2.1 q.2.2).1 + 1) ∧ f ((lk f N a ρ q.1.1 q.1.2).1 + 2) = f ((lk f N a ρ q.2.1 q.2.2).1 + 2)
          · rw [if_pos hlv] at hhs
            rw [if_pos (hhd.mp hlv)] at isl
            obtain ⟨t, t', A, A', c0, c1, c2, c3, c4, c5, c6, c7, c8, c9, c10⟩ := lvl_args V l1.1 l2.1 hlv.2.2
            have hzl : (A.zip A').length = A.length := by rw [List.length_zip, c0]; omega
            obtain ⟨K3, k1, k2, k3⟩ := pap (L := fl L) c0 c5 c6 hN c8 c9 c1 (by rw [fl_len]; omega) A.length (kpop (kpop K 11) 11) (Nat.le_refl _) hK2.1 hK2.2 (by rw [← hzl, List.drop_length]; exact r2)
            have hP2 : PP (va_up S.1 44 (S.1 44 + 1), S.2).2 (e + 1) (rfs (A.zip A' ++ L)) := by
              refine ⟨_, _, A.length, t, t', 0, rfs L, s1b, s2b, w1, w2, w3, by rw [hS 55 (by omega) (by omega)]; exact c3, fun h => by rw [hS 54 (by omega) (by omega)]; exact c4 h, Nat.zero_le _, c1, ?_, w4⟩
              rw [hS 56 (by omega) (by omega)]
              show rfs (A.zip A' ++ L) = ws2 (a 56) t t' A.length ++ rfs L
              rw [c10]
              exact List.map_append
            have hQ2 : QR ρ (A.zip A' ++ L) := fun q hq => by
              rcases List.mem_append.mp hq with h | h
              · exact c7 q h
              · exact hQ' q h
            obtain ⟨d', S4, n1, n2, n3, n4⟩ := np_H V hS2 hP2 hQ2 (by omega)
            have e3 : rat K3 7 = f := by rw [(k1.2.2.1 7 (by decide)).2]; exact hK2.1
            have en3 : rsz K3 7 = N := by rw [(k1.2.2.1 7 (by decide)).1]; exact hK2.2
            have hl2 : (A.zip A' ++ L).length ≤ 5 * (n + 1) + 1 := by rw [List.length_append, hzl]; omega
            obtain ⟨r, K', S', i0, i1, i11, i4, i2, i3⟩ := comp V (x1 := x1) (x2 := x2) (y1 := y1) (y2 := y2) b (n + 1) K3 S4 (A.zip A' ++ L) d' (by omega) e3 en3 (by rw [fl_app]; exact k2) (hS2.fp n2) n3 (by omega) (by rw [n2.1, h44']; simp only [va_up_at]) hl2 hQ2
            refine ⟨r, K', S', i0, (kf2.trans k1).trans i1, i11, (fc44.trans n2.fc).trans i4, ?_, ?_⟩
            · refine b_V_compare_8 (D := 0) ⟨fun hn => absurd hn hn1000, fun _ => ⟨fun _ => ⟨_, _, L1, _, _, L2, ?_⟩, fun hn => absurd hn hz0⟩⟩
              rw [g1, g2, if_neg n41, if_neg n42, hhs]
              refine ⟨fun hn => absurd rfl hn, fun _ => ⟨fun _ => ⟨fun _ => ⟨K3, ?_, ?_⟩, fun hn => absurd hn (by decide)⟩, fun hn => absurd rfl hn⟩⟩
              · refine (c_V_pushArgumentPairs (D := 0) ?_).mono (by omega)
                unfold wp_V_pushArgumentPairs_0
                rw [hc1, c2, show (3 : Int32) = nI 3 from rfl, nI_add, show 3 + A.length = 2 + A.length + 1 by omega, nI_pred]
                exact k3
              · rw [nI_1]; exact i2
            · refine b_M_compare_7 ⟨fun hn => absurd hn hx, fun _ => ?_⟩
              rw [nI_pred, ce, w1, w2, cs1, cs2, e52]
              exact ⟨v58, v59, fun hn => absurd hn hle, fun _ => ⟨vs1, fun hn => absurd ((V.h4 l1.1).mpr hn) n41, fun _ => ⟨vs2, fun _ => ⟨1, _, isl, fun _ => ⟨nI d', S4, n1, i3⟩, fun hn => absurd hn (by decide)⟩, fun hn => absurd ((V.h4 l2.1).mpr hn) n42⟩⟩⟩
          · rw [if_neg hlv] at hhs
            rw [if_neg (fun h => hlv (hhd.mpr h))] at isl
            refine ⟨0, kpop (kpop K 11) 11, (va_up S.1 44 (S.1 44 + 1), S.2), Or.inr (Or.inl rfl), kf2, h11, fc44, ?_, ?_⟩
            · refine b_V_compare_8 (D := 0) ⟨fun hn => absurd hn hn1000, fun _ => ⟨fun _ => ⟨_, _, L1, _, _, L2, ?_⟩, fun hn => absurd hn hz0⟩⟩
              rw [g1, g2, if_neg n41, if_neg n42, hhs]
              exact ⟨fun hn => absurd rfl hn, fun _ => ⟨fun _ => ⟨fun hn => absurd rfl hn, fun _ => ⟨rfl, rfl⟩⟩, fun hn => absurd rfl hn⟩⟩
            · refine b_M_compare_7 ⟨fun hn => absurd hn hx, fun _ => ?_⟩
              rw [nI_pred, ce, w1, w2, cs1, cs2, e52]
              exact ⟨v58, v59, fun hn => absurd hn hle, fun _ => ⟨vs1, fun hn => absurd ((V.h4 l1.1).mpr hn) n41, fun _ => ⟨vs2, fun _ => ⟨0, _, isl, fun hn => absurd rfl hn, fun _ => ⟨rfl, rfl⟩⟩, fun hn => absurd ((V.h4 l2.1).mpr hn) n42⟩⟩⟩
theorem comp_m (V : VI f N a nv nc ρ hl C) {K : cp_K} {S : cp_S} (eK : rat K 7 = f) (eN : rsz K 7 = N) (h11 : rsz K 11 < 16000) (hS : GE S a) {v1 r1 v2 r2 : Nat} (p1 : ρ v1 r1) (p2 : ρ v2 r2) :
    ∃ (r : Int32) (K' : cp_K) (S' : cp_S), (r = -1 ∨ r = 0 ∨ r = 1) ∧ KF [11] K K' ∧ rsz K' 11 < 16000 ∧ FC S S' ∧ KC 8 m_V_compare (fun G => [.ref (cp_b G + 6), .int (nI v1), .int (nI v2)]) K (fun _ => some (.int r)) K' ∧ MC 2 m_M_compare [.int (nI r1), .int (nI r2)] S (some (.int r)) S' := by
  obtain ⟨S1, m1, m2, m3, m4, m5⟩ := firstP V hS (q := ((v1, r1), (v2, r2))) ⟨p1, p2⟩
  obtain ⟨k1, k2⟩ := startP (x := nI v1) (y := nI v2) h11
  have hS1 : GE S1 a := fun p q1 q2 => (m4 p (by omega) (by omega) (by omega)).trans (hS p q1 q2)
  obtain ⟨r, K', S', i0, i1, i11, i4, i2, i3⟩ := comp V (x1 := nI v1) (x2 := nI v2) (y1 := nI r1) (y2 := nI r2) 1000 0 (spairs K (nI v1) (nI v2)) S1 [((v1, r1), (v2, r2))] 1 (by omega) (by rw [(k1.2.2.1 7 (by decide)).2]; exact eK) (by rw [(k1.2.2.1 7 (by decide)).1]; exact eN) k2 hS1 m5 (by omega) m3 (by simp) (fun q hq => by rw [List.mem_singleton.mp hq]; exact ⟨p1, p2⟩)
  exact ⟨r, K', S', i0, k1.trans i1, i11, FC.trans ⟨m2, m4⟩ i4, c_V_compare (D := 0) ⟨h11, i2⟩, c_M_compare (b_M_compare_0 ⟨nI 1, S1, m1, i3⟩)⟩
end CPCO
