/-! ===== makeSame, both sides at once ===== -/
theorem MC_isLevel {S : cp_S} {s1 s2 : Nat} (b1 : s1 < 6000) (b2 : s2 < 6000) : MC 0 m_M_isLevel [.int (nI s1), .int (nI s2)] S (some (.int (if S.2 52 s1 = S.2 52 s2 ∧ S.2 53 s1 = S.2 53 s2 ∧ S.2 55 s1 = S.2 55 s2 then 1 else 0))) S := by
  refine c_M_isLevel (b_M_isLevel_0 ?_)
  unfold wp_M_isLevel_0
  rw [nI_clamp (show s1 < 2 ^ 31 by omega), nI_clamp (show s2 < 2 ^ 31 by omega)]
  have v1 : vp_in (nI s1) (cp_ml 52) := vp_in_nI (show s1 < 6000 by omega) (by decide)
  have v2 : vp_in (nI s2) (cp_ml 52) := vp_in_nI (show s2 < 6000 by omega) (by decide)
  refine ⟨v1, v2, ?_⟩
  by_cases h1 : S.2 52 s1 = S.2 52 s2
  · refine ⟨fun hn => absurd h1 hn, fun _ => ⟨v1, v2, ?_⟩⟩
    by_cases h2 : S.2 53 s1 = S.2 53 s2
    · refine ⟨fun hn => absurd h2 hn, fun _ => ⟨v1, v2, ?_⟩⟩
      by_cases h3 : S.2 55 s1 = S.2 55 s2
      · exact ⟨fun hn => absurd h3 hn, fun _ => ⟨by rw [if_pos ⟨h1, h2, h3⟩], rfl, rfl⟩⟩
      · exact ⟨fun _ => ⟨by rw [if_neg (fun h => h3 h.2.2)], rfl, rfl⟩, fun hn => absurd hn h3⟩
    · exact ⟨fun _ => ⟨by rw [if_neg (fun h => h2 h.2.1)], rfl, rfl⟩, fun hn => absurd hn h2⟩
  · exact ⟨fun _ => ⟨by rw [if_neg (fun h => h1 h.1)], rfl, rfl⟩, fun hn => absurd hn h1⟩
theorem PPH_nil {f : Nat → Int32} {N : Nat} {ρ : Nat → Nat → Prop} {a0 a1 : Nat → Nat → Int32} {d : Nat} (h : PPH f N a0 ρ a1 d []) : d = 0 := by
  cases d with
  | zero => rfl
  | succ d => obtain ⟨q, L', e, -⟩ := h; cases e
theorem PPH_cons {f : Nat → Int32} {N : Nat} {ρ : Nat → Nat → Prop} {a0 a1 : Nat → Nat → Int32} {d : Nat} {q : cp_Q} {L : List cp_Q} (h : PPH f N a0 ρ a1 d (q :: L)) : ∃ e, d = e + 1 := by
  cases d with
  | zero => cases h
  | succ d => exact ⟨d, rfl⟩
section CPSB
variable {N nv nc : Nat} {ρ : Nat → Nat → Prop} {hl : List Nat}
theorem MSP.of {f : Nat → Int32} {a : Nat → Nat → Int32} {C : Nat} {K K' : cp_K} {S S' : cp_S} (V : VI f N a nv nc ρ hl C) (eK : rat K 7 = f) (eN : rsz K 7 = N) (h9 : rsz K 9 < 16000) (kf : KF [11] K K') (h11 : rsz K' 11 < 16000) (hS : GE S a) (fm : FM S S') (h53 : S'.2 53 = S.2 53) (h42 : S'.1 42 = S.1 42) : MSP N nv nc ρ hl f a C K S f a C K' S' := by
  refine ⟨V, kf.sub (by decide), by rw [(kf.2.2.1 7 (by decide)).2]; exact eK, by rw [(kf.2.2.1 7 (by decide)).1]; exact eN, by rw [(kf.2.2.1 9 (by decide)).1]; exact h9, h11, fun _ _ => rfl, fun p p1 p2 => ?_, fm, Nat.le_refl _, fun _ => ⟨rfl, rfl⟩, fun F hF => by rw [h42, hF, Nat.sub_self]; rfl⟩
  by_cases hp : p = 53
  · rw [hp, h53]; exact hS 53 (by omega) (by omega)
  · rw [fm.2 p hp (by omega)]; exact hS p p1 p2
/-- the arguments of two constants with the same head -/
theorem lvl_args {f : Nat → Int32} {a : Nat → Nat → Int32} {C : Nat} (V : VI f N a nv nc ρ hl C) {u1 s1 u2 s2 : Nat} (h1 : ρ u1 s1) (h2 : ρ u2 s2) (hc : f (u1 + 2) = f (u2 + 2)) : ∃ (t t' : Nat) (A A' : List (Nat × Nat)), A'.length = A.length ∧ A.length ≤ 6 ∧ f (u1 + 2) = nI A.length ∧ a 55 s1 = nI A.length ∧ (0 < A.length → (a 54 s1 = nI t ∧ t + A.length ≤ 6000) ∧ a 54 s2 = nI t' ∧ t' + A.length ≤ 6000) ∧ u1 + 3 + A.length ≤ N ∧ u2 + 3 + A.length ≤ N ∧ QR ρ (A.zip A') ∧ (∀ i (hi : i < A.length), f (u1 + 3 + i) = nI A[i].1) ∧ (∀ i (hi : i < A'.length), f (u2 + 3 + i) = nI A'[i].1) ∧ ws2 (a 56) t t' A.length = rfs (A.zip A') := by
  obtain ⟨t, A, a1, a2, a3, a4, a5, a6, a7, a8⟩ := args_of V h1
  obtain ⟨t', A', c1, c2, c3, c4, c5, c6, c7, c8⟩ := args_of V h2
  have hl2 : A'.length = A.length := by
    rw [a2, c2] at hc
    exact ((nI_eq (by omega) (by omega)).mp hc).symm
  refine ⟨t, t', A, A', hl2, a1, a2, a3, fun h => ⟨a4 h, by have := c4 (by omega); rw [hl2] at this; exact this⟩, a5, by omega, fun q hq => ?_, a7, c7, ws2_eq A A' t t' hl2 a8 (by rw [← hl2]; exact c8)⟩
  obtain ⟨m1, m2⟩ := List.of_mem_zip (show (q.1, q.2) ∈ A.zip A' from hq)
  exact ⟨a6 _ m1, c6 _ m2⟩
theorem same {x1 x2 y1 y2 : Int32} : ∀ (b n : Nat) (f : Nat → Int32) (a : Nat → Nat → Int32) (C : Nat) (K : cp_K) (S : cp_S) (L : List cp_Q) (d : Nat), n + b = 1000 → VI f N a nv nc ρ hl C → rat K 7 = f → rsz K 7 = N → rsz K 9 < 16000 → RS K 11 (fl L) → GE S a → PPH f N a ρ S.2 d L → d ≤ n + 1 → S.1 44 = nI n → L.length ≤ 5 * n + 1 → QR ρ L →
    ∃ (ok : Bool) (f' : Nat → Int32) (a' : Nat → Nat → Int32) (C' : Nat) (K' : cp_K) (S' : cp_S), MSP N nv nc ρ hl f a C K S f' a' C' K' S' ∧
      JC 10 m_V_makeSame (fun _ => .inl (some (.int (if ok then 1 else 0)))) K' 8 (fun G => [(0, .ref (cp_b G + 6)), (1, .int x1), (2, .int x2), (3, .int (nI n))]) (fun _ => []) K ∧
      JJ 3 m_M_makeSame (some (.int (if ok then 1 else 0))) S' 7 [(1, .int y1), (2, .int y2), (3, .int (nI d))] S
  | b, n, f, a, C, K, S, [], d, hn, V, eK, eN, h9, hR, hS, hH, hd, h44, hlen, hQ => by
    have hz : rsz K 11 = 0 := hR.1
    refine ⟨true, f, a, C, K, S, MSP.of V eK eN h9 KF.refl (by omega) hS FM.refl rfl rfl, ?_, ?_⟩
    · refine b_V_makeSame_8 (D := 2) ?_
      unfold wp_V_makeSame_8
      rw [hz]
      exact ⟨fun _ => ⟨fun hn => absurd rfl hn, fun _ => ⟨rfl, rfl⟩⟩, fun _ => ⟨fun hn => absurd rfl hn, fun _ => ⟨rfl, rfl⟩⟩⟩
    · rw [PPH_nil hH]
      exact b_M_makeSame_7 ⟨fun _ => ⟨rfl, rfl, rfl⟩, fun hn => absurd (by decide) hn⟩
  | b, n, f, a, C, K, S, q :: L, d, hn, V, eK, eN, h9, hR, hS, hH, hd, h44, hlen, hQ => by
    obtain ⟨e, rfl⟩ := PPH_cons hH
    obtain ⟨q0, L0, eq0, w1, w2, w3, w4⟩ := hH
    obtain ⟨rfl, rfl⟩ := List.cons.inj eq0
    obtain ⟨hq1, hq2⟩ := hQ q List.mem_cons_self
    have hQ' : QR ρ L := fun q hq => hQ q (List.mem_cons_of_mem _ hq)
    have l1 := lk_spec V hq1
    have l2 := lk_spec V hq2
    have hnv := V.2.2.2.2.2.1
    have hN := V.2.2.2.2.2.2.2
    have B1 := V.1.1 _ _ l1.1
    have B2 := V.1.1 _ _ l2.1
    rw [List.length_cons] at hlen
    have hz : rsz K 11 = 2 * L.length + 2 := by rw [hR.1, fl_len, List.length_cons]; omega
    have hz0 : ¬ nI (rsz K 11) = 0 := nI_ne0 (by omega) (by omega)
    have s1b : (lk f N a ρ q.1.1 q.1.2).2 < 6000 := by omega
    have s2b : (lk f N a ρ q.2.1 q.2.2).2 < 6000 := by omega
    have hx : ¬ nI (e + 1) ≤ 0 := nI_nle (by omega) (by omega)
    have v58 : vp_in (nI e) (cp_ml 58) := vp_in_nI (show e < 1001 by omega) (by decide)
    have v59 : vp_in (nI e) (cp_ml 59) := vp_in_nI (show e < 1001 by omega) (by decide)
    have ce : (nI e).toNatClampNeg = e := nI_clamp (by omega)
    have fm44 : FM S (va_up S.1 44 (S.1 44 + 1), S.2) := ⟨fun k _ k2 => cp_up_ne k2, fun _ _ _ => rfl⟩
    cases b with
    | zero =>
      have hn1 : n = 1000 := by omega
      subst hn1
      refine ⟨false, f, a, C, K, (va_up S.1 44 (S.1 44 + 1), S.2), MSP.of V eK eN h9 KF.refl (by omega) hS fm44 rfl rfl, ?_, ?_⟩
      · exact b_V_makeSame_8 (D := 2) ⟨fun _ => ⟨fun _ => ⟨rfl, rfl⟩, fun hn => absurd hn hz0⟩, fun hn => absurd (show (1000 : Int32) ≤ nI 1000 by decide) hn⟩
      · refine b_M_makeSame_7 ⟨fun hn => absurd hn hx, fun _ => ?_⟩
        rw [nI_pred]
        exact ⟨v58, v59, fun hn => absurd hn (by rw [h44]; decide), fun _ => ⟨rfl, rfl, rfl⟩⟩
    | succ b =>
      -- the class pops the pair
      obtain ⟨r1, rt1⟩ := hR.pop
      obtain ⟨r2, rt2⟩ := r1.pop
      have hK1 : rat (kpop K 11) 7 = f ∧ rsz (kpop K 11) 7 = N := ⟨by rw [kpop_at]; exact eK, by rw [kpop_sz, if_neg (by decide)]; exact eN⟩
      have hK2 : rat (kpop (kpop K 11) 11) 7 = f ∧ rsz (kpop (kpop K 11) 11) 7 = N := ⟨by rw [kpop_at]; exact hK1.1, by rw [kpop_sz, if_neg (by decide)]; exact hK1.2⟩
      have kf2 : KF [11] K (kpop (kpop K 11) 11) := KF.pop.trans KF.pop
      have h92 : rsz (kpop (kpop K 11) 11) 9 < 16000 := by rw [(kf2.2.2.1 9 (by decide)).1]; exact h9
      have h11 : rsz (kpop (kpop K 11) 11) 11 < 16000 := by rw [r2.1, fl_len]; omega
      have L1 : KC 9 m_V_lookThrough (fun G => [.ref (cp_b G + 6), .int (rtop K 11)]) (kpop K 11) (fun _ => some (.int (nI (lk f N a ρ q.2.1 q.2.2).1))) (kpop K 11) := by
        rw [rt1]; exact (l2.2.2.1 _ hK1.1 hK1.2).mono (by omega)
      have L2 : KC 9 m_V_lookThrough (fun G => [.ref (cp_b G + 6), .int (rtop (kpop K 11) 11)]) (kpop (kpop K 11) 11) (fun _ => some (.int (nI (lk f N a ρ q.1.1 q.1.2).1))) (kpop (kpop K 11) 11) := by
        rw [rt2]; exact (l1.2.2.1 _ hK2.1 hK2.2).mono (by omega)
      have g1 : rget (kpop (kpop K 11) 11) 7 (nI (lk f N a ρ q.1.1 q.1.2).1) = f (lk f N a ρ q.1.1 q.1.2).1 := by rw [rget_of (by omega) (by omega), hK2.1]
      have g2 : rget (kpop (kpop K 11) 11) 7 (nI (lk f N a ρ q.2.1 q.2.2).1) = f (lk f N a ρ q.2.1 q.2.2).1 := by rw [rget_of (by omega) (by omega), hK2.1]
      have hS2 : GE (va_up S.1 44 (S.1 44 + 1), S.2) a := hS
      have h44' : S.1 44 + 1 = nI (n + 1) := by rw [h44, nI_1]
      have hle : S.1 44 + 1 ≤ 1000 := by rw [h44']; exact nI_le (a := n + 1) (b := 1000) (by omega) (by omega)
      have vs1 : vp_in (nI (lk f N a ρ q.1.1 q.1.2).2) (cp_ml 52) := vp_in_nI (show _ < 6000 by omega) (by decide)
      have vs2 : vp_in (nI (lk f N a ρ q.2.1 q.2.2).2) (cp_ml 52) := vp_in_nI (show _ < 6000 by omega) (by decide)
      have cs1 : (nI (lk f N a ρ q.1.1 q.1.2).2).toNatClampNeg = (lk f N a ρ q.1.1 q.1.2).2 := nI_clamp (by omega)
      have cs2 : (nI (lk f N a ρ q.2.1 q.2.2).2).toNatClampNeg = (lk f N a ρ q.2.1 q.2.2).2 := nI_clamp (by omega)
      have e52 : S.2 52 = a 52 := hS 52 (by omega) (by omega)
      have hn1000 : ¬ (1000 : Int32) ≤ nI n := nI_ge (a := n) (b := 1000) (by omega) (by omega)
      by_cases hh : f (lk f N a ρ q.1.1 q.1.2).1 = 4 ∨ f (lk f N a ρ q.2.1 q.2.2).1 = 4
      · -- a hole
        obtain ⟨ok, f1, a1, C1, K3, S3, hst, m1, m2⟩ := hstep V hK2.1 hK2.2 h92 hS2 l1.1 l2.1 l1.2.1 l2.2.1 hh
        have msp1 : MSP N nv nc ρ hl f a C K S f1 a1 C1 K3 S3 := MSP.trans (MSP.of V eK eN h9 kf2 h11 hS fm44 rfl rfl) (hst.msp h11)
        -- both come to the step
        have cls : ∀ (o : cp_G → cp_O) (K' : cp_K), JC 10 m_V_makeSame o K' 71 (fun G => [(0, .ref (cp_b G + 6)), (1, .int x1), (2, .int x2), (3, .int (nI n)), (4, .int (nI (lk f N a ρ q.2.1 q.2.2).1)), (5, .int (nI (lk f N a ρ q.1.1 q.1.2).1))]) (fun _ => []) (kpop (kpop K 11) 11) → JC 10 m_V_makeSame o K' 8 (fun G => [(0, .ref (cp_b G + 6)), (1, .int x1), (2, .int x2), (3, .int (nI n))]) (fun _ => []) K := by
          intro o K' w
          refine b_V_makeSame_8 (D := 2) ⟨fun hn => absurd hn hn1000, fun _ => ⟨fun _ => ⟨_, _, L1, _, _, L2, ?_⟩, fun hn => absurd hn hz0⟩⟩
          rw [g1, g2]
          by_cases h4 : f (lk f N a ρ q.1.1 q.1.2).1 = 4
          · rw [if_pos h4]
            exact ⟨fun _ => w, fun hn => absurd hn (by decide)⟩
          · rw [if_neg h4, if_pos (hh.resolve_left h4)]
            exact ⟨fun hn => absurd rfl hn, fun _ => ⟨fun hn => absurd hn (by decide), fun _ => w⟩⟩
        have rcl : ∀ (o : Option Value) (S' : cp_S), J75 o S' y1 y2 (nI (e + 1)) (lk f N a ρ q.1.1 q.1.2).2 (lk f N a ρ q.2.1 q.2.2).2 (va_up S.1 44 (S.1 44 + 1), S.2) → JJ 3 m_M_makeSame o S' 7 [(1, .int y1), (2, .int y2), (3, .int (nI (e + 1)))] S := by
          intro o S' w
          refine b_M_makeSame_7 ⟨fun hn => absurd hn hx, fun _ => ?_⟩
          rw [nI_pred, ce, w1, w2, cs1, cs2, e52]
          refine ⟨v58, v59, fun _ => ⟨vs1, ?_⟩, fun hn => absurd hle hn⟩
          by_cases h4 : f (lk f N a ρ q.1.1 q.1.2).1 = 4
          · exact ⟨fun _ => w, fun hn => absurd ((V.h4 l1.1).mp h4) hn⟩
          · refine ⟨fun hn => absurd ((V.h4 l1.1).mpr hn) h4, fun _ => ⟨vs2, fun hn => absurd ((V.h4 l2.1).mp (hh.resolve_left h4)) hn, fun _ => w⟩⟩
        cases ok with
        | false =>
          refine ⟨false, f1, a1, C1, K3, S3, msp1, cls _ _ ?_, rcl _ _ ((m2 _ _ _).2 rfl)⟩
          exact b_V_makeSame_71 (D := 2) ⟨0, K3, m1, fun hn => absurd rfl hn, fun _ => ⟨rfl, rfl⟩⟩
        | true =>
          obtain ⟨V1, kf3, e7, n7, h93, -, hS3, fr3, hst9⟩ := hst
          have hP3 : PP S3.2 e (rfs L) := PP_congr (fr3 54 (by decide) (by decide) (by decide)) (fr3 55 (by decide) (by decide) (by decide)) (fr3 56 (by decide) (by decide) (by decide)) e _ (fun i _ => ⟨congrFun (fr3 58 (by decide) (by decide) (by decide)) i, congrFun (fr3 59 (by decide) (by decide) (by decide)) i, congrFun (fr3 60 (by decide) (by decide) (by decide)) i⟩) w4
          obtain ⟨d', S4, n1, n2, n3, n4⟩ := np_H V1 hS3 hP3 hQ' (by omega)
          have r3 : RS K3 11 (fl L) := ⟨by rw [(kf3.2.2.1 11 (by decide)).1]; exact r2.1, by rw [(kf3.2.2.1 11 (by decide)).2]; exact r2.2⟩
          have h444 : S4.1 44 = nI (n + 1) := by
            rw [n2.1]
            rcases hst9 with ⟨-, -, -, q4⟩ | ⟨-, q4⟩
            · rw [q4, h44']; simp only [va_up_at]
            · rw [q4, h44']; simp only [cp_up_ne (show (44 : Nat) ≠ 42 by decide), va_up_at]
          obtain ⟨ok, f2, a2, C2, K', S', i1, i2, i3⟩ := same (x1 := x1) (x2 := x2) (y1 := y1) (y2 := y2) b (n + 1) f1 a1 C1 K3 S4 L d' (by omega) V1 e7 n7 h93 r3 (hS3.fp n2) n3 (by omega) h444 (by omega) hQ'
          have msp2 : MSP N nv nc ρ hl f1 a1 C1 K3 S3 f1 a1 C1 K3 S4 := MSP.of V1 e7 n7 h93 KF.refl (by rw [r3.1, fl_len]; omega) hS3 n2.fm (n2.2 53 (by decide) (by decide) (by decide)) (by rw [n2.1])
          refine ⟨ok, f2, a2, C2, K', S', (msp1.trans msp2).trans i1, cls _ _ ?_, rcl _ _ ((m2 _ _ _).1 rfl _ _ ?_)⟩
          · refine b_V_makeSame_71 (D := 2) ⟨1, K3, m1, fun _ => b_V_makeSame_108 (D := 2) ?_, fun hn => absurd hn (by decide)⟩
            show JC 10 m_V_makeSame _ K' 8 _ _ K3
            rw [nI_1]
            exact i2
          · refine b_M_makeSame_193 ⟨nI d', S4, ?_, i3⟩
            rw [pk_m1]
            exact n1
      · -- no hole
        have n41 : ¬ f (lk f N a ρ q.1.1 q.1.2).1 = 4 := fun h => hh (Or.inl h)
        have n42 : ¬ f (lk f N a ρ q.2.1 q.2.2).1 = 4 := fun h => hh (Or.inr h)
        have hd1 : rget (kpop (kpop K 11) 11) 7 (nI (lk f N a ρ q.1.1 q.1.2).1 + 1) = f ((lk f N a ρ q.1.1 q.1.2).1 + 1) := by rw [nI_1, rget_of (by omega) (by omega), hK2.1]
        have hd2 : rget (kpop (kpop K 11) 11) 7 (nI (lk f N a ρ q.2.1 q.2.2).1 + 1) = f ((lk f N a ρ q.2.1 q.2.2).1 + 1) := by rw [nI_1, rget_of (by omega) (by omega), hK2.1]
        have hc1 : rget (kpop (kpop K 11) 11) 7 (nI (lk f N a ρ q.1.1 q.1.2).1 + 2) = f ((lk f N a ρ q.1.1 q.1.2).1 + 2) := by rw [show (2 : Int32) = nI 2 from rfl, nI_add, rget_of (by omega) (by omega), hK2.1]
        have hc2 : rget (kpop (kpop K 11) 11) 7 (nI (lk f N a ρ q.2.1 q.2.2).1 + 2) = f ((lk f N a ρ q.2.1 q.2.2).1 + 2) := by rw [show (2 : Int32) = nI 2 from rfl, nI_add, rget_of (by omega) (by omega), hK2.1]
        have hhs : hsh (kpop (kpop K 11) 11) (nI (lk f N a ρ q.1.1 q.1.2).1) (nI (lk f N a ρ q.2.1 q.2.2).1) = if f (lk f N a ρ q.1.1 q.1.2).1 = f (lk f N a ρ q.2.1 q.2.2).1 ∧ f ((lk f N a ρ q.1.1 q.1.2).1 + 1) = f ((lk f N a ρ q.2.1 q.2.2).1 + 1) ∧ f ((lk f N a ρ q.1.1 q.1.2).1 + 2) = f ((lk f N a ρ q.2.1 q.2.2).1 + 2) then 1 else 0 := by
          unfold hsh
          rw [g1, g2, hd1, hd2, hc1, hc2]
        have hhd := V.head l1.1 l2.1 n41 n42
        have isl := MC_isLevel (S := (va_up S.1 44 (S.1 44 + 1), S.2)) s1b s2b
        dsimp only at isl
        rw [e52, hS 53 (by omega) (by omega), hS 55 (by omega) (by omega)] at isl
        have cls : ∀ (o : cp_G → cp_O) (K' : cp_K), ((hsh (kpop (kpop K 11) 11) (nI (lk f N a ρ q.1.1 q.1.2).1) (nI (lk f N a ρ q.2.1 q.2.2).1) = 0 → o = (fun _ => .inl (some (.int 0))) ∧ K' = kpop (kpop K 11) 11) ∧ (¬ hsh (kpop (kpop K 11) 11) (nI (lk f N a ρ q.1.1 q.1.2).1) (nI (lk f N a ρ q.2.1 q.2.2).1) = 0 → ∃ T7, KC 9 m_V_pushArgumentPairs (fun G => [.ref (cp_b G + 6), .int (nI (lk f N a ρ q.1.1 q.1.2).1), .int (nI (lk f N a ρ q.2.1 q.2.2).1)]) (kpop (kpop K 11) 11) (fun _ => none) T7 ∧ JC 10 m_V_makeSame o K' 108 (fun G => [(0, .ref (cp_b G + 6)), (1, .int x1), (2, .int x2), (3, .int (nI n)), (4, .int (nI (lk f N a ρ q.2.1 q.2.2).1)), (5, .int (nI (lk f N a ρ q.1.1 q.1.2).1))]) (fun _ => []) T7)) → JC 10 m_V_makeSame o K' 8 (fun G => [(0, .ref (cp_b G + 6)), (1, .int x1), (2, .int x2), (3, .int (nI n))]) (fun _ => []) K := by
          intro o K' w
          refine b_V_makeSame_8 (D := 2) ⟨fun hn => absurd hn hn1000, fun _ => ⟨fun _ => ⟨_, _, L1, _, _, L2, ?_⟩, fun hn => absurd hn hz0⟩⟩
          rw [g1, g2, if_neg n41, if_neg n42]
          exact ⟨fun hn => absurd rfl hn, fun _ => ⟨fun _ => w, fun hn => absurd rfl hn⟩⟩
        have rcl : ∀ (o : Option Value) (S' : cp_S), (∃ r7 T6, MC 0 m_M_isLevel [.int (nI (lk f N a ρ q.1.1 q.1.2).2), .int (nI (lk f N a ρ q.2.1 q.2.2).2)] (va_up S.1 44 (S.1 44 + 1), S.2) (some (.int r7)) T6 ∧ ((¬ r7 = 0 → J193 o S' y1 y2 (nI (e + 1)) (lk f N a ρ q.1.1 q.1.2).2 (lk f N a ρ q.2.1 q.2.2).2 T6) ∧ (r7 = 0 → o = some (.int 0) ∧ S' = T6 ∧ narrow .boolean (.int 0) = .int 0))) → JJ 3 m_M_makeSame o S' 7 [(1, .int y1), (2, .int y2), (3, .int (nI (e + 1)))] S := by
          intro o S' w
          refine b_M_makeSame_7 ⟨fun hn => absurd hn hx, fun _ => ?_⟩
          rw [nI_pred, ce, w1, w2, cs1, cs2, e52]
          exact ⟨v58, v59, fun _ => ⟨vs1, fun hn => absurd ((V.h4 l1.1).mpr hn) n41, fun _ => ⟨vs2, fun _ => w, fun hn => absurd ((V.h4 l2.1).mpr hn) n42⟩⟩, fun hn => absurd hle hn⟩
        by_cases hlv : f (lk f N a ρ q.1.1 q.1.2).1 = f (lk f N a ρ q.2.1 q.2.2).1 ∧ f ((lk f N a ρ q.1.1 q.1.2).1 + 1) = f ((lk f N a ρ q.2.1 q.2.2).1 + 1) ∧ f ((lk f N a ρ q.1.1 q.1.2).1 + 2) = f ((lk f N a ρ q.2.1 q.2.2).1 + 2)
        · rw [if_pos hlv] at hhs
          rw [if_pos (hhd.mp hlv)] at isl
          obtain ⟨t, t', A, A', c0, c1, c2, c3, c4, c5, c6, c7, c8, c9, c10⟩ := lvl_args V l1.1 l2.1 hlv.2.2
          have hzl : (A.zip A').length = A.length := by rw [List.length_zip, c0]; omega
          obtain ⟨K3, k1, k2, k3⟩ := pap (L := fl L) c0 c5 c6 hN c8 c9 c1 (by rw [fl_len]; omega) A.length (kpop (kpop K 11) 11) (Nat.le_refl _) hK2.1 hK2.2 (by rw [← hzl, List.drop_length]; exact r2)
          have hP2 : PP (va_up S.1 44 (S.1 44 + 1), S.2).2 (e + 1) (rfs (A.zip A' ++ L)) := by
            refine ⟨_, _, A.length, t, t', 0, rfs L, s1b, s2b, w1, w2, w3, by rw [hS 55 (by omega) (by omega)]; exact c3, fun h => by rw [hS 54 (by omega) (by omega)]; exact c4 h, Nat.zero_le _, c1, ?_, w4⟩
            rw [hS 56 (by omega) (by omega)]
            show rfs (A.zip A' ++ L) = ws2 (a 56) t t' A.length ++ rfs L
            rw [c10]
            exact List.map_append
          have hQ2 : QR ρ (A.zip A' ++ L) := fun q hq => by
            rcases List.mem_append.mp hq with h | h
            · exact c7 q h
            · exact hQ' q h
          obtain ⟨d', S4, n1, n2, n3, n4⟩ := np_H V hS2 hP2 hQ2 (by omega)
          have e3 : rat K3 7 = f := by rw [(k1.2.2.1 7 (by decide)).2]; exact hK2.1
          have en3 : rsz K3 7 = N := by rw [(k1.2.2.1 7 (by decide)).1]; exact hK2.2
          have h93 : rsz K3 9 < 16000 := by rw [(k1.2.2.1 9 (by decide)).1]; exact h92
          have hl2 : (A.zip A' ++ L).length ≤ 5 * (n + 1) + 1 := by rw [List.length_append, hzl]; omega
          obtain ⟨ok, f2, a2, C2, K', S', i1, i2, i3⟩ := same (x1 := x1) (x2 := x2) (y1 := y1) (y2 := y2) b (n + 1) f a C K3 S4 (A.zip A' ++ L) d' (by omega) V e3 en3 h93 (by rw [fl_app]; exact k2) (hS2.fp n2) n3 (by omega) (by rw [n2.1, h44']; simp only [va_up_at]) hl2 hQ2
          have msp2 : MSP N nv nc ρ hl f a C K S f a C K3 S4 := MSP.of V eK eN h9 (kf2.trans k1) (by rw [k2.1, List.length_append, fl_len, fl_len, hzl]; omega) hS (FM.trans fm44 n2.fm) (n2.2 53 (by decide) (by decide) (by decide)) (by rw [n2.1]; simp only [cp_up_ne (show (42 : Nat) ≠ 44 by decide)])
          refine ⟨ok, f2, a2, C2, K', S', msp2.trans i1, cls _ _ ⟨fun hn => absurd hn (by rw [hhs]; decide), fun _ => ⟨K3, ?_, b_V_makeSame_108 (D := 2) ?_⟩⟩, rcl _ _ ⟨1, _, isl, fun _ => b_M_makeSame_193 ⟨nI d', S4, n1, i3⟩, fun hn => absurd hn (by decide)⟩⟩
          · refine (c_V_pushArgumentPairs (D := 0) ?_).mono (by omega)
            unfold wp_V_pushArgumentPairs_0
            rw [hc1, c2, show (3 : Int32) = nI 3 from rfl, nI_add, show 3 + A.length = 2 + A.length + 1 by omega, nI_pred]
            exact k3
          · show JC 10 m_V_makeSame _ K' 8 _ _ K3
            rw [nI_1]
            exact i2
        · rw [if_neg hlv] at hhs
          rw [if_neg (fun h => hlv (hhd.mpr h))] at isl
          refine ⟨false, f, a, C, kpop (kpop K 11) 11, (va_up S.1 44 (S.1 44 + 1), S.2), MSP.of V eK eN h9 kf2 h11 hS fm44 rfl rfl, cls _ _ ⟨fun _ => ⟨rfl, rfl⟩, fun hn => absurd hhs hn⟩, rcl _ _ ⟨0, _, isl, fun hn => absurd rfl hn, fun _ => ⟨rfl, rfl, rfl⟩⟩⟩
end CPSB
