/-! ===== isSmallWithout, isLarge and lies: the joint walk ===== -/
section CPSM3
variable {f : Nat → Int32} {N : Nat} {a : Nat → Nat → Int32} {nv nc C : Nat} {ρ : Nat → Nat → Prop} {hl : List Nat}
theorem HDp_nil {a0 a1 : Nat → Nat → Int32} {d : Nat} (h : HDp f N a0 ρ a1 d []) : d = 0 := by
  cases d with
  | zero => rfl
  | succ d => obtain ⟨q, L', e, -⟩ := h; cases e
theorem HDp_cons {a0 a1 : Nat → Nat → Int32} {d : Nat} {q : Nat × Nat} {L : List (Nat × Nat)} (h : HDp f N a0 ρ a1 d (q :: L)) : ∃ e, d = e + 1 := by
  cases d with
  | zero => cases h
  | succ d => exact ⟨d, rfl⟩
theorem small (V : VI f N a nv nc ρ hl C) {x1 x2 hole rh : Int32} (hq : ∀ u s, ρ u s → stl f u → (nI u = hole ↔ nI s = rh)) : ∀ (b n : Nat) (L : List (Nat × Nat)), n + b = 200 → (∀ q ∈ L, ρ q.1 q.2) → L.length ≤ 6 * n + 1 → ∃ big hit : Bool,
    (∀ K : cp_K, rat K 7 = f → rsz K 7 = N → RS K 9 (L.map fun q => nI q.1) → ∃ K', KF [9] K K' ∧ rsz K' 9 ≤ 1300 ∧ JC 8 m_V_isSmallWithout (fun _ => .inl (some (.int (if big || hit then 0 else 1)))) K' 18 (fun G => [(0, .ref (cp_b G + 6)), (1, .int x1), (2, .int hole), (3, .int (nI n))]) (fun _ => []) K) ∧
    (∀ (S : cp_S) (d : Nat), GE S a → HDp f N a ρ S.2 d L → d ≤ n + 1 → ∃ S', FW S S' ∧ JJ 2 m_M_isLarge (some (.int (if big then 1 else 0))) S' 8 [(1, .int x2), (2, .int (nI d)), (3, .int (nI n))] S) ∧
    (big = false → ∀ (S : cp_S) (d : Nat), GE S a → HDp f N a ρ S.2 d L → d ≤ n + 1 → ∃ S', FW S S' ∧ JJ 2 m_M_lies (some (.int (if hit then 1 else 0))) S' 9 [(1, .int rh), (2, .int x2), (3, .int (nI d)), (4, .int 0)] S) ∧ (hit = true → ∃ u s, ρ u s ∧ nI u = hole)
  | b, n, [], hn, hL, hlen => by
    refine ⟨false, false, fun K e1 e2 hR => ⟨K, KF.refl, by rw [hR.1]; simp, ?_⟩, fun S d hS hH hd => ⟨S, FW.refl, ?_⟩, fun _ S d hS hH hd => ⟨S, FW.refl, ?_⟩, fun h => by cases h⟩
    · have hz : rsz K 9 = 0 := hR.1
      refine b_V_isSmallWithout_18 (D := 0) ?_
      unfold wp_V_isSmallWithout_18
      rw [hz]
      exact ⟨fun _ => ⟨fun hn => absurd rfl hn, fun _ => ⟨rfl, rfl⟩⟩, fun _ => ⟨fun hn => absurd rfl hn, fun _ => ⟨rfl, rfl⟩⟩⟩
    · rw [HDp_nil hH]
      refine b_M_isLarge_8 ⟨fun _ => ⟨fun _ => ⟨rfl, rfl, rfl⟩, fun hn => absurd (nI_le (a := n) (b := 200) (by omega) (by omega)) hn⟩, fun hn => absurd (by decide) hn⟩
    · rw [HDp_nil hH]
      exact b_M_lies_9 ⟨fun _ => ⟨rfl, rfl, rfl⟩, fun hn => absurd (by decide) hn⟩
  | b, n, q :: L, hn, hL, hlen => by
    have hρ : ρ q.1 q.2 := hL q List.mem_cons_self
    have hL' : ∀ q ∈ L, ρ q.1 q.2 := fun q hq => hL q (List.mem_cons_of_mem _ hq)
    have hlk := lk_spec V hρ
    have hB := V.1.1 _ _ hlk.1
    have hnv := V.2.2.2.2.2.1
    have hNN := V.2.2.2.2.2.2.2
    obtain ⟨t, A, a1, a2, a3, a4, a5, a6, a7, a8⟩ := args_of V hlk.1
    have hs6 : (lk f N a ρ q.1 q.2).2 < 6000 := by omega
    have fuH : ∀ (S : cp_S) (e : Nat), GE S a → HDp f N a ρ S.2 (e + 1) (q :: L) → e ≤ n → ∃ d' S', MC 1 m_M_further [.int (nI (e + 1))] S (some (.int (nI d'))) S' ∧ FW S S' ∧ HDp f N a ρ S'.2 d' (A ++ L) ∧ d' ≤ e + 2 := fun S e hS hH he => fur_HD V hS (by omega) hH a1 a3 a4 a8 a6 hL' hs6
    rw [List.length_cons] at hlen
    cases b with
    | zero =>
      have hn200 : n = 200 := by omega
      subst hn200
      refine ⟨true, false, fun K e1 e2 hR => ⟨K, KF.refl, by rw [hR.1, List.length_map, List.length_cons]; omega, ?_⟩, fun S d hS hH hd => ?_, fun h => (by cases h), fun h => by cases h⟩
      · have hz : rsz K 9 = L.length + 1 := by rw [hR.1]; simp
        refine b_V_isSmallWithout_18 (D := 0) ⟨fun _ => ⟨fun _ => ⟨rfl, rfl⟩, fun hn => absurd hn (by rw [hz]; exact nI_ne0 (by omega) (by omega))⟩, fun hn => absurd (show (200 : Int32) ≤ nI 200 by decide) hn⟩
      · obtain ⟨e, rfl⟩ := HDp_cons hH
        obtain ⟨d', S', g1, g2, g3, g4⟩ := fuH S e hS hH (by omega)
        refine ⟨S', g2, b_M_isLarge_8 ⟨fun hn => absurd hn (nI_nle (by omega) (by omega)), fun _ => ⟨fun hn => absurd hn (by decide), fun _ => ⟨nI d', S', g1, ?_⟩⟩⟩⟩
        refine b_M_isLarge_8 ⟨fun _ => ⟨fun hn => absurd hn (by decide), fun _ => ⟨rfl, rfl, rfl⟩⟩, fun _ => ⟨fun _ => ⟨fun hn => absurd hn (by decide), fun _ => ⟨rfl, rfl, rfl⟩⟩, fun hn => absurd (show (200 : Int32) < nI 200 + 1 by decide) hn⟩⟩
    | succ b =>
      have hAL : ∀ q ∈ A ++ L, ρ q.1 q.2 := fun q hq => by
        rcases List.mem_append.mp hq with h | h
        · exact a6 q h
        · exact hL' q h
      obtain ⟨big, hit, cA, cB, cC, cD⟩ := small V hq b (n + 1) (A ++ L) (by omega) hAL (by rw [List.length_append]; omega)
      have hn200 : ¬ (200 : Int32) ≤ nI n := nI_ge (a := n) (b := 200) (by omega) (by omega)
      have isl : ∀ (S : cp_S) (d : Nat), GE S a → HDp f N a ρ S.2 d (q :: L) → d ≤ n + 1 → ∃ S', FW S S' ∧ JJ 2 m_M_isLarge (some (.int (if big then 1 else 0))) S' 8 [(1, .int x2), (2, .int (nI d)), (3, .int (nI n))] S := by
        intro S d hS hH hd
        obtain ⟨e, rfl⟩ := HDp_cons hH
        obtain ⟨d', S1, g1, g2, g3, g4⟩ := fuH S e hS hH (by omega)
        obtain ⟨S', w1, w2⟩ := cB S1 d' (hS.fw g2) g3 (by omega)
        refine ⟨S', g2.trans w1, b_M_isLarge_8 ⟨fun hn => absurd hn (nI_nle (by omega) (by omega)), fun _ => ⟨fun hn => absurd hn (nI_nlt (a := 200) (b := n) (by omega) (by omega)), fun _ => ⟨nI d', S1, g1, ?_⟩⟩⟩⟩
        rw [nI_1]
        exact w2
      have popE : ∀ K : cp_K, rat K 7 = f → rsz K 7 = N → rat (kpop K 9) 7 = f ∧ rsz (kpop K 9) 7 = N := fun K e1 e2 => ⟨by rw [kpop_at]; exact e1, by rw [kpop_sz, if_neg (by decide)]; exact e2⟩
      by_cases hu : nI (lk f N a ρ q.1 q.2).1 = hole
      · refine ⟨big, true, fun K e1 e2 hR => ⟨kpop K 9, KF.pop, by rw [hR.pop.1.1, List.length_map]; omega, ?_⟩, isl, fun hbig S d hS hH hd => ?_, fun _ => ⟨_, _, hlk.1, hu⟩⟩
        · have hz : rsz K 9 = L.length + 1 := by rw [hR.1]; simp
          obtain ⟨p1, p2⟩ := hR.pop
          refine b_V_isSmallWithout_18 (D := 0) ⟨fun hn => absurd hn hn200, fun _ => ⟨fun _ => ⟨nI (lk f N a ρ q.1 q.2).1, kpop K 9, ?_, fun hn => absurd hu hn, fun _ => ⟨by simp, rfl⟩⟩, fun hn => absurd hn (by rw [hz]; exact nI_ne0 (by omega) (by omega))⟩⟩
          rw [p2]
          exact (hlk.2.2.1 _ (popE K e1 e2).1 (popE K e1 e2).2).mono (by omega)
        · obtain ⟨e, rfl⟩ := HDp_cons hH
          obtain ⟨d', S1, g1, g2, g3, g4⟩ := fuH S e hS hH (by omega)
          obtain ⟨q0, L0, eq, w1, -, -⟩ := hH
          obtain ⟨rfl, rfl⟩ := List.cons.inj eq
          have hss : nI (lk f N a ρ q.1 q.2).2 = rh := (hq _ _ hlk.1 hlk.2.1).mp hu
          refine ⟨S1, g2, b_M_lies_9 ⟨fun hn => absurd hn (nI_nle (by omega) (by omega)), fun _ => ⟨fun hn => absurd rfl hn, fun _ => ?_⟩⟩⟩
          rw [nI_pred, nI_clamp (by omega), w1]
          refine ⟨vp_in_nI (show e < 210 by omega) (by decide), fun hn => absurd hss hn, fun _ => ⟨nI d', S1, g1, b_M_lies_9 ⟨fun _ => ⟨rfl, rfl, rfl⟩, fun _ => ⟨fun _ => ⟨rfl, rfl, rfl⟩, fun hn => absurd hn (by decide)⟩⟩⟩⟩
      · refine ⟨big, hit, fun K e1 e2 hR => ?_, isl, fun hbig S d hS hH hd => ?_, cD⟩
        · have hz : rsz K 9 = L.length + 1 := by rw [hR.1]; simp
          obtain ⟨p1, p2⟩ := hR.pop
          obtain ⟨pe1, pe2⟩ := popE K e1 e2
          obtain ⟨K1, k1, k2, k3⟩ := small_push (x1 := x1) (x2 := hole) (x3 := nI n) (L := L.map fun q => nI q.1) a5 hNN a7 a1 A.length (kpop K 9) (Nat.le_refl _) pe1 pe2 (by rw [List.drop_length]; exact p1) (by rw [List.length_map]; omega)
          obtain ⟨K', m1, m0, m2⟩ := cA K1 (by rw [(k1.2.2.1 7 (by decide)).2]; exact pe1) (by rw [(k1.2.2.1 7 (by decide)).1]; exact pe2) (by rw [List.map_append]; exact k2)
          refine ⟨K', (KF.pop.trans k1).trans m1, m0, b_V_isSmallWithout_18 (D := 0) ⟨fun hn => absurd hn hn200, fun _ => ⟨fun _ => ⟨nI (lk f N a ρ q.1 q.2).1, kpop K 9, ?_, fun _ => ?_, fun hn => absurd hn hu⟩, fun hn => absurd hn (by rw [hz]; exact nI_ne0 (by omega) (by omega))⟩⟩⟩
          · rw [p2]
            exact (hlk.2.2.1 _ pe1 pe2).mono (by omega)
          · have hg : rget (kpop K 9) 7 (nI (lk f N a ρ q.1 q.2).1 + 2) = nI A.length := by
              rw [show (2 : Int32) = nI 2 from rfl, nI_add, rget_of (by omega) (by omega), pe1]
              exact a2
            rw [hg]
            refine k3 _ K' ?_
            rw [nI_1]
            exact m2
        · obtain ⟨e, rfl⟩ := HDp_cons hH
          obtain ⟨d', S1, g1, g2, g3, g4⟩ := fuH S e hS hH (by omega)
          obtain ⟨S', m1, m2⟩ := cC hbig S1 d' (hS.fw g2) g3 (by omega)
          obtain ⟨q0, L0, eq, w1, -, -⟩ := hH
          obtain ⟨rfl, rfl⟩ := List.cons.inj eq
          have hss : ¬ nI (lk f N a ρ q.1 q.2).2 = rh := fun h => hu ((hq _ _ hlk.1 hlk.2.1).mpr h)
          refine ⟨S', g2.trans m1, b_M_lies_9 ⟨fun hn => absurd hn (nI_nle (by omega) (by omega)), fun _ => ⟨fun hn => absurd rfl hn, fun _ => ?_⟩⟩⟩
          rw [nI_pred, nI_clamp (by omega), w1]
          exact ⟨vp_in_nI (show e < 210 by omega) (by decide), fun _ => ⟨nI d', S1, g1, m2⟩, fun hn => absurd hn hss⟩
/-- the methods -/
theorem small_m (V : VI f N a nv nc ρ hl C) {v r : Nat} (h : ρ v r) {hole rh : Int32} (hq : ∀ u s, ρ u s → stl f u → (nI u = hole ↔ nI s = rh)) : ∃ big hit : Bool,
    (∀ K : cp_K, rat K 7 = f → rsz K 7 = N → rsz K 9 < 16000 → ∃ K', KF [9] K K' ∧ rsz K' 9 ≤ 1300 ∧ KC 8 m_V_isSmallWithout (fun G => [.ref (cp_b G + 6), .int (nI v), .int hole]) K (fun _ => some (.int (if big || hit then 0 else 1))) K') ∧
    (∀ S : cp_S, GE S a → ∃ S', FW S S' ∧ MC 2 m_M_isLarge [.int (nI r)] S (some (.int (if big then 1 else 0))) S') ∧
    (big = false → ∀ S : cp_S, GE S a → ∃ S', FW S S' ∧ MC 2 m_M_lies [.int rh, .int (nI r)] S (some (.int (if hit then 1 else 0))) S') ∧ (hit = true → ∃ u s, ρ u s ∧ nI u = hole) := by
  obtain ⟨big, hit, cA, cB, cC, cD⟩ := small V (x1 := nI v) (x2 := nI r) hq 200 0 [(v, r)] (by omega) (fun q hq => by rw [List.mem_singleton.mp hq]; exact h) (by simp)
  have hlk := lk_spec V h
  have so : ∀ S : cp_S, GE S a → ∃ S1, FW S S1 ∧ MC 1 m_M_setOut [.int (nI r)] S (some (.int (nI 1))) S1 ∧ HDp f N a ρ S1.2 1 [(v, r)] := by
    intro S hS
    refine ⟨(S.1, va_up (va_up S.2 61 (upd (S.2 61) 0 (nI (lk f N a ρ v r).2))) 62 (upd (S.2 62) 0 0)), ⟨rfl, fun p p1 p2 => by simp only [cp_up_ne p1, cp_up_ne p2]⟩, c_M_setOut (b_M_setOut_0 ⟨_, S, hlk.2.2.2 S (hS 52 (by omega) (by omega)) (hS 53 (by omega) (by omega)), vp_in_nI (n := 0) (show 0 < 210 by omega) (by decide), vp_in_nI (n := 0) (show 0 < 210 by omega) (by decide), rfl, rfl⟩), (v, r), [], rfl, ?_, ?_, rfl⟩
    · simp only [cp_up_ne (show (61 : Nat) ≠ 62 by decide), va_up_at, pk_us]
    · simp only [va_up_at, pk_us]
  refine ⟨big, hit, fun K e1 e2 h9 => ?_, fun S hS => ?_, fun hb S hS => ?_, cD⟩
  · have k1 : KF [9] K (kpush (kcut K 9 0) 9 (nI v)) := KF.cut.trans (KF.push (by decide))
    have hR : RS (kpush (kcut K 9 0) 9 (nI v)) 9 [nI v] := (RS.nil (by omega)).push
    obtain ⟨K', m1, m2, m3⟩ := cA (kpush (kcut K 9 0) 9 (nI v)) (by rw [(k1.2.2.1 7 (by decide)).2]; exact e1) (by rw [(k1.2.2.1 7 (by decide)).1]; exact e2) hR
    exact ⟨K', k1.trans m1, m2, c_V_isSmallWithout (D := 0) ⟨by rw [(RS.nil (K := K) (r := 9) (by omega)).1]; decide, m3⟩⟩
  · obtain ⟨S1, g1, g2, g3⟩ := so S hS
    obtain ⟨S', w1, w2⟩ := cB S1 1 (hS.fw g1) g3 (by omega)
    exact ⟨S', g1.trans w1, c_M_isLarge (b_M_isLarge_0 ⟨nI 1, S1, g2, w2⟩)⟩
  · obtain ⟨S1, g1, g2, g3⟩ := so S hS
    obtain ⟨S', w1, w2⟩ := cC hb S1 1 (hS.fw g1) g3 (by omega)
    exact ⟨S', g1.trans w1, c_M_lies (b_M_lies_0 ⟨nI 1, S1, g2, w2⟩)⟩
end CPSM3
