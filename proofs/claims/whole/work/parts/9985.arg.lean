/-! ===== running: a letter's arguments, both sides ===== -/
theorem CHN_le {K : cp_K} {R : Nat → Nat → Nat → Prop} (hR : ∀ q i j, R q i j → i < j) : ∀ (m q i j : Nat), CHN R K m q i j → i + m ≤ j
  | 0, _, i, j, h => by have := h.2; omega
  | m + 1, q, i, j, h => by
    obtain ⟨-, i', h2, h3⟩ := h
    have := hR q i i' h2
    have := CHN_le hR m _ i' j h3
    omega
section CPWR
variable {ar : Nat → Nat} {hl : List Nat} {C : Nat} {K Kc : cp_K} {S Sc : cp_S} {ρ ρc : Nat → Nat → Prop} {nv nc nvc ncc e w wc B Bc n n1 c1 i s frame db p : Nat} {y : Int32}
theorem MID.push {x : Int32} (g : MID ar hl C K S ρ nv nc e w B n Kc Sc ρc nvc ncc wc Bc n1 c1 i s y db) (hn : n1 + 1 ≤ n + 14) : MID ar hl C K S ρ nv nc e w B n (bpush Kc 0 x (-1)) Sc ρc nvc ncc wc Bc (n1 + 1) c1 i s y db := by
  obtain ⟨g1, g2, g3, g4, g5, g6, g7, g8⟩ := g
  have hB := g1.2.1.2.1
  refine ⟨g1.bnd KF.bpush hB.push (fun q hq x hx => ?_), g2, g3, g4, g5, by omega, hn, g8⟩
  rcases hq with rfl | rfl | rfl
  · rw [bpush_at15, cp_up_ne (by rw [hB.1]; omega)]
  · rw [bpush_at17, cp_up_ne (by rw [hB.2.1]; omega)]
  · rw [bpush_at19, cp_up_ne (by rw [hB.2.2]; omega)]
abbrev LA (p e frame p4 n q : Nat) : cp_G → List (Nat × Value) := fun G => [(0, .ref (cp_b G + 23)), (1, va_rf (kr G p)), (2, .int (nI (e + 1))), (3, .int (nI frame)), (4, va_rf (kr G p4)), (5, .int (nI n)), (6, va_rf (kr G q))]
/-- the arguments that are worked out -/
def ARG (Kc : cp_K) (Sc : cp_S) (ρc : Nat → Nat → Prop) (e n t : Nat) : Prop := ∀ x, x < t → rat Kc 15 (n + x) = 0 ∧ ∃ v r, rat Kc 17 (n + x) = nI v ∧ v < 2 ^ 31 ∧ Sc.2 75 (8 * e + x) = nI r ∧ ρc v r
theorem let_args {m k mm j p4 : Nat} {sc : Nat → Prop} (ih : WIH ar hl C m) (h : WST ar hl C K S ρ nv nc e w B n) (hD : DIC K S.2 ar) (hop : S.2 39 i = 5) (h41 : S.2 41 i = nI mm) (hmm : mm ≤ 6) (hj : j ≤ 2720) (hf : frame ≤ n) (hm : 100 - w < m + 1) (hw : w < 100) : ∀ (b t q it : Nat) (Kc : cp_K) (Sc : cp_S) (ρc : Nat → Nat → Prop) (nvc ncc wc Bc : Nat), t + b = mm → SHL (SH S.2 (k + 2)) t (i + 1) it → CHN (CR K S.2 ar k sc) K b q it j → MID ar hl C K S ρ nv nc e w B n Kc Sc ρc nvc ncc wc Bc (n + t) (1 + t) i t y 6 → ENV Kc Sc.2 Bc frame y sc ρc → ARG Kc Sc ρc e n t →
    (∃ (K' : cp_K) (S' : cp_S) (ρ' : Nat → Nat → Prop) (nv' nc' w' B' : Nat), (∀ o Kx, JC (WD (w + 1) + 2) m_U_apply o Kx 28 (LA p e frame p4 n 0) (fun _ => []) K' → JC (WD (w + 1) + 2) m_U_apply o Kx 28 (LA p e frame p4 n q) (fun _ => []) Kc) ∧ (∀ x1 x2 o Sx, LPR x1 x2 o Sx S' → LPR x1 x2 o Sx Sc) ∧ MID ar hl C K S ρ nv nc e w B n K' S' ρ' nv' nc' w' B' (n + mm) (1 + mm) i mm y 6 ∧ ARG K' S' ρ' e n mm) ∨
    (∃ (K' : cp_K) (S2 : cp_S) (ρ' : Nat → Nat → Prop) (nv' nc' w' n' : Nat), JC (WD (w + 1) + 2) m_U_apply (fun _ => .inl (some (.int (-1)))) K' 28 (LA p e frame p4 n q) (fun _ => []) Kc ∧ (∀ x1 x2, LPR x1 x2 (some (.int (-1))) S2 Sc) ∧ WPO ar hl C K S ρ nv nc e w B n K' S2 ρ' nv' nc' w' n' 0 0 ∧ n ≤ n' ∧ n' ≤ 11000)
  | 0, t, q, it, Kc, Sc, ρc, nvc, ncc, wc, Bc, ht, hS, hC, g, hE, hA => by
    obtain ⟨rfl, -⟩ := hC
    have : t = mm := by omega
    subst this
    exact Or.inl ⟨Kc, Sc, ρc, nvc, ncc, wc, Bc, fun _ _ z => z, fun _ _ _ _ z => z, g, hA⟩
  | b + 1, t, q, it, Kc, Sc, ρc, nvc, ncc, wc, Bc, ht, hS, hC, g, hE, hA => by
    have hle := CHN_le (fun q i j h => SH_lt _ _ _ (CR.sh _ _ _ _ _ h)) _ _ _ _ hC
    obtain ⟨nq, it', hq, hC'⟩ := hC
    have hlt := SH_lt _ _ _ (CR.sh _ _ _ _ _ hq)
    have hle' := CHN_le (fun q i j h => SH_lt _ _ _ (CR.sh _ _ _ _ _ h)) _ _ _ _ hC'
    have hi : i < 2720 := g.2.1.2.2.2.2.2.2
    have he : e < 30 := g.2.1.2.2.2.2.2.1
    have gl := g.2.2.2.2.2.2.2
    have ch : MC 2 m_M_child [.int (nI i), .int (nI t)] Sc (some (.int (nI it))) Sc := MC_child (k := k + 2) (by omega) (SHL.mv (SH.mv g.bk _) _ _ _ hS) (by omega)
    have o5 : Sc.2 39 i = 5 := by rw [g.bk 39 (by omega)]; exact hop
    have o41 : Sc.2 41 i = nI mm := by rw [g.bk 41 (by omega)]; exact h41
    have hp0 : ¬ q = 0 := by have := nq.1; omega
    have wle : WD wc ≤ WD (w + 1) := WD_le (by omega)
    have w20 := WD_20 (w := w + 1)
    have e22 : nI (e + 1) + 1 = nI (e + 2) := nI_1 (e + 1)
    rcases W_child ih h g (by omega) (hD.mv g.nk g.bk) (CR.mv g.nk g.bk k sc _ _ _ hq) (by omega) hE (by omega) hm with ⟨v, r, w2, K2, T1, S3, ρ2, nv2, nc2, B2, a1, a2, a3, a4, a5, a6, a7, a8, a9, a10, a11⟩ | ⟨w2, K2, T1, S2, ρ2, nv2, nc2, n2, a1, a2, a3, a4, a5, a6⟩
    · have BSc : BS Kc (n + t) := g.1.2.1.2.1
      have BS2 : BS K2 (n + t) := a5.2.1.2.1
      have nb := h.2.2.2.2.2.2.1
      have M3 := MID.push (x := nI v) a4 (by omega)
      have E3 : ENV (bpush K2 0 (nI v) (-1)) S3.2 B2 frame y sc ρ2 := hE.mv (fun c v hc q => (LU.same BSc BS2 a5.2.1.2.2.1 q).push BS2 hc) (fun p p1 p2 x hx => a5.2.2.2.2.1.2.2.2.2 p p1 p2 x hx) a11 a10
      have A3 : ARG (bpush K2 0 (nI v) (-1)) S3 ρ2 e n (t + 1) := by
        intro x hx
        rw [bpush_at15, bpush_at17, BS2.1, BS2.2.1]
        by_cases hxt : x = t
        · subst hxt
          rw [va_up_at, va_up_at]
          exact ⟨rfl, v, r, rfl, a9, a6, a8⟩
        · rw [cp_up_ne (by omega), cp_up_ne (by omega), a5.2.1.2.2.1 15 (by omega) _ (by omega), a5.2.1.2.2.1 17 (by omega) _ (by omega)]
          obtain ⟨z0, v', r', z1, z2, z3, z4⟩ := hA x (by omega)
          exact ⟨z0, v', r', z1, z2, (a7 x (by omega)).trans z3, a10 _ _ z4⟩
      have nx : (bpush K2 0 (nI v) (-1)).2.2.1 q 6 = K.2.2.1 q 6 := by rw [KF.bpush.2.1, a4.nk.2.1]
      have cl : ∀ o Kx, JC (WD (w + 1) + 2) m_U_apply o Kx 28 (LA p e frame p4 n (K.2.2.1 q 6)) (fun _ => []) (bpush K2 0 (nI v) (-1)) → JC (WD (w + 1) + 2) m_U_apply o Kx 28 (LA p e frame p4 n q) (fun _ => []) Kc := fun o Kx z => by
        have hDD : WD (w + 1) + 2 = WD (w + 1) - 6 + 8 := by omega
        rw [hDD] at z ⊢
        refine b_U_apply_28 ⟨fun hn => absurd hn hp0, fun _ => ⟨nI v, K2, ?_, fun _ => ⟨⟨?_, ?_, ?_⟩, a4.nk.2.2 _ _ nq, ?_⟩, fun hn => absurd hn (nI_m1 a9)⟩⟩
        · rw [e22]; exact a1.mono (by omega)
        · rw [BS2.1]; show n + t < 16384; omega
        · rw [BS2.2.1]; show n + t < 16384; omega
        · rw [BS2.2.2]; show n + t < 16384; omega
        · rw [nx]; exact z
      have lp : ∀ x1 x2 o Sx, LPR x1 x2 o Sx S3 → LPR x1 x2 o Sx Sc := fun x1 x2 o Sx z => lp_call g.2.1 o5 (MC_call_e g.2.1 o41 hmm (by omega) ch a2) (a3 x1 x2 o Sx z)
      have hS' : SHL (SH S.2 (k + 2)) (t + 1) (i + 1) it' := (SHL_app t _ _).mpr ⟨it, hS, CR.sh _ _ _ _ _ hq⟩
      rcases let_args (p4 := p4) ih h hD hop h41 hmm hj hf hm hw b (t + 1) (K.2.2.1 q 6) it' _ S3 ρ2 nv2 nc2 w2 B2 (by omega) hS' hC' M3 E3 A3 with ⟨K', S', ρ', nv', nc', w', B', d1, d2, d3, d4⟩ | ⟨K', S', ρ', nv', nc', w', n', d1, d2, d3⟩
      · exact Or.inl ⟨K', S', ρ', nv', nc', w', B', fun o Kx z => cl o Kx (d1 o Kx z), fun x1 x2 o Sx z => lp x1 x2 o Sx (d2 x1 x2 o Sx z), d3, d4⟩
      · exact Or.inr ⟨K', S', ρ', nv', nc', w', n', cl _ _ d1, fun x1 x2 => lp x1 x2 _ _ (d2 x1 x2), d3⟩
    · refine Or.inr ⟨K2, S2, ρ2, nv2, nc2, w2, n2, ?_, fun x1 x2 => lp_call g.2.1 o5 (MC_call_e g.2.1 o41 hmm (by omega) ch a2) (a3 x1 x2), a4, a5, a6⟩
      have hDD : WD (w + 1) + 2 = WD (w + 1) - 6 + 8 := by omega
      rw [hDD]
      refine b_U_apply_28 ⟨fun hn => absurd hn hp0, fun _ => ⟨-1, K2, ?_, fun hn => absurd rfl hn, fun _ => ⟨rfl, rfl⟩⟩⟩
      rw [e22]; exact a1.mono (by omega)
end CPWR
