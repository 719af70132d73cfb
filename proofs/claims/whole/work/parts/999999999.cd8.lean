/-! ===== reading codes: the variables of a pattern, both sides ===== -/
section CPR3B
variable {X : Int32 × Int32 × Int32} {n p rf n1 : Nat} {S : cp_S} {l : List cp_I}
theorem ns216 {c a b : Int32} : ¬ SKP c (216, a, b) := nsk (by show ¬ (216 : Int32) = 201; decide) (by show ¬ (216 : Int32) = 211; decide) (by show ¬ (216 : Int32) = 215; decide)
theorem rn_close {i0 t : Nat} {o : Option Value} {Sx : cp_S} (h : PS S ((216, nI i0, 0) :: l) n1 rf) (hl : l.length < 400) (hp : p < n) (hn : n ≤ 80) (hc : S.2 27 p = nI 41) (hi : i0 < 2720) (h6 : S.2 41 i0 = nI t) (ht : 0 < t) (ht6 : t ≤ 6) (w : RD X n o Sx (p + 1) (popS S l.length)) : RD X n o Sx p S := by
  refine rd_step hp hn hc (tk_code (r := 1) h hl ns216 (by show (200 : Int32) ≤ 216; decide) (by show (209 : Int32) ≤ 216; decide) (Or.inr rfl) (tc_216c rfl (vp_in_nI (show i0 < 2720 by omega) (by decide)) ?_)) (fun _ => w) (fun q => absurd q (by decide))
  show ¬ S.2 41 (Int32.toNatClampNeg (nI i0)) ≤ 0
  rw [nI_clamp (by omega), h6]
  exact fun q => by have := (nI_leq (a := t) (b := 0) (by omega) (by omega)).mp q; omega
theorem rn_fail {i0 t c : Nat} (h : PS S ((216, nI i0, 0) :: l) n1 rf) (hl : l.length < 400) (hp : p < n) (hn : n ≤ 80) (hc : S.2 27 p = nI c) (hc2 : c < 200) (hi : i0 < 2720) (h6 : S.2 41 i0 = nI t) (hk : (c = 41 ∧ t = 0) ∨ (¬ c = 41 ∧ (¬ isV c ∨ t = 6))) : ∃ T, SPO S T ∧ RD X n (some (.int (nI p))) T p S := by
  refine ⟨popS S l.length, pop_spo, rd_step hp hn hc (tk_code (r := 0) h hl ns216 (by show (200 : Int32) ≤ 216; decide) (by show (209 : Int32) ≤ 216; decide) (Or.inl rfl) ?_) (fun q => absurd rfl q) (fun _ => ⟨rfl, rfl⟩)⟩
  have v := vp_in_nI (show i0 < 2720 by omega) (show 2720 < 2 ^ 31 by decide)
  have e : ∀ z : Int32, nI t = z → (popS S l.length).2 41 (Int32.toNatClampNeg (nI i0)) = z := fun z hz => by rw [nI_clamp (by omega), pop_2, h6]; exact hz
  rcases hk with ⟨k1, k2⟩ | ⟨k1, k2⟩
  · exact tc_216z (by show nI c = 41; rw [k1]; rfl) v (by rw [e 0 (by rw [k2]; rfl)]; decide)
  · have n41 : ¬ nI c = 41 := nI_cc (a := 41) hc2 (by omega) k1
    by_cases hv : isV c
    · have := k2.resolve_left (fun q => q hv)
      exact tc_216f n41 (SC_V (by omega) (fun _ => rfl) (fun q => absurd hv q)) v (e 6 (by rw [this]; rfl))
    · exact tc_216o n41 (SC_V (by omega) (fun q => absurd q hv) (fun _ => rfl))
theorem rn_next {i0 t c : Nat} (h : PS S ((216, nI i0, 0) :: l) n1 rf) (hl : l.length < 400) (hp : p < n) (hn : n ≤ 80) (hc : S.2 27 p = nI c) (hi : i0 < n1) (hn1 : n1 < 2720) (hr : rf ≤ n1) (hr2 : n1 - rf < 82) (h6 : S.2 41 i0 = nI t) (ht : t < 6) (hv : isV c) : ∃ T, T = pshS (cntS (ndS (popS S l.length) n1 rf 14 (nI (c - 97)) (nI p)) i0 (nI (t + 1))) l.length 216 (nI i0) 0 ∧ PS T ((216, nI i0, 0) :: l) (n1 + 1) rf ∧ ∀ o Sx, RD X n o Sx (p + 1) T → RD X n o Sx p S := by
  have v1 := hv.1
  have v2 := hv.2
  have pp := PS.pop h
  refine ⟨_, rfl, PS.push (PS.cnt (PS.node pp)), fun o Sx w => rd_step hp hn hc (tk_code (r := 1) h hl ns216 (by show (200 : Int32) ≤ 216; decide) (by show (209 : Int32) ≤ 216; decide) (Or.inr rfl) (tc_216n (T40 := ndS (popS S l.length) n1 rf 14 (nI (c - 97)) (nI p)) (r41 := nI n1) (nI_cc (a := 41) (by omega) (by omega) (by omega)) (SC_V (by omega) (fun _ => rfl) (fun q => absurd hv q)) (vp_in_nI (show i0 < 2720 by omega) (by decide)) ?_ ?_ ?_)) (fun _ => w) (fun q => absurd q (by decide))⟩
  · show ¬ (popS S l.length).2 41 (Int32.toNatClampNeg (nI i0)) = 6
    rw [nI_clamp (by omega), pop_2, h6]
    exact nI_cc (a := 6) (by omega) (by omega) (by omega)
  · rw [show nI c - 97 = nI (c - 97) from pk_sub (a := c) (b := 97) v1]
    exact MC_node pp hn1 hr hr2
  · show MC 0 m_M_push [.int 216, .int (nI i0), .int 0] ((ndS (popS S l.length) n1 rf 14 (nI (c - 97)) (nI p)).1, va_up (ndS (popS S l.length) n1 rf 14 (nI (c - 97)) (nI p)).2 41 (upd ((ndS (popS S l.length) n1 rf 14 (nI (c - 97)) (nI p)).2 41) (Int32.toNatClampNeg (nI i0)) ((ndS (popS S l.length) n1 rf 14 (nI (c - 97)) (nI p)).2 41 (Int32.toNatClampNeg (nI i0)) + 1))) none _
    rw [nI_clamp (show i0 < 2 ^ 31 by omega), nds_lo (by omega) (by omega) (by omega), pop_2, h6, nI_1]
    exact MC_push (S := cntS (ndS (popS S l.length) n1 rf 14 (nI (c - 97)) (nI p)) i0 (nI (t + 1))) (l := l) (PS.cnt (PS.node pp)) hl
end CPR3B
abbrev LV (q0 : Nat) (most cl : Int32) (t : Nat) : cp_G → List (Nat × Value) := fun G => [(0, .ref (cp_b G + 21)), (1, va_rf (kr G q0)), (2, .int most), (3, .int cl), (4, .int (nI t))]
/-- the class reads a variable -/
theorem rv_step {K : cp_K} {q0 ql most t : Nat} {mi cl r : Int32} {K' : cp_K} (hm : mi = nI most) (hmt : most < 100) (ht : t + 1 ≤ most) (hok : qok K) (h86 : 86 ≤ K.1.1) (hq0 : nd K q0 9) (hlast : LSP K q0 ql) (hv : 97 ≤ qpk K ∧ qpk K ≤ 122) (w1 : ¬ qpk (nadd (qlf K 5 (qpk K)) q0 K.1.1) = cl → JC 8 m_Q_readVariables (fun _ => .inl (some (.int r))) K' 3 (LV q0 mi cl (t + 2)) (fun _ => []) (nadd (qlf K 5 (qpk K)) q0 K.1.1)) (w2 : qpk (nadd (qlf K 5 (qpk K)) q0 K.1.1) = cl → r = 1 ∧ K' = qtk (nadd (qlf K 5 (qpk K)) q0 K.1.1) cl) : JC 8 m_Q_readVariables (fun _ => .inl (some (.int r))) K' 3 (LV q0 mi cl (t + 1)) (fun _ => []) K := by
  have ak := addK (c := K.1.1) (KRX_leaf (x := 5) (y := qpk K) h86 (Nat.le_refl _) (Nat.le_refl _)) hq0 hlast
  refine b_Q_readVariables_3 (D := 0) ⟨fun q => absurd q (by rw [hm]; exact nI_nlt (by omega) (by omega)), fun _ => ⟨hok, fun _ => ⟨hq0, ak.1.2, fun q => ?_, fun q => ?_⟩, fun q => ?_⟩⟩
  · by_cases e : qpk (nadd (qlf K 5 (qpk K)) q0 K.1.1) = cl
    · exact absurd q (ife1 e)
    · rw [qtk_ne e, nI_1]; exact w1 e
  · by_cases e : qpk (nadd (qlf K 5 (qpk K)) q0 K.1.1) = cl
    · obtain ⟨e1, e2⟩ := w2 e
      rw [e1, e2]; exact ⟨rfl, rfl⟩
    · exact absurd (ife0 e) q
  · rw [if_pos hv] at q; exact absurd q (by decide)
/-- no variable, or enough of them -/
theorem rv_no {K : cp_K} {q0 t : Nat} {mi cl : Int32} (hok : qok K) (h : mi < nI (t + 1) ∨ ¬ (97 ≤ qpk K ∧ qpk K ≤ 122)) : JC 8 m_Q_readVariables (fun _ => .inl (some (.int 0))) K 3 (LV q0 mi cl (t + 1)) (fun _ => []) K := by
  refine b_Q_readVariables_3 (D := 0) ⟨fun _ => ⟨rfl, rfl⟩, fun q => ⟨hok, fun q2 => ?_, fun _ => ⟨rfl, rfl⟩⟩⟩
  have := h.resolve_left q
  rw [if_neg this] at q2; exact absurd rfl q2
def PVL (X : Int32 × Int32 × Int32) (tx : Nat → Nat) (n rf t : Nat) : Prop := ∀ (K : cp_K) (S : cp_S) (l : List cp_I) (p n1 q0 ql i0 : Nat), RJ tx n rf K S ((216, nI i0, 0) :: l) p n1 → l.length ≤ 390 → S.2 41 i0 = nI t → (rf ≤ i0 ∧ i0 < n1) → (nd K q0 9 ∧ K.2.1 q0 3 = nI t) → LSP K q0 ql → (t = 0 ↔ K.2.2.1 q0 5 = 0) → (0 < t → p < n → ¬ tx p = 41) →
  (∃ (K' : cp_K) (S' : cp_S) (p' : Nat), JC 8 m_Q_readVariables (fun _ => .inl (some (.int 0))) K' 3 (LV q0 6 41 (t + 1)) (fun _ => []) K ∧ K'.2.1 21 2 = nI p' ∧ (p ≤ p' ∧ p' ≤ n) ∧ RD X n (some (.int (nI p'))) S' p S ∧ KRX q0 ql K K' ∧ RFX rf n1 l.length i0 S S' ∧ K'.1.1 ≤ K.1.1 + (p' - p)) ∨
  ∃ (K' : cp_K) (S' : cp_S) (p' : Nat) (vs : List Nat), JC 8 m_Q_readVariables (fun _ => .inl (some (.int 1))) K' 3 (LV q0 6 41 (t + 1)) (fun _ => []) K ∧ (∀ r Sx, RD X n r Sx p' S' → RD X n r Sx p S) ∧ RJ tx n rf K' S' l p' (n1 + vs.length) ∧ VCI K' S'.2 vs K.1.1 n1 ∧ K'.1.1 = K.1.1 + vs.length ∧ (1 ≤ vs.length ∧ t + vs.length ≤ 6 ∧ K'.2.1 q0 3 = nI (t + vs.length) ∧ S'.2 41 i0 = nI (t + vs.length)) ∧ ((t = 0 → K'.2.2.1 q0 4 = K.1.1) ∧ (0 < t → K'.2.2.1 q0 4 = K.2.2.1 q0 4 ∧ K'.2.2.1 ql 6 = K.1.1)) ∧ KRX q0 ql K K' ∧ RFX rf n1 l.length i0 S S' ∧ p' = p + vs.length + 1
section CPVL2
variable {X : Int32 × Int32 × Int32} {tx : Nat → Nat} {n rf : Nat}
theorem pvl_no {t : Nat} {K : cp_K} {S : cp_S} {l : List cp_I} {p n1 q0 ql i0 : Nat} (ht : t ≤ 6) (rj : RJ tx n rf K S ((216, nI i0, 0) :: l) p n1) (hl : l.length ≤ 390) (hc : S.2 41 i0 = nI t) (hi : i0 < n1) (h41 : 0 < t → p < n → ¬ tx p = 41) (hno : p < n → ¬ isV (tx p) ∨ t = 6) : ∃ (K' : cp_K) (S' : cp_S) (p' : Nat), JC 8 m_Q_readVariables (fun _ => .inl (some (.int 0))) K' 3 (LV q0 6 41 (t + 1)) (fun _ => []) K ∧ K'.2.1 21 2 = nI p' ∧ (p ≤ p' ∧ p' ≤ n) ∧ RD X n (some (.int (nI p'))) S' p S ∧ KRX q0 ql K K' ∧ RFX rf n1 l.length i0 S S' ∧ K'.1.1 ≤ K.1.1 + (p' - p) := by
  obtain ⟨⟨r1, r2, r3, r4⟩, ps, ⟨r5, r6, r7, r8, r9⟩, r10, r11⟩ := id rj
  by_cases hpn : p = n
  · subst hpn
    refine ⟨K, S, p, rv_no r3 (Or.inr (by rw [rj.pk0]; decide)), r1, ⟨Nat.le_refl _, Nat.le_refl _⟩, rd_end_no ps (by rw [List.length_cons]; omega) r5 List.mem_cons_self (nmy (w := 216) rfl (by decide) (by decide) (by decide) (by decide)), KRX.refl, RFX.refl, by omega⟩
  · have hp : p < n := by omega
    have hc2 : tx p < 200 := by have := (r10 p hp).1; omega
    have hk : (tx p = 41 ∧ t = 0) ∨ (¬ tx p = 41 ∧ (¬ isV (tx p) ∨ t = 6)) := by
      by_cases e : tx p = 41
      · by_cases ht0 : t = 0
        · exact Or.inl ⟨e, ht0⟩
        · exact absurd e (h41 (by omega) hp)
      · exact Or.inr ⟨e, hno hp⟩
    obtain ⟨T, t1, t2⟩ := rn_fail (X := X) ps (by omega) hp r5 (r10 p hp).2.2 hc2 (by omega) hc hk
    refine ⟨K, T, p, rv_no r3 ?_, r1, ⟨Nat.le_refl _, r6⟩, t2, KRX.refl, t1.rfx, by omega⟩
    rcases hno hp with h | h
    · exact Or.inr (by rw [rj.pk hp]; exact fun q => h ((isV_i (by omega)).mp q))
    · exact Or.inl (by rw [h]; decide)
theorem pvl_step {t : Nat} (ht : t ≤ 5) (ih : PVL X tx n rf (t + 1)) : PVL X tx n rf t := by
  intro K S l p n1 q0 ql i0 rj hl hc ⟨hi1, hi2⟩ ⟨hq0, hq3⟩ hlast ht0 h41
  obtain ⟨⟨r1, r2, r3, r4⟩, ps, ⟨r5, r6, r7, r8, r9⟩, r10, r11⟩ := id rj
  have q0lt := hq0.2.1
  have q086 := hq0.1
  by_cases hv : ¬ (p < n ∧ isV (tx p))
  · exact Or.inl (pvl_no (by omega) rj hl hc hi2 h41 (fun hp => Or.inl (fun q => hv ⟨hp, q⟩)))
  obtain ⟨hp, hV⟩ : p < n ∧ isV (tx p) := Classical.byContradiction (fun h => hv h)
  have v1 := hV.1
  have v2 := hV.2
  have hc2 : tx p < 200 := by omega
  have pk := rj.pk hp
  obtain ⟨T, hT, psT, rdT⟩ := rn_next (X := X) ps (by omega) hp r5 (r10 p hp).2.2 hi2 (by omega) r7 (by omega) hc (by omega) hV
  have k1 : KRX K.1.1 K.1.1 K (qlf K 5 (qpk K)) := KRX_leaf r4 (Nat.le_refl _) (Nat.le_refl _)
  have n1e : (qlf K 5 (qpk K)).1.1 = K.1.1 + 1 := ql_n
  obtain ⟨w0, w1, w2, w3⟩ := ql_new (x := 5) (y := qpk K) r4
  have wr : ∀ g, (qlf K 5 (qpk K)).2.2.1 K.1.1 g = 0 := fun g => ql_rn
  have at1 : (qlf K 5 (qpk K)).2.1 21 2 = nI (p + 1) := by rw [ql_21 r4, if_pos rfl, r1, nI_1]
  have nc1 : nd (qlf K 5 (qpk K)) K.1.1 9 := ⟨r4, by omega, ql_ts⟩
  obtain ⟨⟨nq1, nql1⟩, k02, ⟨qx, hqx, kx2⟩, n2, c3, c5, c4, c46, c21⟩ := addK (c := K.1.1) k1 hq0 hlast
  have step := fun (r : Int32) (K' : cp_K) => rv_step (K := K) (q0 := q0) (ql := ql) (most := 6) (mi := 6) (cl := 41) (t := t) (r := r) (K' := K') rfl (by omega) (by omega) r3 r4 hq0 hlast (by rw [pk]; exact (isV_i (by omega)).mpr hV)
  obtain ⟨K1, hK1⟩ : ∃ K1 : cp_K, K1 = qlf K 5 (qpk K) := ⟨_, rfl⟩
  rw [← hK1] at k1 n1e w0 w1 w2 w3 wr at1 nc1 nq1 nql1 k02 kx2 n2 c3 c5 c4 c46 c21 step hqx
  obtain ⟨K2, hK2⟩ : ∃ K2 : cp_K, K2 = nadd K1 q0 K.1.1 := ⟨_, rfl⟩
  rw [← hK2] at k02 kx2 n2 c3 c5 c4 c46 c21 step
  have at2 : K2.2.1 21 2 = nI (p + 1) := by rw [c21]; exact at1
  have s41 : ∀ x, T.2 41 x = if x = i0 then nI (t + 1) else if x = n1 then 0 else S.2 41 x := fun x => by
    rw [hT, psh_2 (by omega), cnt_at]
    by_cases hx : x = i0
    · rw [if_pos hx, if_pos hx]
    · rw [if_neg hx, if_neg hx]
      by_cases hx1 : x = n1
      · rw [if_pos hx1, hx1]; exact nds_at.2.2
      · rw [if_neg hx1, nds_lo hx1 (by omega) (by omega), pop_2]
  have sT : ∀ q, q ≠ 41 → (q < 49 ∨ 51 < q) → T.2 q = (ndS S n1 rf 14 (nI (tx p - 97)) (nI p)).2 q := fun q q1 q2 => by rw [hT, psh_2 q2, cnt_2 q1]; rfl
  have fT : RFX rf n1 l.length i0 S T := by
    rw [hT]
    exact (((pop_spo.rfx (n1 := n1) (len := l.length) (i0 := i0)).trans (nds_rfx (len := l.length) (i0 := i0)) (Nat.le_refl _) (Nat.le_refl _) (Or.inl rfl)).trans (cnt_rfx (m := n1) (len := l.length)) (Nat.le_refl _) (Nat.le_refl _) (Or.inl rfl)).trans (psh_rfx (m := n1) (i0 := i0) (Nat.le_refl _)) (Nat.le_refl _) (Nat.le_refl _) (Or.inl rfl)
  have piT : PLI T rf (n1 + 1) (p + 1) := (r11.node r7).eq (fun x _ => by rw [sT 42 (by decide) (by omega)]) (Nat.le_refl _)
  have rj2 : RJ tx n rf K2 T ((216, nI i0, 0) :: l) (p + 1) (n1 + 1) := rj.mvz k02 (by rw [sT 27 (by decide) (by omega), nds_2 (by omega)]) psT at2 (by omega) ⟨by omega, by omega⟩ piT (by omega)
  have i2 : K2.2.1 K.1.1 1 = nI (97 + (tx p - 97)) := by rw [kx2.2.2.2.1 K.1.1 (by omega) (by omega) 1 (Or.inl (by omega)), w1, pk]; congr 1; omega
  have nx2 : K2.2.2.1 K.1.1 6 = 0 := by rw [kx2.2.2.2.2.2.1 K.1.1 (by omega) 6 (Or.inl (by omega)) (Or.inl (by omega))]; exact wr 6
  have nc2 : nd K2 K.1.1 9 := kx2.nd nc1
  have c32 : K2.2.1 q0 3 = nI (t + 1) := by rw [c3, hq3, nI_1]
  have e4 : (t = 0 → K2.2.2.1 q0 4 = K.1.1) ∧ (0 < t → K2.2.2.1 q0 4 = K.2.2.1 q0 4 ∧ K2.2.2.1 ql 6 = K.1.1) := ⟨fun h => c4 (ht0.mp h), fun h => c46 (fun q => by have := ht0.mpr q; omega)⟩
  have hql : 0 < t → ql < K.1.1 ∧ ql ≠ q0 := fun h => by
    rcases hlast with ⟨h1, -⟩ | ⟨-, h3, h4⟩
    · have := ht0.mpr h1; omega
    · exact ⟨h4.2.1, h3⟩
  have b40 : T.2 40 n1 = nI (tx p - 97) := by rw [sT 40 (by decide) (by omega)]; exact nds_at.2.1
  have b39 : T.2 39 n1 = 14 := by rw [sT 39 (by decide) (by omega)]; exact nds_at.1
  by_cases hcl : p + 1 < n ∧ tx (p + 1) = 41
  · obtain ⟨hp1, h41'⟩ := hcl
    have q41 : qpk K2 = 41 := by rw [rj2.pk hp1, h41']; rfl
    obtain ⟨K3, hK3⟩ : ∃ K3 : cp_K, K3 = kI K2 21 2 (nI (p + 2)) := ⟨_, rfl⟩
    have hq : qtk K2 41 = K3 := by rw [qtk_eq (p := 0) q41, at2, nI_1, hK3]
    have k23 : ∀ x y, KRX x y K2 K3 := fun x y => by rw [hK3]; exact KRX_at
    have n3 : K3.1.1 = K2.1.1 := by rw [hK3]; rfl
    have r3e : ∀ x g, K3.2.2.1 x g = K2.2.2.1 x g := fun x g => by rw [hK3]; rfl
    have i3e : ∀ x g, x ≠ 21 → K3.2.1 x g = K2.2.1 x g := fun x g hx => by rw [hK3, kI_i, cp_up_ne hx]
    have sp : SPO T (popS T l.length) := pop_spo
    refine Or.inr ⟨K3, popS T l.length, p + 2, [tx p - 97], step 1 K3 (fun q => absurd q41 q) (fun _ => ⟨rfl, hq.symm⟩), fun r Sx w => rdT _ _ (rn_close (t := t + 1) psT (by omega) hp1 r5 (by rw [(rj2.2.2.2.1 _ hp1).2.2, h41']) (by omega) (by rw [s41, if_pos rfl]) (by omega) (by omega) w), rj2.mvz (k23 0 0) rfl (PS.pop psT) (by rw [hK3, kI_i, va_up_at, va_up_at]) (by omega) ⟨by omega, by simp; omega⟩ (piT.eq (fun _ _ => rfl) (by omega)) (by omega), ?_, by rw [n3]; simp; omega, ⟨by simp, by simp; omega, by rw [i3e _ _ (by omega)]; exact c32, by rw [pop_2, s41, if_pos rfl]; rfl⟩, ⟨fun h => by rw [r3e]; exact e4.1 h, fun h => by rw [r3e, r3e]; exact e4.2 h⟩, k02.trans (k23 q0 ql) (Or.inl rfl) (Or.inl rfl), fT.trans (sp.rfx (n1 := n1) (len := l.length) (i0 := i0)) (Nat.le_refl _) (Nat.le_refl _) (Or.inl rfl), by simp⟩
    intro y hy
    have : y = 0 := by simp at hy; omega
    subst this
    refine ⟨(k23 0 0).nd nc2, ?_, ?_, ?_, ?_, ?_⟩
    · show tx p - 97 < 26; omega
    · show K3.2.1 (K.1.1 + 0) 1 = nI (97 + (tx p - 97)); rw [Nat.add_zero, i3e _ _ (by omega)]; exact i2
    · show T.2 40 (n1 + 0) = nI (tx p - 97); rw [Nat.add_zero]; exact b40
    · show T.2 39 (n1 + 0) = 14; rw [Nat.add_zero]; exact b39
    · show K3.2.2.1 (K.1.1 + 0) 6 = _; rw [Nat.add_zero, r3e, nx2]; rfl
  · have n41 : ¬ qpk K2 = 41 := fun q => by
      by_cases hp1 : p + 1 < n
      · rw [rj2.pk hp1] at q
        have := (r10 (p + 1) hp1).1
        exact hcl ⟨hp1, (nI_ch (a := 41) (by omega) (by omega)).mp q⟩
      · have e : p + 1 = n := by omega
        rw [e] at rj2
        rw [rj2.pk0] at q; exact absurd q (by decide)
    rcases ih K2 T l (p + 1) (n1 + 1) q0 K.1.1 i0 rj2 hl (by rw [s41, if_pos rfl]) ⟨hi1, by omega⟩ ⟨kx2.nd nq1, c32⟩ (Or.inr ⟨c5, by omega, nc2⟩) ⟨fun h => absurd h (by omega), fun h => by rw [c5] at h; omega⟩ (fun _ hp1 q => hcl ⟨hp1, q⟩) with ⟨K', S', p', g1, g2, g3, g4, g5, g6, g7⟩ | ⟨K', S', p', vs, g1, g2, g3, g4, g5, ⟨g6, g7, g8, g9⟩, ⟨-, g10⟩, g11, g12, g13⟩
    · exact Or.inl ⟨K', S', p', step 0 K' (fun _ => g1) (fun q => absurd q n41), g2, ⟨by omega, g3.2⟩, rdT _ _ g4, k02.trans g5 (Or.inl rfl) (Or.inr (Nat.le_refl _)), fT.trans g6 (by omega) (Nat.le_refl _) (Or.inl rfl), by omega⟩
    · obtain ⟨g10a, g10b⟩ := g10 (by omega)
      refine Or.inr ⟨K', S', p', (tx p - 97) :: vs, step 1 K' (fun _ => g1) (fun q => absurd q n41), fun r Sx w => rdT _ _ (g2 r Sx w), by rw [List.length_cons, show n1 + (vs.length + 1) = n1 + 1 + vs.length by omega]; exact g3, ?_, by rw [List.length_cons]; omega, ⟨by simp, by simp; omega, by rw [g8, List.length_cons]; congr 1; omega, by rw [g9, List.length_cons]; congr 1; omega⟩, ⟨fun h => by rw [g10a]; exact e4.1 h, fun h => ⟨by rw [g10a]; exact (e4.2 h).1, ?_⟩⟩, k02.trans g11 (Or.inl rfl) (Or.inr (Nat.le_refl _)), fT.trans g12 (by omega) (Nat.le_refl _) (Or.inl rfl), by rw [List.length_cons]; omega⟩
      · intro y hy
        cases y with
        | zero =>
          refine ⟨g11.nd nc2, ?_, ?_, ?_, ?_, ?_⟩
          · show tx p - 97 < 26; omega
          · show K'.2.1 (K.1.1 + 0) 1 = nI (97 + (tx p - 97)); rw [Nat.add_zero, g11.2.2.2.1 _ (by omega) (by omega) 1 (Or.inl (by omega))]; exact i2
          · show S'.2 40 (n1 + 0) = nI (tx p - 97); rw [Nat.add_zero, g12.2.2.1 40 (by omega) (by omega) n1 (by omega) (Or.inl (by omega))]; exact b40
          · show S'.2 39 (n1 + 0) = 14; rw [Nat.add_zero, g12.2.2.1 39 (by omega) (by omega) n1 (by omega) (Or.inl (by omega))]; exact b39
          · show K'.2.2.1 (K.1.1 + 0) 6 = _
            rw [Nat.add_zero, g10b, List.length_cons, if_neg (by omega)]; omega
        | succ y =>
          have hy' : y < vs.length := by rw [List.length_cons] at hy; omega
          obtain ⟨u1, u2, u3, u4, u5, u6⟩ := g4 y hy'
          rw [show K2.1.1 + y = K.1.1 + (y + 1) by omega] at u1 u3 u6
          rw [show n1 + 1 + y = n1 + (y + 1) by omega] at u4 u5
          refine ⟨u1, u2, u3, u4, u5, ?_⟩
          rw [u6, List.length_cons]
          by_cases e : y + 1 = vs.length
          · rw [if_pos e, if_pos (by omega)]
          · rw [if_neg e, if_neg (by omega)]
      · have hh := hql h
        rw [g11.2.2.2.2.2.1 ql (by omega) 6 (Or.inl hh.2) (Or.inl (by omega))]
        exact (e4.2 h).2
theorem pvl_0 : PVL X tx n rf 0 := by
  have A6 : PVL X tx n rf 6 := fun K S l p n1 q0 ql i0 rj hl hc hi hq hlast ht0 h41 => Or.inl (pvl_no (by omega) rj hl hc hi.2 h41 (fun _ => Or.inr rfl))
  have A5 : PVL X tx n rf 5 := pvl_step (by omega) A6
  have A4 : PVL X tx n rf 4 := pvl_step (by omega) A5
  have A3 : PVL X tx n rf 3 := pvl_step (by omega) A4
  have A2 : PVL X tx n rf 2 := pvl_step (by omega) A3
  have A1 : PVL X tx n rf 1 := pvl_step (by omega) A2
  exact pvl_step (by omega) A1
end CPVL2
