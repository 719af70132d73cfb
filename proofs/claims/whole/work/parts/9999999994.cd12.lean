/-! ===== reading: a program, both sides ===== -/
def gvS (S : cp_S) (t : Nat) (c : Int32) : cp_S := (va_up S.1 34 (nI (t + 1)), va_up S.2 71 (upd (S.2 71) t c))
theorem gv_1 {S : cp_S} {t k : Nat} {c : Int32} (h : k ≠ 34) : (gvS S t c).1 k = S.1 k := cp_up_ne h
theorem gv_34 {S : cp_S} {t : Nat} {c : Int32} : (gvS S t c).1 34 = nI (t + 1) := by
  show va_up S.1 34 (nI (t + 1)) 34 = _
  exact va_up_at
theorem gv_2 {S : cp_S} {t q : Nat} {c : Int32} (h : q ≠ 71) : (gvS S t c).2 q = S.2 q := cp_up_ne h
theorem gv_71 {S : cp_S} {t x : Nat} {c : Int32} : (gvS S t c).2 71 x = if x = t then c else S.2 71 x := by
  show va_up S.2 71 (upd (S.2 71) t c) 71 x = _
  rw [va_up_at]
  by_cases h : x = t
  · rw [if_pos h, h, pk_us]
  · rw [if_neg h, pk_un h]
theorem gv_ps {S : cp_S} {l : List cp_I} {n1 rf t : Nat} {c : Int32} (h : PS S l n1 rf) : PS (gvS S t c) l n1 rf := ⟨by rw [gv_1 (by decide)]; exact h.1, STK.mv _ h.2.1 (fun q q1 q2 x _ => by rw [gv_2 (by omega)]), by rw [gv_1 (by decide)]; exact h.2.2.1, by rw [gv_1 (by decide)]; exact h.2.2.2⟩
/-- what reading the parameters leaves -/
def RFG (S S' : cp_S) : Prop := (∀ k, k ≠ 29 → k ≠ 34 → S'.1 k = S.1 k) ∧ ∀ q, (q < 49 ∨ 51 < q) → q ≠ 71 → S'.2 q = S.2 q
theorem RFG.trans {S S1 S2 : cp_S} (h : RFG S S1) (g : RFG S1 S2) : RFG S S2 := ⟨fun k k1 k2 => (g.1 k k1 k2).trans (h.1 k k1 k2), fun q q1 q2 => (g.2 q q1 q2).trans (h.2 q q1 q2)⟩
theorem SPO.rfg {S T : cp_S} (h : SPO S T) : RFG S T := ⟨fun k k1 _ => h.1 k k1, fun q _ _ => by rw [h.2]⟩
section CPRP
variable {X : Int32 × Int32 × Int32} {n p rf n1 : Nat} {S : cp_S} {l : List cp_I}
theorem ns209 {c a b : Int32} : ¬ SKP c (209, a, b) := nsk (by show ¬ (209 : Int32) = 201; decide) (by show ¬ (209 : Int32) = 211; decide) (by show ¬ (209 : Int32) = 215; decide)
theorem rp_eq {t : Nat} {o : Option Value} {Sx : cp_S} (h : PS S ((209, nI t, 0) :: l) n1 rf) (hl : l.length + 1 < 400) (hp : p < n) (hn : n ≤ 80) (hc : S.2 27 p = nI 61) (ht : 0 < t) (ht4 : t ≤ 4) (w : RD X n o Sx (p + 1) (pshS (popS S l.length) l.length 210 1 0)) : RD X n o Sx p S := rd_step hp hn hc (tk_code (r := 1) h (by omega) ns209 (by show (200 : Int32) ≤ 209; decide) (by show (209 : Int32) ≤ 209; decide) (Or.inr rfl) (tc_209e rfl (fun q => by have := (nI_leq (a := t) (b := 0) (by omega) (by omega)).mp q; omega) (MC_push (PS.pop h) (by omega)))) (fun _ => w) (fun q => absurd q (by decide))
theorem rp_bad {t c : Nat} (h : PS S ((209, nI t, 0) :: l) n1 rf) (hl : l.length < 400) (hp : p < n) (hn : n ≤ 80) (hc : S.2 27 p = nI c) (hc2 : c < 200) (hk : ¬ c = 61 ∨ t = 0) (hno : ¬ isV c ∨ t = 4) : ∃ T, SPO S T ∧ RD X n (some (.int (nI p))) T p S := by
  refine ⟨popS S l.length, pop_spo, rd_step hp hn hc (tk_code (r := 0) h hl ns209 (by show (200 : Int32) ≤ 209; decide) (by show (209 : Int32) ≤ 209; decide) (Or.inl rfl) (tc_209 ?_ ?_)) (fun q => absurd rfl q) (fun _ => ⟨rfl, rfl⟩)⟩
  · rcases hk with h | h
    · exact Or.inl (nI_cc (a := 61) hc2 (by omega) h)
    · exact Or.inr (by show nI t ≤ 0; rw [h]; decide)
  · by_cases hv : isV c
    · have := hno.resolve_left (fun q => q hv)
      exact b_M_takeCoded_74 ⟨1, SC_V (by omega) (fun _ => rfl) (fun q => absurd hv q), fun q => absurd q (by decide), fun _ => ⟨fun q => absurd (by show nI t = 4; rw [this]; rfl) q, fun _ => ⟨rfl, rfl, rfl⟩⟩⟩
    · exact b_M_takeCoded_74 ⟨0, SC_V (by omega) (fun q => absurd q hv) (fun _ => rfl), fun _ => ⟨rfl, rfl, rfl⟩, fun q => absurd rfl q⟩
theorem rp_next {t c : Nat} {o : Option Value} {Sx : cp_S} (h : PS S ((209, nI t, 0) :: l) n1 rf) (hl : l.length + 1 < 400) (hp : p < n) (hn : n ≤ 80) (hc : S.2 27 p = nI c) (ht : t < 4) (hv : isV c) (w : RD X n o Sx (p + 1) (pshS (gvS (popS S l.length) t (nI (c - 97))) l.length 209 (nI (t + 1)) 0)) : RD X n o Sx p S := by
  have v1 := hv.1
  have v2 := hv.2
  refine rd_step hp hn hc (tk_code (r := 1) h (by omega) ns209 (by show (200 : Int32) ≤ 209; decide) (by show (209 : Int32) ≤ 209; decide) (Or.inr rfl) (tc_209 (Or.inl (nI_cc (a := 61) (by omega) (by omega) (by omega))) (b_M_takeCoded_74 ⟨1, SC_V (by omega) (fun _ => rfl) (fun q => absurd hv q), fun q => absurd q (by decide), fun _ => ⟨fun _ => ⟨vp_in_nI (show t < 6 by omega) (by decide), pshS (gvS (popS S l.length) t (nI (c - 97))) l.length 209 (nI (t + 1)) 0, ?_, rfl, rfl, rfl⟩, fun q => ?_⟩⟩))) (fun _ => w) (fun q => absurd q (by decide))
  · show MC 0 m_M_push [.int 209, .int (nI t + 1), .int 0] (va_up (popS S l.length).1 34 (nI t + 1), va_up (popS S l.length).2 71 (upd ((popS S l.length).2 71) (Int32.toNatClampNeg (nI t)) (nI c - 97))) none _
    rw [nI_clamp (by omega), nI_1, show nI c - 97 = nI (c - 97) from pk_sub (a := c) (b := 97) v1]
    exact MC_push (S := gvS (popS S l.length) t (nI (c - 97))) (gv_ps (PS.pop h)) (by omega)
  · have := (nI_ch (c := t) (a := 4) (by omega) (by omega)).mp q; omega
end CPRP
/-- parameters: nodes q, q + 1 .. -/
def PVI (K : cp_K) (ps : List Nat) (q : Nat) : Prop := ∀ t (h : t < ps.length), nd K (q + t) 9 ∧ ps[t] < 26 ∧ K.2.1 (q + t) 1 = nI (97 + ps[t]) ∧ K.2.2.1 (q + t) 6 = (if t + 1 = ps.length then 0 else q + t + 1)
def PML (X : Int32 × Int32 × Int32) (tx : Nat → Nat) (n rf t : Nat) : Prop := ∀ (K : cp_K) (S : cp_S) (p q0 ql : Nat), RJ tx n rf K S [(209, nI t, 0)] p rf → (nd K q0 9 ∧ K.2.1 q0 3 = nI t) → LSP K q0 ql → (t = 0 ↔ K.2.2.1 q0 5 = 0) → (0 < t → p < n → ¬ tx p = 61) →
  (∃ (K' : cp_K) (S' : cp_S) (p' : Nat), JC 8 m_Q_readVariables (fun _ => .inl (some (.int 0))) K' 3 (LV q0 4 61 (t + 1)) (fun _ => []) K ∧ K'.2.1 21 2 = nI p' ∧ (p ≤ p' ∧ p' ≤ n) ∧ RD X n (some (.int (nI p'))) S' p S ∧ KRX q0 ql K K' ∧ RFG S S' ∧ K'.1.1 ≤ K.1.1 + (p' - p)) ∨
  ∃ (K' : cp_K) (S' : cp_S) (p' : Nat) (ps : List Nat), JC 8 m_Q_readVariables (fun _ => .inl (some (.int 1))) K' 3 (LV q0 4 61 (t + 1)) (fun _ => []) K ∧ (∀ r Sx, RD X n r Sx p' S' → RD X n r Sx p S) ∧ RJ tx n rf K' S' ([] ++ (210, nI 1, 0) :: []) p' rf ∧ PVI K' ps K.1.1 ∧ K'.1.1 = K.1.1 + ps.length ∧ (1 ≤ ps.length ∧ t + ps.length ≤ 4 ∧ K'.2.1 q0 3 = nI (t + ps.length) ∧ S'.1 34 = nI (t + ps.length)) ∧ ((∀ x (h : x < ps.length), S'.2 71 (t + x) = nI ps[x]) ∧ ∀ x, x < t → S'.2 71 x = S.2 71 x) ∧ ((t = 0 → K'.2.2.1 q0 4 = K.1.1) ∧ (0 < t → K'.2.2.1 q0 4 = K.2.2.1 q0 4 ∧ K'.2.2.1 ql 6 = K.1.1)) ∧ K'.2.2.1 q0 5 + 1 = K.1.1 + ps.length ∧ KRX q0 ql K K' ∧ RFG S S' ∧ p' = p + ps.length + 1
section CPPM
variable {X : Int32 × Int32 × Int32} {tx : Nat → Nat} {n rf : Nat}
theorem pml_no {t : Nat} {K : cp_K} {S : cp_S} {p q0 ql : Nat} (ht : t ≤ 4) (rj : RJ tx n rf K S [(209, nI t, 0)] p rf) (h61 : 0 < t → p < n → ¬ tx p = 61) (hno : p < n → ¬ isV (tx p) ∨ t = 4) : ∃ (K' : cp_K) (S' : cp_S) (p' : Nat), JC 8 m_Q_readVariables (fun _ => .inl (some (.int 0))) K' 3 (LV q0 4 61 (t + 1)) (fun _ => []) K ∧ K'.2.1 21 2 = nI p' ∧ (p ≤ p' ∧ p' ≤ n) ∧ RD X n (some (.int (nI p'))) S' p S ∧ KRX q0 ql K K' ∧ RFG S S' ∧ K'.1.1 ≤ K.1.1 + (p' - p) := by
  obtain ⟨⟨r1, r2, r3, r4⟩, ps, ⟨r5, r6, r7, r8, r9⟩, r10, r11⟩ := id rj
  by_cases hpn : p = n
  · subst hpn
    exact ⟨K, S, p, rv_no r3 (Or.inr (by rw [rj.pk0]; decide)), r1, ⟨Nat.le_refl _, Nat.le_refl _⟩, rd_end_no ps (by simp) r5 List.mem_cons_self (nmy (w := 209) rfl (by decide) (by decide) (by decide) (by decide)), KRX.refl, ⟨fun _ _ _ => rfl, fun _ _ _ => rfl⟩, by omega⟩
  · have hp : p < n := by omega
    have hc2 : tx p < 200 := by have := (r10 p hp).1; omega
    obtain ⟨T, t1, t2⟩ := rp_bad (X := X) ps (by simp) hp r5 (r10 p hp).2.2 hc2 (by by_cases h : t = 0; exact Or.inr h; exact Or.inl (h61 (by omega) hp)) (hno hp)
    refine ⟨K, T, p, rv_no r3 ?_, r1, ⟨Nat.le_refl _, r6⟩, t2, KRX.refl, t1.rfg, by omega⟩
    rcases hno hp with h | h
    · exact Or.inr (by rw [rj.pk hp]; exact fun q => h ((isV_i (by omega)).mp q))
    · exact Or.inl (by rw [h]; decide)
theorem pml_step {t : Nat} (ht : t ≤ 3) (ih : PML X tx n rf (t + 1)) : PML X tx n rf t := by
  intro K S p q0 ql rj ⟨hq0, hq3⟩ hlast ht0 h61
  obtain ⟨⟨r1, r2, r3, r4⟩, ps, ⟨r5, r6, r7, r8, r9⟩, r10, r11⟩ := id rj
  have q0lt := hq0.2.1
  have q086 := hq0.1
  by_cases hv : ¬ (p < n ∧ isV (tx p))
  · exact Or.inl (pml_no (by omega) rj h61 (fun hp => Or.inl (fun q => hv ⟨hp, q⟩)))
  obtain ⟨hp, hV⟩ : p < n ∧ isV (tx p) := Classical.byContradiction (fun h => hv h)
  have v1 := hV.1
  have v2 := hV.2
  have pk := rj.pk hp
  obtain ⟨T, hT⟩ : ∃ T : cp_S, T = pshS (gvS (popS S 0) t (nI (tx p - 97))) 0 209 (nI (t + 1)) 0 := ⟨_, rfl⟩
  have psT : PS T [(209, nI (t + 1), 0)] rf rf := by rw [hT]; exact PS.push (gv_ps (PS.pop ps))
  have rdT : ∀ o Sx, RD X n o Sx (p + 1) T → RD X n o Sx p S := fun o Sx w => rp_next ps (by simp) hp r5 (r10 p hp).2.2 (by omega) hV (by rw [hT] at w; exact w)
  have tk : ∀ k, k ≠ 29 → k ≠ 34 → T.1 k = S.1 k := fun k k1 k2 => by rw [hT, psh_1 k1, gv_1 k2, pop_1 k1]
  have t34 : T.1 34 = nI (t + 1) := by rw [hT, psh_1 (by decide)]; exact gv_34
  have t2 : ∀ q, (q < 49 ∨ 51 < q) → q ≠ 71 → T.2 q = S.2 q := fun q q1 q2 => by rw [hT, psh_2 q1, gv_2 q2, pop_2]
  have t71 : ∀ x, T.2 71 x = if x = t then nI (tx p - 97) else S.2 71 x := fun x => by rw [hT, psh_2 (by omega), gv_71, pop_2]
  have fT : RFG S T := ⟨tk, t2⟩
  have k1 : KRX K.1.1 K.1.1 K (qlf K 5 (qpk K)) := KRX_leaf r4 (Nat.le_refl _) (Nat.le_refl _)
  have n1e : (qlf K 5 (qpk K)).1.1 = K.1.1 + 1 := ql_n
  obtain ⟨w0, w1, w2, w3⟩ := ql_new (x := 5) (y := qpk K) r4
  have wr : ∀ g, (qlf K 5 (qpk K)).2.2.1 K.1.1 g = 0 := fun g => ql_rn
  have at1 : (qlf K 5 (qpk K)).2.1 21 2 = nI (p + 1) := by rw [ql_21 r4, if_pos rfl, r1, nI_1]
  have nc1 : nd (qlf K 5 (qpk K)) K.1.1 9 := ⟨r4, by omega, ql_ts⟩
  obtain ⟨⟨nq1, nql1⟩, k02, ⟨qx, hqx, kx2⟩, n2, c3, c5, c4, c46, c21⟩ := addK (c := K.1.1) k1 hq0 hlast
  have step := fun (r : Int32) (K' : cp_K) => rv_step (K := K) (q0 := q0) (ql := ql) (most := 4) (mi := 4) (cl := 61) (t := t) (r := r) (K' := K') rfl (by omega) (by omega) r3 r4 hq0 hlast (by rw [pk]; exact (isV_i (by omega)).mpr hV)
  obtain ⟨K1, hK1⟩ : ∃ K1 : cp_K, K1 = qlf K 5 (qpk K) := ⟨_, rfl⟩
  rw [← hK1] at k1 n1e w0 w1 w2 w3 wr at1 nc1 nq1 nql1 k02 kx2 n2 c3 c5 c4 c46 c21 step hqx
  obtain ⟨K2, hK2⟩ : ∃ K2 : cp_K, K2 = nadd K1 q0 K.1.1 := ⟨_, rfl⟩
  rw [← hK2] at k02 kx2 n2 c3 c5 c4 c46 c21 step
  have at2 : K2.2.1 21 2 = nI (p + 1) := by rw [c21]; exact at1
  have piT : PLI T rf rf (p + 1) := r11.eq (fun x hx => by omega) (by omega)
  have rj2 : RJ tx n rf K2 T [(209, nI (t + 1), 0)] (p + 1) rf := rj.mvz k02 (t2 27 (by omega) (by decide)) psT at2 (by omega) ⟨by omega, by omega⟩ piT (by omega)
  have i2 : K2.2.1 K.1.1 1 = nI (97 + (tx p - 97)) := by rw [kx2.2.2.2.1 K.1.1 (by omega) (by omega) 1 (Or.inl (by omega)), w1, pk]; congr 1; omega
  have nx2 : K2.2.2.1 K.1.1 6 = 0 := by rw [kx2.2.2.2.2.2.1 K.1.1 (by omega) 6 (Or.inl (by omega)) (Or.inl (by omega))]; exact wr 6
  have nc2 : nd K2 K.1.1 9 := kx2.nd nc1
  have c32 : K2.2.1 q0 3 = nI (t + 1) := by rw [c3, hq3, nI_1]
  have e4 : (t = 0 → K2.2.2.1 q0 4 = K.1.1) ∧ (0 < t → K2.2.2.1 q0 4 = K.2.2.1 q0 4 ∧ K2.2.2.1 ql 6 = K.1.1) := ⟨fun h => c4 (ht0.mp h), fun h => c46 (fun q => by have := ht0.mpr q; omega)⟩
  have hql : 0 < t → ql < K.1.1 ∧ ql ≠ q0 := fun h => by
    rcases hlast with ⟨h1, -⟩ | ⟨-, h3, h4⟩
    · have := ht0.mpr h1; omega
    · exact ⟨h4.2.1, h3⟩
  by_cases hcl : p + 1 < n ∧ tx (p + 1) = 61
  · obtain ⟨hp1, h61'⟩ := hcl
    have q61 : qpk K2 = 61 := by rw [rj2.pk hp1, h61']; rfl
    obtain ⟨K3, hK3⟩ : ∃ K3 : cp_K, K3 = kI K2 21 2 (nI (p + 2)) := ⟨_, rfl⟩
    have hq : qtk K2 61 = K3 := by rw [qtk_eq (p := 0) q61, at2, nI_1, hK3]
    have k23 : ∀ x y, KRX x y K2 K3 := fun x y => by rw [hK3]; exact KRX_at
    have n3 : K3.1.1 = K2.1.1 := by rw [hK3]; rfl
    have r3e : ∀ x g, K3.2.2.1 x g = K2.2.2.1 x g := fun x g => by rw [hK3]; rfl
    have i3e : ∀ x g, x ≠ 21 → K3.2.1 x g = K2.2.1 x g := fun x g hx => by rw [hK3, kI_i, cp_up_ne hx]
    obtain ⟨U, hU⟩ : ∃ U : cp_S, U = pshS (popS T 0) 0 210 1 0 := ⟨_, rfl⟩
    have psU : PS U ([] ++ (210, nI 1, 0) :: []) rf rf := by rw [hU]; exact PS.push (PS.pop psT)
    have uk : ∀ k, k ≠ 29 → U.1 k = T.1 k := fun k hk => by rw [hU, psh_1 hk, pop_1 hk]
    have u2 : ∀ q, (q < 49 ∨ 51 < q) → U.2 q = T.2 q := fun q hq => by rw [hU, psh_2 hq, pop_2]
    refine Or.inr ⟨K3, U, p + 2, [tx p - 97], step 1 K3 (fun q => absurd q61 q) (fun _ => ⟨rfl, hq.symm⟩), fun r Sx w => rdT _ _ (rp_eq (t := t + 1) psT (by simp) hp1 r5 (by rw [(rj2.2.2.2.1 _ hp1).2.2, h61']) (by omega) (by omega) (by rw [hU] at w; exact w)), rj2.mvz (k23 0 0) (u2 27 (by omega)) psU (by rw [hK3, kI_i, va_up_at, va_up_at]) (by omega) ⟨by omega, by omega⟩ (piT.eq (fun x hx => by omega) (by omega)) (by omega), ?_, by rw [n3]; simp; omega, ⟨by simp, by simp; omega, by rw [i3e _ _ (by omega)]; exact c32, by rw [uk 34 (by decide)]; exact t34⟩, ⟨fun x hx => ?_, fun x hx => by rw [u2 71 (by omega), t71, if_neg (by omega)]⟩, ⟨fun h => by rw [r3e]; exact e4.1 h, fun h => by rw [r3e, r3e]; exact e4.2 h⟩, by rw [r3e, c5]; simp, k02.trans (k23 q0 ql) (Or.inl rfl) (Or.inl rfl), fT.trans ⟨fun k k1 _ => uk k k1, fun q q1 _ => u2 q q1⟩, by simp⟩
    · intro y hy
      have : y = 0 := by simp at hy; omega
      subst this
      refine ⟨(k23 0 0).nd nc2, ?_, ?_, ?_⟩
      · show tx p - 97 < 26; omega
      · show K3.2.1 (K.1.1 + 0) 1 = nI (97 + (tx p - 97)); rw [Nat.add_zero, i3e _ _ (by omega)]; exact i2
      · show K3.2.2.1 (K.1.1 + 0) 6 = _; rw [Nat.add_zero, r3e, nx2]; rfl
    · have : x = 0 := by simp at hx; omega
      subst this
      show U.2 71 (t + 0) = nI (tx p - 97)
      rw [Nat.add_zero, u2 71 (by omega), t71, if_pos rfl]
  · have n61 : ¬ qpk K2 = 61 := fun q => by
      by_cases hp1 : p + 1 < n
      · rw [rj2.pk hp1] at q
        have := (r10 (p + 1) hp1).1
        exact hcl ⟨hp1, (nI_ch (a := 61) (by omega) (by omega)).mp q⟩
      · have e : p + 1 = n := by omega
        rw [e] at rj2
        rw [rj2.pk0] at q; exact absurd q (by decide)
    rcases ih K2 T (p + 1) q0 K.1.1 rj2 ⟨kx2.nd nq1, c32⟩ (Or.inr ⟨c5, by omega, nc2⟩) ⟨fun h => absurd h (by omega), fun h => by rw [c5] at h; omega⟩ (fun _ hp1 q => hcl ⟨hp1, q⟩) with ⟨K', S', p', g1, g2, g3, g4, g5, g6, g7⟩ | ⟨K', S', p', vs, g1, g2, g3, g4, g5, ⟨g6, g7, g8, g9⟩, ⟨g9a, g9b⟩, ⟨-, g10⟩, g14, g11, g12, g13⟩
    · exact Or.inl ⟨K', S', p', step 0 K' (fun _ => g1) (fun q => absurd q n61), g2, ⟨by omega, g3.2⟩, rdT _ _ g4, k02.trans g5 (Or.inl rfl) (Or.inr (Nat.le_refl _)), fT.trans g6, by omega⟩
    · obtain ⟨g10a, g10b⟩ := g10 (by omega)
      refine Or.inr ⟨K', S', p', (tx p - 97) :: vs, step 1 K' (fun _ => g1) (fun q => absurd q n61), fun r Sx w => rdT _ _ (g2 r Sx w), g3, ?_, by rw [List.length_cons]; omega, ⟨by simp, by simp; omega, by rw [g8, List.length_cons]; congr 1; omega, by rw [g9, List.length_cons]; congr 1; omega⟩, ⟨fun x hx => ?_, fun x hx => by rw [g9b x (by omega), t71, if_neg (by omega)]⟩, ⟨fun h => by rw [g10a]; exact e4.1 h, fun h => ⟨by rw [g10a]; exact (e4.2 h).1, ?_⟩⟩, by rw [g14, List.length_cons]; omega, k02.trans g11 (Or.inl rfl) (Or.inr (Nat.le_refl _)), fT.trans g12, by rw [List.length_cons]; omega⟩
      · intro y hy
        cases y with
        | zero =>
          refine ⟨g11.nd nc2, ?_, ?_, ?_⟩
          · show tx p - 97 < 26; omega
          · show K'.2.1 (K.1.1 + 0) 1 = nI (97 + (tx p - 97)); rw [Nat.add_zero, g11.2.2.2.1 _ (by omega) (by omega) 1 (Or.inl (by omega))]; exact i2
          · show K'.2.2.1 (K.1.1 + 0) 6 = _
            rw [Nat.add_zero, g10b, List.length_cons, if_neg (by omega)]; omega
        | succ y =>
          have hy' : y < vs.length := by rw [List.length_cons] at hy; omega
          obtain ⟨u1, u2, u3, u6⟩ := g4 y hy'
          rw [show K2.1.1 + y = K.1.1 + (y + 1) by omega] at u1 u3 u6
          refine ⟨u1, u2, u3, ?_⟩
          rw [u6, List.length_cons]
          by_cases e : y + 1 = vs.length
          · rw [if_pos e, if_pos (by omega)]
          · rw [if_neg e, if_neg (by omega)]
      · cases x with
        | zero =>
          show S'.2 71 (t + 0) = nI (tx p - 97)
          rw [Nat.add_zero, g9b t (by omega), t71, if_pos rfl]
        | succ x =>
          have hx' : x < vs.length := by rw [List.length_cons] at hx; omega
          have := g9a x hx'
          rw [show t + 1 + x = t + (x + 1) by omega] at this
          exact this
      · have hh := hql h
        rw [g11.2.2.2.2.2.1 ql (by omega) 6 (Or.inl hh.2) (Or.inl (by omega))]
        exact (e4.2 h).2
theorem pml_0 : PML X tx n rf 0 := by
  have A4 : PML X tx n rf 4 := fun K S p q0 ql rj hq hlast ht0 h61 => Or.inl (pml_no (by omega) rj h61 (fun _ => Or.inr rfl))
  have A3 : PML X tx n rf 3 := pml_step (by omega) A4
  have A2 : PML X tx n rf 2 := pml_step (by omega) A3
  have A1 : PML X tx n rf 1 := pml_step (by omega) A2
  exact pml_step (by omega) A1
end CPPM
