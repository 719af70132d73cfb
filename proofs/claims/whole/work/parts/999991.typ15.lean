/-! ===== types: the parts of a constant, both sides ===== -/
theorem PTS.le {K : cp_K} {b : Nat → Nat → Int32} {ar : Nat → Nat} {k z : Nat} {R : (Nat → Prop) → Nat → Prop} : ∀ (rem q pt : Nat) (sc : Nat → Prop) (m d : Nat), PTS K b ar k z R rem q pt sc m d → m ≤ rem
  | 0, q, pt, sc, m, d, h => by have := h.2.1; omega
  | rem + 1, q, pt, sc, m, d, h => by
    obtain ⟨h1, d1, d2, h2, ⟨h3, h4⟩ | ⟨m', nm, h3, h4, h5⟩⟩ := h
    · have := PTS.le rem _ _ _ _ _ h4; omega
    · have := PTS.le rem _ _ _ _ _ h5; omega
theorem VAL.join {S : cp_S} {ar : Nat → Nat} {L : Nat → Nat → Nat → Nat → Prop} {i j k : Nat} (h : VAL S ar L i j) (g : VAL S ar L j k) : VAL S ar L i k := fun x x1 x2 => by
  by_cases hx : x < j
  · exact h x x1 hx
  · exact g x (by omega) x2
section CPPT
variable {ar : Nat → Nat} {rf : Nat} {pl : Nat → Nat → Prop} {lev n n' : Nat} {K K1 : cp_K} {S S1 : cp_S} {ρ ρ1 : Nat → Nat → Prop} {nv nc nv1 nc1 : Nat} {hl hl1 : List Nat} {C C1 F F1 : Nat} {L L1 : Nat → Nat → Nat → Nat → Prop}
/-- the level's part is counted -/
theorem TPO.p66 {y : Int32} (h : TPO ar rf pl lev n n' K S ρ nv nc hl C F L K1 S1 ρ1 nv1 nc1 hl1 C1 F1 L1) : TPO ar rf pl lev n n' K S ρ nv nc hl C F L K1 (S1.1, va_up S1.2 66 (upd (S1.2 66) lev y)) ρ1 nv1 nc1 hl1 C1 F1 L1 := by
  obtain ⟨⟨⟨⟨V, hh, hA⟩, h35, h9⟩, h42, hs, hd4⟩, h2, ⟨h31, h32, h33, h34⟩, h4, h5, ⟨h61, h62, h63, h64⟩, h7, h8⟩ := h
  have e : ∀ p, p ≠ 66 → va_up S1.2 66 (upd (S1.2 66) lev y) p = S1.2 p := fun p hp => cp_up_ne hp
  refine ⟨⟨⟨⟨V.ga hh (fun p p1 p2 => e p (by omega)), hh, hA⟩, h35, h9⟩, h42, ⟨fun p x v r w => ?_, hs.2⟩, hd4⟩, h2, ⟨h31, h32, h33, fun w => ?_⟩, h4, h5, ⟨h61, fun p hp => ?_, fun x hx => ?_, fun p p1 p2 x hx => ?_⟩, h7, h8⟩
  · obtain ⟨z1, z2, z3, z4, z5, z6, z7, z8⟩ := hs.1 p x v r w
    exact ⟨z1, z2, z3, z4, z5, z6, z7, (congrFun (e 43 (by decide)) _).trans z8⟩
  · obtain ⟨a1, a2, a3, a4, a5, a6, a7⟩ := h34 w
    exact ⟨a1, a2, a3, a4, fun p p1 p2 r hr => (congrFun (e p (by omega)) r).trans (a5 p p1 p2 r hr), fun t ht => (congrFun (e 56 (by decide)) t).trans (a6 t ht), (e 43 (by decide)).trans a7⟩
  · exact (e p (by omega)).trans (h62 p hp)
  · exact (congrFun (e 63 (by decide)) x).trans (h63 x hx)
  · show va_up S1.2 66 (upd (S1.2 66) lev y) p x = _
    by_cases hp : p = 66
    · subst hp
      rw [va_up_at, pk_un (by omega)]
      exact h64 66 p1 p2 x hx
    · rw [e p hp]; exact h64 p p1 p2 x hx
end CPPT
def PAR (ar : Nat → Nat) (rf : Nat) (pl : Nat → Nat → Prop) (nE Em Ht Sl : Nat) (gI gS gH : Nat → Nat) (kd kh p1 p2 z frame c i0 sp np j lev lev1 : Nat) (rem : Nat) : Prop := ∀ (q t : Nat) (sc : Nat → Prop) (mrem d p4 a w e u sl : Nat) (K : cp_K) (S : cp_S) (ρ : Nat → Nat → Prop) (nv nc : Nat) (hl : List Nat) (C F : Nat) (L : Nat → Nat → Nat → Nat → Prop), TST ar rf pl nE (frame + w) K S ρ nv nc hl C F L → (nd K p1 9 ∧ nd K p2 10 ∧ nd K (K.2.2.1 p2 4) 9 ∧ K.2.2.1 (K.2.2.1 p2 4) 5 = z) → PTS K S.2 ar kd z (RES K S.2 ar kd c z) rem q (sp + t) sc mrem d → LVL S lev c i0 sp t a → S.2 34 c = nI np → t + rem = np → CHN (TR K S.2 pl kh) K mrem p4 a j → FRM K frame S lev sc ρ → w + mrem ≤ 6 → (∀ p x v r, L p x v r → x < a) → GW S.2 gI gS gH → (e ≤ C ∧ e ≤ Em ∧ e + sl + (gS j - gS a) ≤ Sl ∧ hl.length + (gH j - gH a) ≤ Ht) → (((∀ c, ¬ sc c) ∧ mrem = 0) ∨ rem - mrem ≤ sl) → (nv + 100 * (Em - e) ≤ u ∧ nc + 100 * (Em - e) ≤ u ∧ u + d + 100 * (gI j - gI a) + (kh + 3) * (j - a) ≤ 5690 ∧ (¬ mrem = 0 → u + d + 100 * (gI j - gI a) + (kh + 3) * (j - a) ≤ 5590)) → (S.1 58 = 0 ∨ ∀ x, t ≤ x → x < np → ¬ S.2 44 (sp + x) = 2) → d ≤ 100 → j - a ≤ 100 → rsz K 7 + 6500 * (j - a) + 900 * rem + 9 * d + 12 < 1040000 →
      (∃ (K' : cp_K) (S' : cp_S), JC (335 + 3 * kh + 8) m_T_typeOfConstant (fun _ => .inl (some (.int (-1)))) K' 59 (LT p1 p2 frame p4 q) (fun _ => []) K ∧ (∀ start, RG start lev c (some (.int (-1))) S' S) ∧ BDQ K S K' S') ∨
      ∃ (K' : cp_K) (S' : cp_S) (ρ' : Nat → Nat → Prop) (nv' nc' : Nat) (hl' : List Nat) (C' F' : Nat) (L' : Nat → Nat → Nat → Nat → Prop) (x v e' : Nat) (ts : Int32), JC (335 + 3 * kh + 8) m_T_typeOfConstant (fun _ => .inl (some (.int (nI x)))) K' 59 (LT p1 p2 frame p4 q) (fun _ => []) K ∧ (∀ start o Sx, JJ 7 m_M_typeOf o Sx 138 [(1, .int start), (2, .int (nI lev1)), (3, .int ts), (4, .int (-1))] S' → RG start lev c o Sx S) ∧ ¬ ts = -1 ∧ TYR K' ρ' x ts ∧ x < rsz K' 7 ∧ TPO ar rf pl lev frame frame K S ρ nv nc hl C F L K' S' ρ' nv' nc' hl' C' F' L' ∧ (K'.2.1 24 7 = nI v ∧ v < 2 ^ 31 ∧ SEPv (rat K' 7) (rsz K' 7) hl' v ∧ rat K' 7 v = 6 ∧ rat K' 7 (v + 1) = K.2.1 p1 1 ∧ rat K' 7 (v + 2) = nI (w + mrem) ∧ (∀ x, x < w → rat K' 7 (v + 3 + x) = rat K 17 (frame + x)) ∧ CTL (CTX K' hl' nE L' kh) K' (rat K' 7) mrem p4 (v + 3 + w) ∧ VAL S' ar L' a j) ∧ (F' = hl'.length + C' ∧ hl'.length ≤ hl.length + (gH j - gH a) ∧ (∀ p x v r, L' p x v r → L p x v r ∨ (a ≤ x ∧ x < j)) ∧ rsz K' 7 ≤ rsz K 7 + 6500 * (j - a) + 900 * rem + 9 * d + 12) ∧ (((∀ c, ¬ sc c) ∧ mrem = 0 → e' = e ∧ hl' = hl) ∧ e' ≤ C' ∧ e' ≤ Em ∧ e ≤ e' ∧ e' ≤ e + sl + (gS j - gS a) ∧ nv' + 100 * (Em - e') ≤ u + d + 100 * (gI j - gI a) + (kh + 3) * (j - a) ∧ nc' + 100 * (Em - e') ≤ u + d + 100 * (gI j - gI a) + (kh + 3) * (j - a)) ∧ (nv ≤ nv' ∧ nc ≤ nc') ∧ ∀ p, 68 ≤ p → p ≤ 70 → S'.2 p lev = S.2 p lev
section CPPS
variable {ar : Nat → Nat} {rf : Nat} {pl : Nat → Nat → Prop} {nE Em Ht Sl : Nat} {gI gS gH : Nat → Nat}
theorem par_0 {kd kh p1 p2 z frame c i0 sp np j lev lev1 : Nat} (ih : CON ar rf pl nE Em Ht Sl gI gS gH kh) (hEm : ∀ x, x ≤ Ht → x ≤ Sl → x ≤ Em) (hHt : Ht ≤ 100) (hpl : pl p1 i0) (hnp : np ≤ 6) (hspn : sp + np < 180) (hfr : frame + 6 + 7 * kh ≤ 9000) (hj : j < 2720) (hlv : lev + kh + 1 ≤ 10) (hlev : lev = lev1 + 1) (hk : kd ≤ 40) (hnE : nE ≤ frame) : PAR ar rf pl nE Em Ht Sl gI gS gH kd kh p1 p2 z frame c i0 sp np j lev lev1 0 := by
    intro q t sc mrem d p4 a w e u sl K S ρ nv nc hl C F L st ⟨n1, n2, n3, hz⟩ pts lv h34 htn ch fr hw hLa gw hE hcl hu h58 hd hja h7
    obtain ⟨rfl, rfl, hr⟩ := pts
    obtain ⟨rfl, rfl⟩ := ch
    have : t = np := by omega
    subst this
    have hF := st.2.1
    obtain ⟨K', S', ρ', nv', nc', x, v, ts, a1, a2, a3, a4, a5, a6, ⟨a7, a8, a9, a10, a11, a12, a13⟩, ⟨a14, a15, a16, a17, a18⟩, a19⟩ := end_m (D := 335 + 3 * kh) (p4 := 0) (m := w) st lv hlev h34 hnp n1 n2 n3 hz hr fr rfl (by omega) (by omega) hnE hk (by omega) (by omega) (by omega) (by omega) (by omega)
    refine Or.inr ⟨K', S', ρ', nv', nc', hl, C, F, L, x, v, e, ts, a1, a2, a3, a4, a5, a6, ⟨a7, a8, a9, a10, a11, a12, a13, trivial, fun x x1 x2 => by omega⟩, ⟨hF, by omega, fun _ _ _ _ w => Or.inl w, by omega⟩, ⟨fun _ => ⟨rfl, rfl⟩, hE.1, hE.2.1, Nat.le_refl _, by omega, by omega, by omega⟩, ⟨a15, a17⟩, fun p p1 p2 => by rw [a19 p p1 p2]⟩
theorem par_s {kd kh p1 p2 z frame c i0 sp np j lev lev1 : Nat} {rem : Nat} (ihp : PAR ar rf pl nE Em Ht Sl gI gS gH kd kh p1 p2 z frame c i0 sp np j lev lev1 rem) (ih : CON ar rf pl nE Em Ht Sl gI gS gH kh) (hEm : ∀ x, x ≤ Ht → x ≤ Sl → x ≤ Em) (hHt : Ht ≤ 100) (hpl : pl p1 i0) (hnp : np ≤ 6) (hspn : sp + np < 180) (hfr : frame + 6 + 7 * kh ≤ 9000) (hj : j < 2720) (hlv : lev + kh + 1 ≤ 10) (hlev : lev = lev1 + 1) (hk : kd ≤ 40) (hnE : nE ≤ frame) : PAR ar rf pl nE Em Ht Sl gI gS gH kd kh p1 p2 z frame c i0 sp np j lev lev1 (rem + 1) := by
    intro q t sc mrem d p4 a w e u sl K S ρ nv nc hl C F L st ⟨n1, n2, n3, hz⟩ pts lv h34 htn ch fr hw hLa gw hE hcl hu h58 hd hja h7
    have hle := PTS.le _ _ _ _ _ _ pts
    obtain ⟨hqz, d1, d2, rfl, pts⟩ := pts
    have hF := st.2.1
    have plf := st.2.2.2.2.1
    have hB := st.2.2.2.2.2.1
    have lv0 := lv
    obtain ⟨l1, l2, l3, l4, l5, l6, l7, l8, l9, l10, l11⟩ := lv0
    have hCl := st.1.1.1.1.2.2.2.1
    rcases pts with ⟨hc, pts⟩ | ⟨m', nm, rfl, hp, pts⟩
    · -- a condition
      have haj : a ≤ j := SHL_le (fun _ _ => SH_lt _ _ _) mrem a j (CHN_SHL (TR.sh kh) mrem _ _ _ ch) |> fun h => by omega
      have gm := gw.1 a j haj
      have h44 := hc.2.2.1
      have hle2 := PTS.le _ _ _ _ _ _ pts
      have h58' : S.1 58 = 0 := h58.resolve_right (fun h => h t (Nat.le_refl _) (by omega) h44)
      obtain ⟨ok, K1, S1, ρ1, nv1, nc1, C1, F1, e1, c1, c2, c3, c4, ⟨c5, c6, c7, c8⟩, ⟨c9, c10, c11, c12, c13, c14, c15⟩, c16, c17⟩ := condE (lv := lev) (p4 := p4) (D := 335 + 3 * kh) (e := e) (Em := Em) (Ht := Ht) (Sl := Sl) (u := u) st (by omega) (by omega) fr hc hk l11 (by omega) (by omega) (by omega) (by omega) (by omega) n1 n2 n3 (by rw [hz]; exact hqz) hE.1 hE.2.1 hEm (by omega) (by rcases hcl with h | h; exact Or.inl h.1; exact Or.inr (by omega)) hu.1 hu.2.1 h58'
      have nk1 := c4.2.2.2.2.1.nk
      have sx1 := c4.2.2.2.2.2.1
      cases ok with
      | false =>
        have plf1 := plf.mv nk1 (sx1.1 20 (by decide)) (sx1.2.1 42 (by omega))
        obtain ⟨f1, f2, f3, f4, f5⟩ := plf1.2.1 p1 i0 hpl
        refine Or.inl ⟨kI K1 24 6 (K.2.1 p1 2), (va_up S1.1 59 (K.2.1 p1 2), S1.2), c2 rfl, fun start => rg_ncond lv h34 hnp (by omega) h44 c3 (by rw [c17 65 (by omega) (by omega)]; exact l1) plf1.1 f1 f2 (by rw [← f5, nk1.1 p1 2 n1.1]), BDQ.of c4 (by omega) (by omega) (by omega) (by obtain ⟨w, w1, w2⟩ := f3.2; exact ⟨w, w1, by rw [← nk1.1 p1 2 n1.1, f5]; exact w2⟩)⟩
      | true =>
        have T1 := c4.p66 (y := nI (t + 1))
        have nk2 := nk1
        have bk1 := sx1.bk
        obtain ⟨S2, hS2⟩ : ∃ S2 : cp_S, S2 = (S1.1, va_up S1.2 66 (upd (S1.2 66) lev (nI (t + 1)))) := ⟨_, rfl⟩
        rw [← hS2] at T1
        have s2 : ∀ p, p ≠ 66 → S2.2 p = S1.2 p := fun p hp => by rw [hS2]; exact cp_up_ne hp
        have s66 : S2.2 66 lev = nI (t + 1) := by rw [hS2]; show va_up S1.2 66 (upd (S1.2 66) lev (nI (t + 1))) 66 lev = _; rw [va_up_at, pk_us]
        have bk2 := T1.2.2.2.2.2.1.bk
        have st2 := st.mv T1 (by omega) c6 (Nat.le_refl _)
        have e2 : K1.2.2.1 = K.2.2.1 := nk1.2.1
        have lv2 : LVL S2 lev c i0 sp (t + 1) a := ⟨by rw [s2 65 (by decide), c17 65 (by omega) (by omega)]; exact l1, l2, by rw [bk2 40 (by omega)]; exact l3, l4, by rw [bk2 33 (by omega)]; exact l5, s66, by rw [s2 67 (by decide), c17 67 (by omega) (by omega)]; exact l7, by omega, l9, l10, l11⟩
        have fr2 : FRM K1 frame S2 lev sc ρ1 := fr.mv (fun c v _ w => LU.same hB c4.2.2.2.2.2.2.1 c4.2.2.2.2.2.2.2 w) (fun c _ => by rw [s2 63 (by decide), c16]) c4.2.1.1
        have pts2 : PTS K1 S2.2 ar kd z (RES K1 S2.2 ar kd c z) rem (K.2.2.1 q 6) (sp + (t + 1)) sc mrem d2 := PTS.mv nk1 bk2 (fun sc d h => h.mv nk1 bk2) _ _ _ _ _ _ pts
        have ch2 : CHN (TR K1 S2.2 pl kh) K1 mrem p4 a j := CHN_nk nk1 (TR.nk nk1 (bk2 39 (by omega)) (bk2 40 (by omega)) (bk2 41 (by omega)) kh) _ _ _ _ ch
        have nq : nd K1 q 9 := nk1.2.2 _ _ hc.1
        have into : ∀ (o : cp_G → cp_O) (Kx : cp_K), JC (335 + 3 * kh + 8) m_T_typeOfConstant o Kx 59 (LT p1 p2 frame p4 (K.2.2.1 q 6)) (fun _ => []) K1 → JC (335 + 3 * kh + 8) m_T_typeOfConstant o Kx 59 (LT p1 p2 frame p4 q) (fun _ => []) K := fun o Kx w => c1 rfl o Kx (b_T_typeOfConstant_176 ⟨nq, by rw [e2]; exact w⟩)
        have rgc : ∀ start o Sx, RG start lev c o Sx S2 → RG start lev c o Sx S := fun start o Sx w => rg_cond lv h34 hnp (by omega) h44 c3 (by rw [c17 66 (by omega) (by omega)]; exact l6) (by rw [← hS2]; exact w)
        have hslt : (∀ c, ¬ sc c) ∧ mrem = 0 ∨ (sl ≥ 1 ∧ rem - mrem ≤ sl - 1) := by
          rcases hcl with h | h
          · exact Or.inl h
          · exact Or.inr ⟨by omega, by omega⟩
        have ihx := fun sl' hsl1 hsl2 => ihp (K.2.2.1 q 6) (t + 1) sc mrem d2 p4 a w e1 (u + d1) sl' K1 S2 ρ1 nv1 nc1 hl C1 F1 L st2 ⟨nk1.2.2 _ _ n1, nk1.2.2 _ _ n2, by rw [e2]; exact nk1.2.2 _ _ n3, by rw [e2]; exact hz⟩ pts2 lv2 (by rw [bk2 34 (by omega)]; exact h34) (by omega) ch2 fr2 hw hLa (gw.mv bk2) ⟨c9, c10, hsl1, hE.2.2.2⟩ hsl2 ⟨c14, c15, by omega, fun h => by have := hu.2.2.2 h; omega⟩ (Or.inl (by rw [T1.2.2.2.2.2.1.1 58 (by decide)]; exact h58')) (by omega) hja (by omega)
        obtain ⟨sl', hs1, hs2, hs3⟩ : ∃ sl', e1 + sl' ≤ e + sl ∧ (((∀ c, ¬ sc c) ∧ mrem = 0) ∨ rem - mrem ≤ sl') ∧ True := by
          rcases hslt with h | h
          · exact ⟨sl, by have := c13 h.1; omega, Or.inl h, trivial⟩
          · exact ⟨sl - 1, by omega, Or.inr h.2, trivial⟩
        rcases ihx sl' (by omega) hs2 with ⟨K', S', g1, g2, g3⟩ | ⟨K', S', ρ', nv', nc', hl', C', F', L', x, v, e', ts, g1, g2, g3, g4, g5, g6, ⟨g7, g8, g9, g10, g11, g12, g13, g14, g15⟩, ⟨g16, g17, g18, g19⟩, ⟨g20, g21, g22, g23, g24, g25, g26⟩, ⟨g27, g28⟩, g29⟩
        · exact Or.inl ⟨K', S', into _ _ g1, fun start => rgc start _ _ (g2 start), BDQ.pre T1 (by omega) g3⟩
        · refine Or.inr ⟨K', S', ρ', nv', nc', hl', C', F', L', x, v, e', ts, into _ _ g1, fun start o Sx w => rgc start _ _ (g2 start o Sx w), g3, g4, g5, (T1.wk (Nat.le_refl _) (by omega)).trans g6 (Nat.le_refl _) (Nat.le_refl _) (fun _ => ⟨c7, c8⟩), ⟨g7, g8, g9, g10, by rw [g11, nk1.1 p1 1 n1.1], g12, fun x hx => by rw [g13 x hx]; exact c4.2.2.2.2.2.2.2 17 (by decide) _ (by omega), g14, g15⟩, ⟨g16, g17, g18, by omega⟩, ⟨fun h => ?_, g21, g22, by omega, by omega, by omega, by omega⟩, ⟨by omega, by omega⟩, fun p p1 p2 => by rw [g29 p p1 p2, s2 p (by omega), c17 p (by omega) p2]⟩
          obtain ⟨w1, w2⟩ := g20 h
          exact ⟨by rw [w1, c13 h.1], w2⟩
    · -- a parameter
      obtain ⟨nch, a', ht, ch⟩ := ch
      have lt1 := SH_lt _ _ _ (TR.sh _ _ _ _ ht)
      have haj : a' ≤ j := SHL_le (fun _ _ => SH_lt _ _ _) m' a' j (CHN_SHL (TR.sh kh) m' _ _ _ ch) |> fun h => by omega
      have gm1 := gw.1 a a' (by omega)
      have gm2 := gw.1 a' j haj
      have mm : (kh + 3) * (j - a) = (kh + 3) * (a' - a) + (kh + 3) * (j - a') := by rw [← Nat.mul_add]; congr 1; omega
      have mlo : 3 * (a' - a) ≤ (kh + 3) * (a' - a) := Nat.mul_le_mul_right _ (by omega)
      have hP15 : ¬ K.2.1 q 0 = 15 := by rw [hp.2.1]; decide
      have hu2 := hu.2.2.2 (by omega)
      have hcl' : rem - m' ≤ sl := by
        rcases hcl with h | h
        · exact absurd h.2 (by omega)
        · omega
      have step : ∀ (K1 : cp_K) (S1 : cp_S) (ρ1 : Nat → Nat → Prop) (nv1 nc1 : Nat) (hl1 : List Nat) (C1 F1 : Nat) (L1 : Nat → Nat → Nat → Nat → Prop) (va e1 : Nat), KC (342 + 3 * kh) m_T_takeArgument (fun G => [.ref (cp_b G + 24), va_rf (kr G q), va_rf (kr G p4), .int (nI frame)]) K (fun _ => some (.int 1)) K1 → (∀ start o Sx, RG start lev c o Sx S1 → RG start lev c o Sx S) → TPO ar rf pl lev (frame + w) (frame + w + 1) K S ρ nv nc hl C F L K1 S1 ρ1 nv1 nc1 hl1 C1 F1 L1 → FRM K1 frame S1 lev (fun c => sc c ∨ nm = some c) ρ1 → LVL S1 lev c i0 sp (t + 1) a' → (CTX K1 hl1 nE L1 kh p4 va ∧ va < 2 ^ 31 ∧ VAL S1 ar L1 a a' ∧ rat K1 17 (frame + w) = nI va) → (F1 = hl1.length + C1 ∧ hl1.length ≤ hl.length + (gH a' - gH a) ∧ (∀ p x v r, L1 p x v r → L p x v r ∨ (a ≤ x ∧ x < a')) ∧ rsz K1 7 ≤ rsz K 7 + 6500 * (a' - a) + 9 * d1) → (e1 ≤ C1 ∧ e1 ≤ Em ∧ e ≤ e1 ∧ e1 ≤ e + (gS a' - gS a) ∧ nv1 + 100 * (Em - e1) ≤ u + d1 + 100 * (gI a' - gI a) + (kh + 3) * (a' - a) ∧ nc1 + 100 * (Em - e1) ≤ u + d1 + 100 * (gI a' - gI a) + (kh + 3) * (a' - a)) → (nv ≤ nv1 ∧ nc ≤ nc1) → (∀ p, 68 ≤ p → p ≤ 70 → S1.2 p lev = S.2 p lev) →
          (∃ (K' : cp_K) (S' : cp_S), JC (335 + 3 * kh + 8) m_T_typeOfConstant (fun _ => .inl (some (.int (-1)))) K' 59 (LT p1 p2 frame p4 q) (fun _ => []) K ∧ (∀ start, RG start lev c (some (.int (-1))) S' S) ∧ BDQ K S K' S') ∨
          ∃ (K' : cp_K) (S' : cp_S) (ρ' : Nat → Nat → Prop) (nv' nc' : Nat) (hl' : List Nat) (C' F' : Nat) (L' : Nat → Nat → Nat → Nat → Prop) (x v e' : Nat) (ts : Int32), JC (335 + 3 * kh + 8) m_T_typeOfConstant (fun _ => .inl (some (.int (nI x)))) K' 59 (LT p1 p2 frame p4 q) (fun _ => []) K ∧ (∀ start o Sx, JJ 7 m_M_typeOf o Sx 138 [(1, .int start), (2, .int (nI lev1)), (3, .int ts), (4, .int (-1))] S' → RG start lev c o Sx S) ∧ ¬ ts = -1 ∧ TYR K' ρ' x ts ∧ x < rsz K' 7 ∧ TPO ar rf pl lev frame frame K S ρ nv nc hl C F L K' S' ρ' nv' nc' hl' C' F' L' ∧ (K'.2.1 24 7 = nI v ∧ v < 2 ^ 31 ∧ SEPv (rat K' 7) (rsz K' 7) hl' v ∧ rat K' 7 v = 6 ∧ rat K' 7 (v + 1) = K.2.1 p1 1 ∧ rat K' 7 (v + 2) = nI (w + (m' + 1)) ∧ (∀ x, x < w → rat K' 7 (v + 3 + x) = rat K 17 (frame + x)) ∧ CTL (CTX K' hl' nE L' kh) K' (rat K' 7) (m' + 1) p4 (v + 3 + w) ∧ VAL S' ar L' a j) ∧ (F' = hl'.length + C' ∧ hl'.length ≤ hl.length + (gH j - gH a) ∧ (∀ p x v r, L' p x v r → L p x v r ∨ (a ≤ x ∧ x < j)) ∧ rsz K' 7 ≤ rsz K 7 + 6500 * (j - a) + 900 * (rem + 1) + 9 * (d1 + d2) + 12) ∧ (((∀ c, ¬ sc c) ∧ m' + 1 = 0 → e' = e ∧ hl' = hl) ∧ e' ≤ C' ∧ e' ≤ Em ∧ e ≤ e' ∧ e' ≤ e + sl + (gS j - gS a) ∧ nv' + 100 * (Em - e') ≤ u + (d1 + d2) + 100 * (gI j - gI a) + (kh + 3) * (j - a) ∧ nc' + 100 * (Em - e') ≤ u + (d1 + d2) + 100 * (gI j - gI a) + (kh + 3) * (j - a)) ∧ (nv ≤ nv' ∧ nc ≤ nc') ∧ ∀ p, 68 ≤ p → p ≤ 70 → S'.2 p lev = S.2 p lev := by
        intro K1 S1 ρ1 nv1 nc1 hl1 C1 F1 L1 va e1 kc rgc T1 fr1 lv1 ⟨ct, hva, hVa, r17⟩ ⟨b1, b2, b3, b4⟩ ⟨b5, b6, b7, b8, b9, b10⟩ hvv h68
        have nk1 := T1.2.2.2.2.1.nk
        have bk1 := T1.2.2.2.2.2.1.bk
        have e2 : K1.2.2.1 = K.2.2.1 := nk1.2.1
        have st1 := st.mv T1 (by omega) b1 (by omega)
        have into : ∀ (o : cp_G → cp_O) (Kx : cp_K), JC (335 + 3 * kh + 8) m_T_typeOfConstant o Kx 59 (LT p1 p2 frame (K.2.2.1 p4 6) (K.2.2.1 q 6)) (fun _ => []) K1 → JC (335 + 3 * kh + 8) m_T_typeOfConstant o Kx 59 (LT p1 p2 frame p4 q) (fun _ => []) K := fun o Kx wj => b_T_typeOfConstant_59 ⟨fun h0 => absurd h0 (by have := hp.1.1; omega), fun _ => ⟨n2, n3, fun hq => absurd (hq.trans hz) hqz, fun _ => ⟨hp.1, fun _ => ⟨fun h0 => absurd h0 (by have := nch.1; omega), fun _ => ⟨1, K1, kc.mono (by omega), fun h => absurd h (by decide), fun _ => ⟨nk1.2.2 _ _ nch, b_T_typeOfConstant_176 ⟨nk1.2.2 _ _ hp.1, by rw [e2]; exact wj⟩⟩⟩⟩, fun h15 => absurd h15 hP15⟩⟩⟩
        have ht1 : TR K1 S1.2 pl kh p4 a a' := TR.nk nk1 (bk1 39 (by omega)) (bk1 40 (by omega)) (bk1 41 (by omega)) _ _ _ _ ht
        rcases ihp (K.2.2.1 q 6) (t + 1) (fun c => sc c ∨ nm = some c) m' d2 (K.2.2.1 p4 6) a' (w + 1) e1 (u + d1 + 100 * (gI a' - gI a) + (kh + 3) * (a' - a)) sl K1 S1 ρ1 nv1 nc1 hl1 C1 F1 L1 st1 ⟨nk1.2.2 _ _ n1, nk1.2.2 _ _ n2, by rw [e2]; exact nk1.2.2 _ _ n3, by rw [e2]; exact hz⟩ (PTS.mv nk1 bk1 (fun sc d h => h.mv nk1 bk1) _ _ _ _ _ _ pts) lv1 (by rw [bk1 34 (by omega)]; exact h34) (by omega) (CHN_nk nk1 (TR.nk nk1 (bk1 39 (by omega)) (bk1 40 (by omega)) (bk1 41 (by omega)) kh) _ _ _ _ ch) fr1 (by omega) (fun p x v r w => by rcases b3 p x v r w with h | h; have := hLa p x v r h; omega; exact h.2) (gw.mv bk1) ⟨b5, b6, by omega, by omega⟩ (Or.inr hcl') ⟨b9, b10, by omega, fun _ => by omega⟩ (h58.imp (fun h => by rw [T1.2.2.2.2.2.1.1 58 (by decide)]; exact h) (fun h x x1 x2 => by rw [bk1 44 (by omega)]; exact h x (by omega) x2)) (by omega) (by omega) (by omega) with ⟨K', S', g1, g2, g3⟩ | ⟨K', S', ρ', nv', nc', hl', C', F', L', x, v, e', ts, g1, g2, g3, g4, g5, g6, ⟨g7, g8, g9, g10, g11, g12, g13, g14, g15⟩, ⟨g16, g17, g18, g19⟩, ⟨g20, g21, g22, g23, g24, g25, g26⟩, ⟨g27, g28⟩, g29⟩
        · exact Or.inl ⟨K', S', into _ _ g1, fun start => rgc start _ _ (g2 start), BDQ.pre T1 (by omega) g3⟩
        · have nk' := g6.2.2.2.2.1.nk
          refine Or.inr ⟨K', S', ρ', nv', nc', hl', C', F', L', x, v, e', ts, into _ _ g1, fun start o Sx w => rgc start _ _ (g2 start o Sx w), g3, g4, g5, (T1.wk (Nat.le_refl _) (by omega)).trans g6 (Nat.le_refl _) (Nat.le_refl _) (fun _ => hvv), ⟨g7, g8, g9, g10, by rw [g11, nk1.1 p1 1 n1.1], by rw [g12]; congr 1; omega, fun x hx => by rw [g13 x (by omega)]; exact T1.2.2.2.2.2.2.2 17 (by decide) _ (by omega), ⟨va, hva, by rw [g13 w (by omega)]; exact r17, ct.mv ht1 (by omega) g6, by rw [nk'.2.1, e2]; exact g14⟩, (hVa.mv g6.2.2.2.2.2.1.bk (g6.2.2.2.2.2.1.2.1 64 (by omega)) g6.2.1.2.1).join g15⟩, ⟨g16, by omega, fun p x v r w => ?_, by omega⟩, ⟨fun h => absurd h.2 (by omega), g21, g22, by omega, by omega, by omega, by omega⟩, ⟨by omega, by omega⟩, fun p p1 p2 => by rw [g29 p p1 p2, h68 p p1 p2]⟩
          rcases g18 p x v r w with h | h
          · rcases b3 p x v r h with h | h
            · exact Or.inl h
            · exact Or.inr ⟨h.1, by omega⟩
          · exact Or.inr ⟨by omega, h.2⟩
      by_cases h39 : S.2 39 a = 4
      · -- a hole
        cases kh with
        | zero => exact ht.elim
        | succ kh =>
        have hw4 : K.2.1 p4 0 = 4 ∧ a' = a + 1 := by
          rcases ht.2.2 with w | w | w | w | w
          · exact absurd (h39.symm.trans w.2.1) (by decide)
          · exact absurd (h39.symm.trans w.2.1) (by decide)
          · exact absurd (h39.symm.trans w.2.1) (by decide)
          · exact ⟨w.1, w.2.2⟩
          · exact absurd (h39.symm.trans w.2.1) (by decide)
        obtain ⟨h4, rfl⟩ := hw4
        have gh := gw.2.2 a h39
        obtain ⟨K1, S1, ρ1, nv1, nc1, b1, b2, b3, b4, b5, b6, b7, b8, b9, ⟨b10, b11, b12, b13⟩, b14⟩ := hole_m (D := 334 + 3 * (kh + 1)) st lv h34 hnp (by omega) hp ht h39 h4 fr (by omega) (by omega) hLa (by omega) (by omega) (by omega) (by omega) (by omega)
        refine step K1 S1 ρ1 nv1 nc1 (rsz K 7 :: hl) C (F + 1) _ (rsz K 7) e (b1.mono (by omega)) b2 b3 b4 b5 ⟨b6, by omega, b7, b8⟩ ⟨by rw [List.length_cons]; omega, by rw [List.length_cons]; omega, fun p x v r w => ?_, by omega⟩ ⟨hE.1, hE.2.1, Nat.le_refl _, by omega, by omega, by omega⟩ ⟨b10, b12⟩ (fun p p1 p2 => by rw [b14 p p1 p2])
        rcases w with w | w
        · exact Or.inl w
        · exact Or.inr ⟨by omega, by omega⟩
      · -- another argument
        rcases arg_m (e := e) (u := u) ih st lv h34 hnp (by omega) hp ht h39 fr (by omega) (by omega) gw ⟨by omega, by omega⟩ (by omega) (by omega) hLa ⟨hE.1, hE.2.1, by omega, by omega⟩ hEm ⟨hu.1, hu.2.1, by omega⟩ (by omega) hk (by omega) with ⟨K1, S1, b1, b2, b3⟩ | ⟨K1, S1, ρ1, nv1, nc1, hl1, C1, F1, L1, va, e1, b1, b2, b3, b4, b5, b6, b7, b8, b9, b10⟩
        · refine Or.inl ⟨K1, S1, b_T_typeOfConstant_59 ⟨fun h0 => absurd h0 (by have := hp.1.1; omega), fun _ => ⟨n2, n3, fun hq => absurd (hq.trans hz) hqz, fun _ => ⟨hp.1, fun _ => ⟨fun h0 => absurd h0 (by have := nch.1; omega), fun _ => ⟨0, K1, b1.mono (by omega), fun _ => ⟨rfl, rfl⟩, fun h => absurd rfl h⟩⟩, fun h15 => absurd h15 hP15⟩⟩⟩, b2, b3⟩
        · exact step K1 S1 ρ1 nv1 nc1 hl1 C1 F1 L1 va e1 b1 b2 b3 b4 b5 b6 b7 b8 b9 b10
theorem parts {kd kh p1 p2 z frame c i0 sp np j lev lev1 : Nat} (ih : CON ar rf pl nE Em Ht Sl gI gS gH kh) (hEm : ∀ x, x ≤ Ht → x ≤ Sl → x ≤ Em) (hHt : Ht ≤ 100) (hpl : pl p1 i0) (hnp : np ≤ 6) (hspn : sp + np < 180) (hfr : frame + 6 + 7 * kh ≤ 9000) (hj : j < 2720) (hlv : lev + kh + 1 ≤ 10) (hlev : lev = lev1 + 1) (hk : kd ≤ 40) (hnE : nE ≤ frame) : ∀ rem, PAR ar rf pl nE Em Ht Sl gI gS gH kd kh p1 p2 z frame c i0 sp np j lev lev1 rem := fun rem => by
  induction rem with
  | zero => exact par_0 ih hEm hHt hpl hnp hspn hfr hj hlv hlev hk hnE
  | succ rem ihp => exact par_s ihp ih hEm hHt hpl hnp hspn hfr hj hlv hlev hk hnE
end CPPS
