/-! ===== types: an argument on both sides ===== -/
/-- weights of the text: constants with arguments, slots, holes -/
def GW (b : Nat → Nat → Int32) (gI gS gH : Nat → Nat) : Prop := (∀ x y, x ≤ y → gI x ≤ gI y ∧ gS x ≤ gS y ∧ gH x ≤ gH y) ∧ (∀ x m, b 39 x = 5 → b 41 x = nI m → m ≤ 6 → (1 ≤ m → gI x + 1 ≤ gI (x + 1) ∧ gS x + (6 - m) ≤ gS (x + 1)) ∧ (m = 0 → gS x + 1 ≤ gS (x + 1))) ∧ ∀ x, b 39 x = 4 → gH x + 1 ≤ gH (x + 1)
theorem GW.mv {b b' : Nat → Nat → Int32} {gI gS gH : Nat → Nat} (h : GW b gI gS gH) (hb : BK b b') : GW b' gI gS gH := by
  unfold GW
  rw [hb 39 (by omega), hb 41 (by omega)]
  exact h
/-- the reference begins a constant and goes on -/
def RBG (S : cp_S) (i lev : Nat) (start : Int32) (o : Option Value) (Sx : cp_S) : Prop := ∃ r S1, MC 1 m_M_begin [.int (nI i), .int (nI lev)] S (some (.int r)) S1 ∧ (r = 0 → o = some (.int (-1)) ∧ Sx = S1) ∧ (¬ r = 0 → ∀ t0, JJ 7 m_M_typeOf o Sx 31 [(1, .int start), (2, .int (nI lev)), (3, .int t0)] S1)
/-- a constant of the text, of height k, has the same type on both sides -/
def CON (ar : Nat → Nat) (rf : Nat) (pl : Nat → Nat → Prop) (nE Em Ht Sl : Nat) (gI gS gH : Nat → Nat) (k : Nat) : Prop := ∀ (K : cp_K) (S : cp_S) (ρ : Nat → Nat → Prop) (nv nc : Nat) (hl : List Nat) (C F : Nat) (L : Nat → Nat → Nat → Nat → Prop) (n lev lev1 p i j e u : Nat), TST ar rf pl nE n K S ρ nv nc hl C F L → TR K S.2 pl k p i j → K.2.1 p 0 = 6 → GW S.2 gI gS gH → (j < 2720 ∧ j - i ≤ 100) → (lev = lev1 + 1 ∧ lev + k ≤ 10) → n + 7 * k ≤ 9000 → (∀ p x v r, L p x v r → x < i) → (e ≤ C ∧ e ≤ Em ∧ e + (gS j - gS i) ≤ Sl ∧ hl.length + (gH j - gH i) ≤ Ht) → (nv + 100 * (Em - e) ≤ u ∧ nc + 100 * (Em - e) ≤ u ∧ u + 100 * (gI j - gI i) + (k + 2) * (j - i) ≤ 5590) → rsz K 7 + 6500 * (j - i) < 1040000 →
  (∃ (K' : cp_K) (S' : cp_S), KC (340 + 3 * k) m_T_typeOfConstant (fun G => [.ref (cp_b G + 24), va_rf (kr G p)]) K (fun _ => some (.int (-1))) K' ∧ (∀ start, RBG S i lev start (some (.int (-1))) S') ∧ BDQ K S K' S') ∨
  ∃ (K' : cp_K) (S' : cp_S) (ρ' : Nat → Nat → Prop) (nv' nc' : Nat) (hl' : List Nat) (C' F' : Nat) (L' : Nat → Nat → Nat → Nat → Prop) (x v e' lf : Nat) (ts : Int32), KC (340 + 3 * k) m_T_typeOfConstant (fun G => [.ref (cp_b G + 24), va_rf (kr G p)]) K (fun _ => some (.int (nI x))) K' ∧ (∀ start o Sx, JJ 7 m_M_typeOf o Sx 138 [(1, .int start), (2, .int (nI lev1)), (3, .int ts), (4, .int (-1))] S' → RBG S i lev start o Sx) ∧ ¬ ts = -1 ∧ TYR K' ρ' x ts ∧ x < rsz K' 7 ∧ TPO ar rf pl lev n n K S ρ nv nc hl C F L K' S' ρ' nv' nc' hl' C' F' L' ∧ (K'.2.1 24 7 = nI v ∧ v < 2 ^ 31 ∧ CTX K' hl' nE L' k p v ∧ VAL S' ar L' i j) ∧ (F' = hl'.length + C' ∧ hl'.length ≤ hl.length + (gH j - gH i) ∧ (∀ p x v r, L' p x v r → L p x v r ∨ (i ≤ x ∧ x < j)) ∧ rsz K' 7 ≤ rsz K 7 + 6500 * (j - i)) ∧ (lf ≤ 1 ∧ (lf = 1 → e' = e ∧ hl' = hl ∧ S.2 41 i = nI 0) ∧ e' ≤ C' ∧ e' ≤ Em ∧ e ≤ e' ∧ e' + lf ≤ e + (gS j - gS i) ∧ nv' + 100 * (Em - e') ≤ u + 100 * (gI j - gI i) + (k + 2) * (j - i) + 100 * lf ∧ nc' + 100 * (Em - e') ≤ u + 100 * (gI j - gI i) + (k + 2) * (j - i) + 100 * lf) ∧ (nv ≤ nv' ∧ nc ≤ nc') ∧ (S'.2 68 lev = nI nv ∧ S'.2 69 lev = nI nc ∧ S'.2 70 lev = nI F)
section CPAM
variable {ar : Nat → Nat} {rf : Nat} {pl : Nat → Nat → Prop} {lev n nE Em Ht Sl : Nat} {gI gS gH : Nat → Nat} {K : cp_K} {S : cp_S} {ρ : Nat → Nat → Prop} {nv nc : Nat} {hl : List Nat} {C F : Nat} {L : Nat → Nat → Nat → Nat → Prop} {sc : Nat → Prop}
theorem rg_con {c i0 sp np t a : Nat} {start : Int32} {o : Option Value} {Sx : cp_S} (lv : LVL S lev c i0 sp t a) (h34 : S.2 34 c = nI np) (hnp : np ≤ 6) (ht : t < np) (h44 : ¬ S.2 44 (sp + t) = 2) (h395 : S.2 39 a = 5) (w : RBG S a (lev + 1) start o Sx) : RG start lev c o Sx S := by
  obtain ⟨r, S1, hb, w1, w2⟩ := w
  exact rg_letter lv h34 hnp ht h44 h395 hb ⟨w1, w2⟩
theorem jj138 {c i0 sp t a : Nat} {start ts r : Int32} {o : Option Value} {Sx S1 S2 : cp_S} (hlev : 1 ≤ lev) (hlev9 : lev ≤ 9) (hts : ¬ ts = -1) (hm : MC 4 m_M_suits [.int ts, .int (nI lev), .int 1] S1 (some (.int r)) S2) (w0 : r = 0 → o = some (.int (-1)) ∧ Sx = S2) (w1 : ¬ r = 0 → LVL S2 lev c i0 sp t a ∧ RG start lev c o Sx S2) : JJ 7 m_M_typeOf o Sx 138 [(1, .int start), (2, .int (nI lev)), (3, .int ts), (4, .int (-1))] S1 :=
  b_M_typeOf_138 ⟨fun _ => ⟨fun hl => absurd hl (nI_nle (by omega) (by omega)), fun _ => ⟨fun h0 => absurd h0 (by decide), fun _ => ⟨r, S2, hm, fun hr => b_M_typeOf_170 (rg_in (w1 hr).1 (w1 hr).2 _), fun hr => w0 hr⟩⟩⟩, fun e => absurd e hts⟩
theorem arg_m {kd kh q p4 frame c i0 sp np t a a' d e u : Nat} {nm : Option Nat} (ih : CON ar rf pl nE Em Ht Sl gI gS gH kh) (st : TST ar rf pl nE n K S ρ nv nc hl C F L) (lv : LVL S lev c i0 sp t a) (h34 : S.2 34 c = nI np) (hnp : np ≤ 6) (htn : t < np) (hp : PRM K S.2 ar kd sc q (sp + t) d nm) (ht : TR K S.2 pl kh p4 a a') (h39 : ¬ S.2 39 a = 4) (fr : FRM K frame S lev sc ρ) (hfr : frame ≤ n) (hn : n + 7 * kh ≤ 9000) (gw : GW S.2 gI gS gH) (hj : a' < 2720 ∧ a' - a ≤ 100) (hlev : lev + 1 + kh ≤ 10) (hsp : sp + t + 1 < 180) (hLa : ∀ p x v r, L p x v r → x < a) (hE : e ≤ C ∧ e ≤ Em ∧ e + (gS a' - gS a) ≤ Sl ∧ hl.length + (gH a' - gH a) ≤ Ht) (hEm : ∀ x, x ≤ Ht → x ≤ Sl → x ≤ Em) (hu : nv + 100 * (Em - e) ≤ u ∧ nc + 100 * (Em - e) ≤ u ∧ u + d + 100 * (gI a' - gI a) + (kh + 3) * (a' - a) ≤ 5590) (h7 : rsz K 7 + 6500 * (a' - a) + 9 * d < 1040000) (hk : kd ≤ 40) (hd : d ≤ 110) :
    (∃ (K' : cp_K) (S' : cp_S), KC (342 + 3 * kh) m_T_takeArgument (fun G => [.ref (cp_b G + 24), va_rf (kr G q), va_rf (kr G p4), .int (nI frame)]) K (fun _ => some (.int 0)) K' ∧ (∀ start, RG start lev c (some (.int (-1))) S' S) ∧ BDQ K S K' S') ∨
    ∃ (K' : cp_K) (S' : cp_S) (ρ' : Nat → Nat → Prop) (nv' nc' : Nat) (hl' : List Nat) (C' F' : Nat) (L' : Nat → Nat → Nat → Nat → Prop) (v e' : Nat), KC (342 + 3 * kh) m_T_takeArgument (fun G => [.ref (cp_b G + 24), va_rf (kr G q), va_rf (kr G p4), .int (nI frame)]) K (fun _ => some (.int 1)) K' ∧ (∀ start o Sx, RG start lev c o Sx S' → RG start lev c o Sx S) ∧ TPO ar rf pl lev n (n + 1) K S ρ nv nc hl C F L K' S' ρ' nv' nc' hl' C' F' L' ∧ FRM K' frame S' lev (fun c => sc c ∨ nm = some c) ρ' ∧ LVL S' lev c i0 sp (t + 1) a' ∧ (CTX K' hl' nE L' kh p4 v ∧ v < 2 ^ 31 ∧ VAL S' ar L' a a' ∧ rat K' 17 n = nI v) ∧ (F' = hl'.length + C' ∧ hl'.length ≤ hl.length + (gH a' - gH a) ∧ (∀ p x v r, L' p x v r → L p x v r ∨ (a ≤ x ∧ x < a')) ∧ rsz K' 7 ≤ rsz K 7 + 6500 * (a' - a) + 9 * d) ∧ (e' ≤ C' ∧ e' ≤ Em ∧ e ≤ e' ∧ e' ≤ e + (gS a' - gS a) ∧ nv' + 100 * (Em - e') ≤ u + d + 100 * (gI a' - gI a) + (kh + 3) * (a' - a) ∧ nc' + 100 * (Em - e') ≤ u + d + 100 * (gI a' - gI a) + (kh + 3) * (a' - a)) ∧ (nv ≤ nv' ∧ nc ≤ nc') ∧ ∀ p, 68 ≤ p → p ≤ 70 → S'.2 p lev = S.2 p lev := by
  have hP44 : ¬ S.2 44 (sp + t) = 2 := by
    rcases hp.2.2.2.2 with ⟨_, _, _, w, _⟩ | ⟨_, w, _⟩ <;> (rw [w]; decide)
  cases kh with
  | zero => exact ht.elim
  | succ kh =>
  have n0 := ht.1
  have hpl := ht.2.1
  have lev9 : lev ≤ 9 := lv.2.2.2.2.2.2.2.2.2.2
  have lev1 : 1 ≤ lev := lv.2.2.2.2.2.2.2.2.2.1
  have lt1 := SH_lt _ _ _ (TR.sh _ _ _ _ ht)
  have hF := st.2.1
  have m2 : (kh + 1 + 3) * (a' - a) = (kh + 1 + 2) * (a' - a) + (a' - a) := by rw [← Nat.succ_mul]
  have mlo : 3 * (a' - a) ≤ (kh + 1 + 3) * (a' - a) := Nat.mul_le_mul_right _ (by omega)
  have gm := gw.1 a a' (by omega)
  have h04 : ¬ K.2.1 p4 0 = 4 := by
    intro e4
    rcases ht.2.2 with w | w | w | w | w
    · exact absurd (e4.symm.trans w.1) (by decide)
    · exact absurd (e4.symm.trans w.1) (by decide)
    · exact absurd (e4.symm.trans w.1) (by decide)
    · exact absurd w.2.1 h39
    · exact absurd (e4.symm.trans w.1) (by decide)
  by_cases h5 : S.2 39 a = 5
  · -- a constant
    have h06 : K.2.1 p4 0 = 6 := by
      rcases ht.2.2 with w | w | w | w | w
      · exact absurd (h5.symm.trans w.2.1) (by decide)
      · exact absurd (h5.symm.trans w.2.1) (by decide)
      · exact absurd (h5.symm.trans w.2.1) (by decide)
      · exact absurd (h5.symm.trans w.2.1) (by decide)
      · exact w.1
    have hne : ∀ {c' : Int32} {P : Prop}, 6 ≠ c' → K.2.1 p4 0 = c' → P := fun {_ _} h1 h2 => absurd (h06.symm.trans h2) h1
    have kty : ∀ (x : Int32) (K1 : cp_K), KC (340 + 3 * (kh + 1)) m_T_typeOfConstant (fun G => [.ref (cp_b G + 24), va_rf (kr G p4)]) K (fun _ => some (.int x)) K1 → KC (333 + 3 * (kh + 1) + 8) m_T_typeOf (fun G => [.ref (cp_b G + 24), va_rf (kr G p4)]) K (fun _ => some (.int x)) K1 := fun x K1 kc => c_T_typeOf ⟨n0, fun h => hne (by decide) h, fun h => hne (by decide) h, fun h => hne (by decide) h, fun h => hne (by decide) h, fun h => hne (by decide) h, fun _ => ⟨x, K1, kc.mono (by omega), rfl, rfl⟩, fun h => absurd h06 (h 6 (by decide))⟩
    rcases ih K S ρ nv nc hl C F L n (lev + 1) lev p4 a a' e u st ht h06 gw hj ⟨rfl, by omega⟩ hn hLa hE ⟨hu.1, hu.2.1, by omega⟩ (by omega) with ⟨K1, S1, c1, c2, c3⟩ | ⟨K1, S1, ρ1, nv1, nc1, hl1, C1, F1, L1, x, v, e1, lf, ts, c1, c2, c3, c4, c5, c6, ⟨c7, c8, c9, c10⟩, ⟨d1, d2, d3, d4⟩, ⟨d5, d6, d7, d8, d9, d10, d11, d12⟩, ⟨d13, d14⟩, ⟨d15, d16, d17⟩⟩
    · refine Or.inl ⟨K1, S1, ?_, fun start => rg_con lv h34 hnp htn hP44 h5 (c2 start), c3⟩
      exact (c_T_takeArgument (D := 334 + 3 * (kh + 1)) ⟨n0, fun _ => ⟨-1, K1, (kty _ _ c1).mono (by omega), fun hn => absurd rfl hn, fun _ => ⟨rfl, rfl⟩⟩, fun h4 => absurd h4 h04⟩).mono (by omega)
    · obtain ⟨ok, K', S', ρ', nv', nc', hl', C', F', L', s1, s2, s3, s4⟩ := suit_m (D := 334 + 3 * (kh + 1)) (x3 := 1) st c6 d1 lv hp ht fr hfr (by omega) ((kty _ _ c1).mono (by omega)) h04 n0 hpl c4 c5 c7 c8 c9 c10 (Or.inr ⟨rfl, by omega, d15, d16, d17⟩) hk (by omega) hd (by omega) ⟨d13, d14⟩ (by omega) (by omega) hj.1 hsp (by omega)
      cases ok with
      | false => exact Or.inl ⟨K', S', s1.mono (by omega), fun start => rg_con lv h34 hnp htn hP44 h5 (c2 start _ _ (jj138 (c := c) (i0 := i0) (sp := sp) (t := t) (a := a) lev1 lev9 c3 s2 (fun _ => ⟨rfl, rfl⟩) (fun h => absurd rfl h))), s3 rfl⟩
      | true =>
        obtain ⟨t1, t2, t3, t4, t5, t6, ⟨t7, t8, t8', t9, t10⟩, t11, ⟨t12, t13⟩, t14⟩ := s4 rfl
        have hrg : ∀ start o Sx, RG start lev c o Sx S' → RG start lev c o Sx S := fun start o Sx w => rg_con lv h34 hnp htn hP44 h5 (c2 start o Sx (jj138 (c := c) (i0 := i0) (sp := sp) (t := t + 1) (a := a') lev1 lev9 c3 s2 (fun h => absurd h (by decide)) (fun _ => ⟨t3, w⟩)))
        have hCC := t1.1.1.1.1.2.2.2.1
        have hC01 := c6.2.2.1.2.1
        have hlen : hl'.length = hl1.length := by rw [t8]
        have hL' : ∀ p x v r, L' p x v r → L p x v r ∨ (a ≤ x ∧ x < a') := by rw [t8']; exact d3
        rcases t11 with ⟨r1, r2, r3⟩ | ⟨r1, r2, r3⟩
        · exact Or.inr ⟨K', S', ρ', nv', nc', hl', C', F', L', v, e, s1.mono (by omega), hrg, t1, t2, t3, ⟨t4, c8, t5, t6⟩, ⟨t7, by omega, hL', by omega⟩, ⟨by omega, by omega, Nat.le_refl _, by omega, by omega, by omega⟩, ⟨t12, t13⟩, t14⟩
        · by_cases hlf : lf = 1
          · obtain ⟨z1, z2, -⟩ := d6 hlf
            have hFF := r3 rfl
            have hll : hl1.length = hl.length := by rw [z2]
            have he : e + 1 ≤ C' := by omega
            have heE : e + 1 ≤ Em := hEm _ (by omega) (by omega)
            exact Or.inr ⟨K', S', ρ', nv', nc', hl', C', F', L', v, e + 1, s1.mono (by omega), hrg, t1, t2, t3, ⟨t4, c8, t5, t6⟩, ⟨t7, by omega, hL', by omega⟩, ⟨he, heE, by omega, by omega, by omega, by omega⟩, ⟨t12, t13⟩, t14⟩
          · exact Or.inr ⟨K', S', ρ', nv', nc', hl', C', F', L', v, e1, s1.mono (by omega), hrg, t1, t2, t3, ⟨t4, c8, t5, t6⟩, ⟨t7, by omega, hL', by omega⟩, ⟨by omega, d8, d9, by omega, by omega, by omega⟩, ⟨t12, t13⟩, t14⟩
  · -- a simple argument
    obtain ⟨hja, ok, K1, S1, ρ1, nv1, x, v, ts, c1, c2⟩ := simp_m (lev := lev + 1) st ht h5 (by omega) (by omega) (by omega) (by omega) (by omega)
    subst hja
    cases ok with
    | false =>
      obtain ⟨b1, b2, b3⟩ := c2 rfl
      refine Or.inl ⟨K1, S1, ?_, fun start => rg_simple (suit := 0) (S2 := S1) lv h34 hnp htn hP44 h39 h5 b2 ⟨fun _ => ⟨rfl, rfl⟩, fun h => absurd rfl h⟩, b3⟩
      exact (c_T_takeArgument (D := 334 + 3 * (kh + 1)) ⟨n0, fun _ => ⟨-1, K1, b1.mono (by omega), fun hn => absurd rfl hn, fun _ => ⟨rfl, rfl⟩⟩, fun h4 => absurd h4 h04⟩).mono (by omega)
    | true =>
      obtain ⟨b1, b2, b3, b4, b5, b6, b7, b8, b9, b10, ⟨b11, b12, b13⟩, b14⟩ := c1 rfl
      obtain ⟨ok, K', S', ρ', nv', nc', hl', C', F', L', s1, s2, s3, s4⟩ := suit_m (D := 334 + 3 * (kh + 1)) (x3 := 0) st b6 hF lv hp ht fr hfr (by omega) (b1.mono (by omega)) h04 n0 hpl b4 b5 b7 b8 b9 b10 (Or.inl rfl) hk (by omega) hd (by omega) ⟨b11, Nat.le_refl _⟩ (by omega) (by omega) hj.1 hsp (by omega)
      cases ok with
      | false => exact Or.inl ⟨K', S', s1.mono (by omega), fun start => rg_simple lv h34 hnp htn hP44 h39 h5 b2 ⟨fun h => absurd h b3, fun _ => ⟨s2, fun _ => ⟨rfl, rfl⟩, fun h => absurd rfl h⟩⟩, s3 rfl⟩
      | true =>
        obtain ⟨t1, t2, t3, t4, t5, t6, ⟨t7, t8, t8', t9, t10⟩, t11, ⟨t12, t13⟩, t14⟩ := s4 rfl
        have hlen : hl'.length = hl.length := by rw [t8]
        refine Or.inr ⟨K', S', ρ', nv', nc', hl', C', F', L', v, e, s1.mono (by omega), fun start o Sx w => rg_simple lv h34 hnp htn hP44 h39 h5 b2 ⟨fun h => absurd h b3, fun _ => ⟨s2, fun h => absurd h (by decide), fun _ t0 => rg_in t3 w t0⟩⟩, t1, t2, t3, ⟨t4, b8, t5, t6⟩, ⟨t7, by omega, fun p x v r w => Or.inl (by rw [t8'] at w; exact w), by omega⟩, ⟨by omega, hE.2.1, Nat.le_refl _, by omega, ?_, ?_⟩, ⟨t12, t13⟩, t14⟩
        · rcases t11 with ⟨r1, r2, r3⟩ | ⟨r1, r2, r3⟩ <;> omega
        · rcases t11 with ⟨r1, r2, r3⟩ | ⟨r1, r2, r3⟩ <;> omega
end CPAM
