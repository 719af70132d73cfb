/-! ===== types: a constant of the text; a term of the text ===== -/
section CPCO
variable {ar : Nat → Nat} {rf : Nat} {pl : Nat → Nat → Prop} {nE Em Ht Sl : Nat} {gI gS gH : Nat → Nat}
theorem BGN.tpo {n nv nc lev i F C : Nat} {K : cp_K} {S T : cp_S} {ρ : Nat → Nat → Prop} {hl : List Nat} {L : Nat → Nat → Nat → Nat → Prop} (st : TST ar rf pl nE n K S ρ nv nc hl C F L) (bg : BGN S T lev i nv nc F) : TPO ar rf pl lev n n K S ρ nv nc hl C F L K T ρ nv nc hl C F L := by
  obtain ⟨⟨⟨⟨V, hh, hA⟩, ⟨h35, h40⟩, h9⟩, h42, hs, hd4⟩, -, -, -, -, hB, -⟩ := st
  obtain ⟨g1, g2, g3, g4, -⟩ := bg
  exact TPO.ev hs hd4 hh h42 ⟨⟨V.ga hh (fun p p1 p2 => g2 p (by omega)), hh, hA⟩, ⟨by rw [g1]; exact h35, by rw [g1]; exact h40⟩, h9⟩ (fun _ _ w => w) KX.refl rfl hB (fun _ _ _ _ => rfl) (Nat.le_refl _) (fun _ _ => rfl) (fun k _ => by rw [g1]) (fun p hp => g2 p (by omega)) g3 (fun p p1 p2 x hx => g4 p p1 p2 x (by omega)) (fun p p1 p2 r _ => by rw [g2 p (by omega)]) (fun t _ => by rw [g2 56 (by omega)])
theorem mul_st {kh j i : Nat} (h : i < j) : (kh + 1 + 2) * (j - i) = (kh + 3) * (j - (i + 1)) + (kh + 3) := by
  rw [show j - i = (j - (i + 1)) + 1 by omega, Nat.mul_add, Nat.mul_one]
theorem con_pre {m d sl lf e u Sl Ht hlL i j kh np a0 a1 a2 s0 s1 s2 h0 h1 h2 X N : Nat} (hm : m ≤ 6) (hs1 : m = 0 → sl = 0 ∧ lf = 1) (hs2 : ¬ m = 0 → sl = 6 - m ∧ lf = 0) (lt : i < j) (g1 : a0 ≤ a1 ∧ s0 ≤ s1 ∧ h0 ≤ h1) (g2 : a1 ≤ a2 ∧ s1 ≤ s2 ∧ h1 ≤ h2) (gi : (1 ≤ m → a0 + 1 ≤ a1 ∧ s0 + (6 - m) ≤ s1) ∧ (m = 0 → s0 + 1 ≤ s1)) (hE3 : e + (s2 - s0) ≤ Sl) (hE4 : hlL + (h2 - h0) ≤ Ht) (hu : u + 100 * (a2 - a0) + (X + (kh + 3)) ≤ 5590) (hd : d ≤ 100) (hnp : np ≤ 6) (hN : N + 6500 * (j - i) < 1040000) (hj0 : m = 0 → a2 = a1) : e + sl + (s2 - s1) ≤ Sl ∧ hlL + (h2 - h1) ≤ Ht ∧ u + d + 100 * (a2 - a1) + X ≤ 5690 ∧ (¬ m = 0 → u + d + 100 * (a2 - a1) + X ≤ 5590) ∧ N + 6500 * (j - (i + 1)) + 900 * np + 9 * d + 12 < 1040000 := by
  by_cases h : m = 0
  · obtain ⟨e1, e2⟩ := hs1 h
    have := hj0 h
    have := gi.2 h
    exact ⟨by omega, by omega, by omega, fun hn => absurd h hn, by omega⟩
  · obtain ⟨e1, e2⟩ := hs2 h
    have := gi.1 (by omega)
    exact ⟨by omega, by omega, by omega, fun _ => by omega, by omega⟩
theorem con_post {m d sl lf e e' u hlL hlL' i j kh np a0 a1 a2 s0 s1 s2 h0 h1 h2 X N N' nvx ncx : Nat} (hm : m ≤ 6) (hs1 : m = 0 → sl = 0 ∧ lf = 1) (hs2 : ¬ m = 0 → sl = 6 - m ∧ lf = 0) (lt : i < j) (g1 : a0 ≤ a1 ∧ s0 ≤ s1 ∧ h0 ≤ h1) (g2 : a1 ≤ a2 ∧ s1 ≤ s2 ∧ h1 ≤ h2) (gi : (1 ≤ m → a0 + 1 ≤ a1 ∧ s0 + (6 - m) ≤ s1) ∧ (m = 0 → s0 + 1 ≤ s1)) (hd : d ≤ 100) (hnp : np ≤ 6) (hj0 : m = 0 → a2 = a1) (w17 : hlL' ≤ hlL + (h2 - h1)) (w19 : N' ≤ N + 6500 * (j - (i + 1)) + 900 * np + 9 * d + 12) (w20 : m = 0 → e' = e) (w24 : e' ≤ e + sl + (s2 - s1)) (w25 : nvx ≤ u + d + 100 * (a2 - a1) + X) (w26 : ncx ≤ u + d + 100 * (a2 - a1) + X) : hlL' ≤ hlL + (h2 - h0) ∧ N' ≤ N + 6500 * (j - i) ∧ lf ≤ 1 ∧ (lf = 1 → m = 0) ∧ e' + lf ≤ e + (s2 - s0) ∧ nvx ≤ u + 100 * (a2 - a0) + (X + (kh + 3)) + 100 * lf ∧ ncx ≤ u + 100 * (a2 - a0) + (X + (kh + 3)) + 100 * lf := by
  by_cases h : m = 0
  · obtain ⟨e1, e2⟩ := hs1 h
    have := hj0 h
    have := gi.2 h
    have := w20 h
    exact ⟨by omega, by omega, by omega, fun _ => h, by omega, by omega, by omega⟩
  · obtain ⟨e1, e2⟩ := hs2 h
    have := gi.1 (by omega)
    exact ⟨by omega, by omega, by omega, fun q => by omega, by omega, by omega, by omega⟩
theorem con_ok {kh : Nat} (ih : CON ar rf pl nE Em Ht Sl gI gS gH kh) (hEm : ∀ x, x ≤ Ht → x ≤ Sl → x ≤ Em) (hHt : Ht ≤ 100) {K : cp_K} {S : cp_S} {ρ : Nat → Nat → Prop} {nv nc : Nat} {hl : List Nat} {C F : Nat} {L : Nat → Nat → Nat → Nat → Prop} {n lev lev1 p i j e u c m kd sp np d : Nat} (st : TST ar rf pl nE n K S ρ nv nc hl C F L) (h06 : K.2.1 p 0 = 6) (gw : GW S.2 gI gS gH) (hj : j < 2720) (hji : j - i ≤ 100) (hlev : lev = lev1 + 1) (hlv : lev + (kh + 1) ≤ 10) (hn : n + 7 * (kh + 1) ≤ 9000) (hLa : ∀ p x v r, L p x v r → x < i) (hE : e ≤ C ∧ e ≤ Em ∧ e + (gS j - gS i) ≤ Sl ∧ hl.length + (gH j - gH i) ≤ Ht) (hu : nv + 100 * (Em - e) ≤ u ∧ nc + 100 * (Em - e) ≤ u ∧ u + 100 * (gI j - gI i) + (kh + 1 + 2) * (j - i) ≤ 5590) (h7 : rsz K 7 + 6500 * (j - i) < 1040000) (lt1 : i < j) (n0 : nd K p 9) (hpl : pl p i) (h39 : S.2 39 i = 5) (hc : c < 26) (hm : m ≤ 6) (t1 : K.2.1 p 1 = nI (65 + c)) (t2 : S.2 40 i = nI c) (t3 : K.2.1 p 3 = nI m) (t4 : S.2 41 i = nI m) (t5 : CHN (TR K S.2 pl kh) K m (K.2.2.1 p 4) (i + 1) j) (hnd : ¬ dfind K (K.2.1 p 1) = 0 → nd K (dfind K (K.2.1 p 1)) 10) (b30 : S.2 30 c = 1) (q1 : kd ≤ 40) (q2 : np ≤ 6) (q3 : sp + np < 180) (q4 : d ≤ 100) (q6 : S.2 31 c = nI (ar c)) (q7 : S.2 33 c = nI sp) (q8 : S.2 34 c = nI np) (q9 : nd K (K.2.2.1 4 c) 10) (q13 : nd K (K.2.2.1 (K.2.2.1 4 c) 4) 9) (q14 : PTS K S.2 ar kd (K.2.2.1 (K.2.2.1 (K.2.2.1 4 c) 4) 5) (RES K S.2 ar kd c (K.2.2.1 (K.2.2.1 (K.2.2.1 4 c) 4) 5)) np (K.2.2.1 (K.2.2.1 (K.2.2.1 4 c) 4) 4) sp (fun _ => False) (ar c) d) (hma : m = ar c) (dfe2 : dfc K p = K.2.2.1 4 c) (hdc : K.2.1 24 4 = 0 ∨ K.2.1 (K.2.2.1 4 c) 3 = 0) (hd58 : S.1 58 = 0 ∨ ∀ x, x < np → ¬ S.2 44 (sp + x) = 2) :
  (∃ (K' : cp_K) (S' : cp_S), KC (340 + 3 * (kh + 1)) m_T_typeOfConstant (fun G => [.ref (cp_b G + 24), va_rf (kr G p)]) K (fun _ => some (.int (-1))) K' ∧ (∀ start, RBG S i lev start (some (.int (-1))) S') ∧ BDQ K S K' S') ∨
  ∃ (K' : cp_K) (S' : cp_S) (ρ' : Nat → Nat → Prop) (nv' nc' : Nat) (hl' : List Nat) (C' F' : Nat) (L' : Nat → Nat → Nat → Nat → Prop) (x v e' lf : Nat) (ts : Int32), KC (340 + 3 * (kh + 1)) m_T_typeOfConstant (fun G => [.ref (cp_b G + 24), va_rf (kr G p)]) K (fun _ => some (.int (nI x))) K' ∧ (∀ start o Sx, JJ 7 m_M_typeOf o Sx 138 [(1, .int start), (2, .int (nI lev1)), (3, .int ts), (4, .int (-1))] S' → RBG S i lev start o Sx) ∧ ¬ ts = -1 ∧ TYR K' ρ' x ts ∧ x < rsz K' 7 ∧ TPO ar rf pl lev n n K S ρ nv nc hl C F L K' S' ρ' nv' nc' hl' C' F' L' ∧ (K'.2.1 24 7 = nI v ∧ v < 2 ^ 31 ∧ CTX K' hl' nE L' (kh + 1) p v ∧ VAL S' ar L' i j) ∧ (F' = hl'.length + C' ∧ hl'.length ≤ hl.length + (gH j - gH i) ∧ (∀ p x v r, L' p x v r → L p x v r ∨ (i ≤ x ∧ x < j)) ∧ rsz K' 7 ≤ rsz K 7 + 6500 * (j - i)) ∧ (lf ≤ 1 ∧ (lf = 1 → e' = e ∧ hl' = hl ∧ S.2 41 i = nI 0) ∧ e' ≤ C' ∧ e' ≤ Em ∧ e ≤ e' ∧ e' + lf ≤ e + (gS j - gS i) ∧ nv' + 100 * (Em - e') ≤ u + 100 * (gI j - gI i) + (kh + 1 + 2) * (j - i) + 100 * lf ∧ nc' + 100 * (Em - e') ≤ u + 100 * (gI j - gI i) + (kh + 1 + 2) * (j - i) + 100 * lf) ∧ (nv ≤ nv' ∧ nc ≤ nc') ∧ (S'.2 68 lev = nI nv ∧ S'.2 69 lev = nI nc ∧ S'.2 70 lev = nI F) := by
  have hne0 : ¬ dfc K p = 0 := by rw [dfe2]; have := q9.1; omega
  obtain ⟨⟨⟨-, ⟨h35, h40⟩, -⟩, h42, -, -⟩, hF, nmS, ⟨hDi, hDc⟩, plf, hB, hnE, h245, h244⟩ := id st
  obtain ⟨T, bg, mb⟩ := MC_begin_ok (lev := lev) (by omega) (by omega) t2 hc t4 b30 (by rw [q6, hma]) q7 q8 (by omega) hd58 h35 h40 h42
  have T1 := bg.tpo st
  obtain ⟨g1, g2, g3, g4, g5, g6, g7, g8, g9, g10⟩ := id bg
  have bkT := T1.2.2.2.2.2.1.bk
  have stT := st.mv T1 (by omega) hF (Nat.le_refl _)
  have lvT : LVL T lev c i sp 0 (i + 1) := ⟨g5, by omega, by rw [bkT 40 (by omega)]; exact t2, hc, by rw [bkT 33 (by omega)]; exact q7, g6, g7, by omega, by omega, by omega, by omega⟩
  have nkK : NK K K := ⟨fun _ _ _ => rfl, rfl, fun _ _ h => h⟩
  have haj : i + 1 ≤ j := by omega
  have gm1 := gw.1 i (i + 1) (by omega)
  have gm2 := gw.1 (i + 1) j haj
  have gwi := gw.2.1 i m h39 t4 hm
  obtain ⟨sl, lf, hsl1, hsl2⟩ : ∃ sl lf, (m = 0 → sl = 0 ∧ lf = 1) ∧ (¬ m = 0 → sl = 6 - m ∧ lf = 0) := by
    by_cases h : m = 0
    · exact ⟨0, 1, fun _ => ⟨rfl, rfl⟩, fun hn => absurd h hn⟩
    · exact ⟨6 - m, 0, fun hn => absurd hn h, fun _ => ⟨rfl, rfl⟩⟩
  have mm := mul_st (kh := kh) lt1
  rw [← hma] at q14
  have hle := PTS.le _ _ _ _ _ _ q14
  have hm0j : m = 0 → j = i + 1 := fun h => by
    subst h
    exact t5.2.symm
  have hu2 := hu.2.2
  have into : ∀ (o : Int32) (K' : cp_K), JC (335 + 3 * kh + 8) m_T_typeOfConstant (fun _ => .inl (some (.int o))) K' 59 (LT p (K.2.2.1 4 c) n (K.2.2.1 p 4) (K.2.2.1 (K.2.2.1 (K.2.2.1 4 c) 4) 4)) (fun _ => []) K → KC (340 + 3 * (kh + 1)) m_T_typeOfConstant (fun G => [.ref (cp_b G + 24), va_rf (kr G p)]) K (fun _ => some (.int o)) K' := fun o K' w => by
    have g36 : JC (335 + 3 * kh + 8) m_T_typeOfConstant (fun _ => .inl (some (.int o))) K' 36 (fun G => [(0, .ref (cp_b G + 24)), (1, va_rf (kr G p)), (2, va_rf (kr G (dfc K p)))]) (fun _ => []) K := by
      rw [dfe2]
      exact b_T_typeOfConstant_36 ⟨n0, q9, q13, by rw [hB.1]; exact w⟩
    refine (c_T_typeOfConstant (D := 335 + 3 * kh) ⟨n0, hnd, fun h => absurd h hne0, fun _ => ⟨fun _ => g36, fun h => ⟨by rw [dfe2]; exact q9, fun _ => g36, fun h3 => ?_⟩⟩⟩).mono (by omega)
    rw [dfe2] at h3
    rcases hdc with w | w
    · exact absurd w h
    · exact absurd w h3
  have rin : ∀ start o Sx, RG start lev c o Sx T → RBG S i lev start o Sx := fun start o Sx w => ⟨1, T, mb, fun h => absurd h (by decide), fun _ t0 => rg_in lvT w t0⟩
  have hn6 : n + 6 + 7 * kh ≤ 9000 := by clear hu hE h7; omega
  have hlv' : lev + kh + 1 ≤ 10 := by omega
  have hja : j - (i + 1) ≤ 100 := by clear hu hE h7; omega
  rw [mm] at hu2
  obtain ⟨z1, z2, z3, z4, z5⟩ := con_pre (np := np) hm hsl1 hsl2 lt1 gm1 gm2 gwi hE.2.2.1 hE.2.2.2 hu2 q4 q2 h7 (fun h => by rw [hm0j h])
  have z6 : ((∀ c : Nat, ¬ (fun _ : Nat => False) c) ∧ m = 0) ∨ np - m ≤ sl := by
    by_cases h : m = 0
    · exact Or.inl ⟨fun _ h => h, h⟩
    · refine Or.inr ?_
      rw [(hsl2 h).1]
      exact Nat.sub_le_sub_right q2 m
  rcases parts (p1 := p) (p2 := K.2.2.1 4 c) (frame := n) (i0 := i) (np := np) (lev := lev) ih hEm hHt hpl q2 q3 hn6 hj hlv' hlev q1 hnE np (K.2.2.1 (K.2.2.1 (K.2.2.1 4 c) 4) 4) 0 (fun _ => False) m d (K.2.2.1 p 4) (i + 1) 0 e u sl K T ρ nv nc hl C F L stT ⟨n0, q9, q13, rfl⟩ (PTS.mv nkK bkT (fun sc d h => h.mv nkK bkT) _ _ _ _ _ _ q14) lvT (by rw [bkT 34 (by omega)]; exact q8) (Nat.zero_add np) (CHN_nk nkK (TR.nk nkK (bkT 39 (by omega)) (bkT 40 (by omega)) (bkT 41 (by omega)) kh) _ _ _ _ t5) (fun _ _ h => h.elim) (by rw [Nat.zero_add]; exact hm) (fun p x v r w => by have := hLa p x v r w; omega) (gw.mv bkT) ⟨hE.1, hE.2.1, z1, z2⟩ z6 ⟨hu.1, hu.2.1, z3, z4⟩ (hd58.imp (fun h => by rw [g1]; exact h) (fun h x _ x2 => by rw [bkT 44 (by omega)]; exact h x x2)) q4 hja z5 with ⟨K', S', w1, w2, w3⟩ | ⟨K', S', ρ', nv', nc', hl', C', F', L', x, v, e', ts, w1, w2, w3, w4, w5, w6, ⟨w7, w8, w9, w10, w11, w12, w13, w14, w15⟩, ⟨w16, w17, w18, w19⟩, ⟨w20, w21, w22, w23, w24, w25, w26⟩, ⟨w27, w28⟩, w29⟩
  · exact Or.inl ⟨K', S', into _ _ w1, fun start => rin _ _ _ (w2 start), BDQ.pre T1 (by omega) w3⟩
  · have nk' := w6.2.2.2.2.1.nk
    have sx' := w6.2.2.2.2.2.1
    rw [Nat.zero_add] at w12
    obtain ⟨y1, y2, y3, y4, y5, y6, y7⟩ := con_post (np := np) (e := e) hm hsl1 hsl2 lt1 gm1 gm2 gwi q4 q2 (fun h => by rw [hm0j h]) w17 w19 (fun h => (w20 ⟨fun _ h => h, h⟩).1) w24 w25 w26
    refine Or.inr ⟨K', S', ρ', nv', nc', hl', C', F', L', x, v, e', lf, ts, into _ _ w1, fun start o Sx w => rin _ _ _ (w2 start o Sx w), w3, w4, w5, T1.trans w6 (Nat.le_refl _) (Nat.le_refl _) (fun _ => ⟨Nat.le_refl _, Nat.le_refl _⟩), ⟨w7, w8, ?_, ?_⟩, ⟨w16, y1, fun p x v r w => ?_, y2⟩, ⟨y3, fun h => ⟨(w20 ⟨fun _ h => h, y4 h⟩).1, (w20 ⟨fun _ h => h, y4 h⟩).2, by rw [t4, y4 h]⟩, w21, w22, w23, y5, by rw [mm]; exact y6, by rw [mm]; exact y7⟩, ⟨w27, w28⟩, by rw [w29 68 (by omega) (by omega)]; exact g8, by rw [w29 69 (by omega) (by omega)]; exact g9, by rw [w29 70 (by omega) (by omega)]; exact g10⟩
    · refine Or.inr (Or.inr ⟨w9, Or.inr (Or.inr ⟨by rw [nk'.1 p 0 n0.1]; exact h06, m, hm, w10, by rw [nk'.1 p 1 n0.1]; exact w11, w12, by rw [nk'.1 p 3 n0.1]; exact t3, ?_⟩)⟩)
      rw [nk'.2.1]
      exact w14
    · intro y y1 y2
      by_cases hy : y = i
      · subst hy
        rw [sx'.bk 39 (by omega), bkT 39 (by omega), sx'.bk 40 (by omega), bkT 40 (by omega), sx'.bk 41 (by omega), bkT 41 (by omega), h39, t2, t4]
        refine ⟨fun _ h => absurd h (by decide), fun h => absurd h (by decide), fun c' m' _ e1 hc' e2 hm' => ?_⟩
        have z1 : c = c' := (nI_eq (by omega) (by omega)).mp e1
        have z2 : m = m' := (nI_eq (by omega) (by omega)).mp e2
        rw [← z1, ← z2]
        exact hma
      · exact w15 y (by omega) y2
    · rcases w18 p x v r w with h | h
      · exact Or.inl h
      · exact Or.inr ⟨Nat.le_of_succ_le h.1, h.2⟩
theorem con_all (hEm : ∀ x, x ≤ Ht → x ≤ Sl → x ≤ Em) (hHt : Ht ≤ 100) : ∀ k, CON ar rf pl nE Em Ht Sl gI gS gH k
  | 0 => fun _ _ _ _ _ _ _ _ _ _ _ _ _ _ _ _ _ _ h => h.elim
  | kh + 1 => by
    have ih := con_all hEm hHt kh
    intro K S ρ nv nc hl C F L n lev lev1 p i j e u st ht h06 gw ⟨hj, hji⟩ ⟨hlev, hlv⟩ hn hLa hE hu h7
    have lt1 := SH_lt _ _ _ (TR.sh _ _ _ _ ht)
    obtain ⟨n0, hpl, ht⟩ := ht
    obtain ⟨h39, c, m, hc, hm, t1, t2, t3, t4, t5⟩ : S.2 39 i = 5 ∧ ∃ c m, c < 26 ∧ m ≤ 6 ∧ K.2.1 p 1 = nI (65 + c) ∧ S.2 40 i = nI c ∧ K.2.1 p 3 = nI m ∧ S.2 41 i = nI m ∧ CHN (TR K S.2 pl kh) K m (K.2.2.1 p 4) (i + 1) j := by
      rcases ht with w | w | w | w | w
      · exact absurd (h06.symm.trans w.1) (by decide)
      · exact absurd (h06.symm.trans w.1) (by decide)
      · exact absurd (h06.symm.trans w.1) (by decide)
      · exact absurd (h06.symm.trans w.1) (by decide)
      · exact w.2
    have dfe : dfind K (K.2.1 p 1) = K.2.2.1 4 c := by rw [t1]; exact dfind_of hc
    have T0 : TPO ar rf pl lev n n K S ρ nv nc hl C F L K S ρ nv nc hl C F L := st.refl
    obtain ⟨⟨⟨-, ⟨h35, h40⟩, -⟩, h42, -, -⟩, hF, nmS, ⟨hDi, hDc⟩, plf, hB, hnE, h245, h244⟩ := id st
    obtain ⟨f1, f2, f3, f4, f5⟩ := plf.2.1 p i hpl
    have bd : BDQ K S (kI K 24 6 (K.2.1 p 2)) (va_up S.1 59 (S.2 42 (i - rf)), S.2) := by rw [f5]; exact BDQ.of T0 (by omega) (by omega) (by omega) f3.2
    have rbad : (¬ S.2 30 c = 1 ∨ ¬ S.2 31 c = S.2 41 i ∨ (¬ S.1 58 = 0 ∧ ∃ sp np, S.2 33 c = nI sp ∧ S.2 34 c = nI np ∧ sp + np ≤ 180 ∧ ∃ x, x < np ∧ S.2 44 (sp + x) = 2)) → ∀ start, RBG S i lev start (some (.int (-1))) (va_up S.1 59 (S.2 42 (i - rf)), S.2) := fun h start => ⟨0, _, MC_begin_bad (by omega) t2 hc plf.1 f1 f2 rfl h, fun _ => ⟨rfl, rfl⟩, fun h => absurd rfl h⟩
    have hnd : ¬ dfind K (K.2.1 p 1) = 0 → nd K (dfind K (K.2.1 p 1)) 10 := fun h => by
      rw [dfe] at h ⊢
      rcases hDc c hc with ⟨-, w⟩ | ⟨-, w⟩ | ⟨-, w, -⟩
      · exact absurd w h
      · obtain ⟨k, sp, np, d, q1, q2, q3, q4, q5, q6, q7, q8, q9, q10⟩ := w
        exact q9
      · exact w
    have cbad : dfc K p = 0 → KC (335 + 3 * kh + 8) m_T_typeOfConstant (fun G => [.ref (cp_b G + 24), va_rf (kr G p)]) K (fun _ => some (.int (-1))) (kI K 24 6 (K.2.1 p 2)) := fun h => c_T_typeOfConstant ⟨n0, hnd, fun _ => ⟨rfl, rfl⟩, fun hn => absurd h hn⟩
    rcases hDc c hc with ⟨b30, w⟩ | ⟨b30, w⟩ | ⟨b30, w, w2, -⟩
    · exact Or.inl ⟨_, _, (cbad (by unfold dfc; rw [dfe, w]; split <;> rfl)).mono (by omega), rbad (Or.inl (by rw [b30]; decide)), bd⟩
    · obtain ⟨kd, sp, np, d, q1, q2, q3, q4, q5, q6, q7, q8, q9, q10, q11, q12, q13, q14⟩ := w
      by_cases hma : m = ar c
      · have dfe2 : dfc K p = K.2.2.1 4 c := by unfold dfc; rw [dfe, if_pos ⟨q10, by rw [q11, t3, hma]⟩]
        have hne0 : ¬ dfc K p = 0 := by rw [dfe2]; have := q9.1; omega
        by_cases hdc : K.2.1 24 4 = 0 ∨ K.2.1 (K.2.2.1 4 c) 3 = 0
        · have hd58 : S.1 58 = 0 ∨ ∀ x, x < np → ¬ S.2 44 (sp + x) = 2 := by
            rcases hdc with h | h
            · exact Or.inl (h244.mp h)
            · exact Or.inr (q12.mp h)
          exact con_ok ih hEm hHt st h06 gw hj hji hlev hlv hn hLa hE hu h7 lt1 n0 hpl h39 hc hm t1 t2 t3 t4 t5 hnd b30 q1 q2 q3 q4 q6 q7 q8 q9 q13 q14 hma dfe2 hdc hd58
        · have hd1 : ¬ K.2.1 24 4 = 0 := fun h => hdc (Or.inl h)
          have hd2 : ¬ K.2.1 (K.2.2.1 4 c) 3 = 0 := fun h => hdc (Or.inr h)
          refine Or.inl ⟨_, _, (c_T_typeOfConstant (D := 335 + 3 * kh) ⟨n0, hnd, fun h => absurd h hne0, fun _ => ⟨fun h => absurd h hd1, fun _ => ⟨by rw [dfe2]; exact q9, fun h => absurd (by rw [dfe2] at h; exact h) hd2, fun _ => ⟨rfl, rfl⟩⟩⟩⟩).mono (by omega), rbad (Or.inr (Or.inr ⟨fun h => hd1 (h244.mpr h), sp, np, q7, q8, by omega, ?_⟩)), bd⟩
          refine Classical.byContradiction (fun hx => hd2 (q12.mpr (fun x hx1 hx2 => hx ⟨x, hx1, hx2⟩)))
      · refine Or.inl ⟨_, _, (cbad ?_).mono (by omega), rbad (Or.inr (Or.inl ?_)), bd⟩
        · unfold dfc
          rw [dfe, if_neg (fun h => hma ?_)]
          have h2 := h.2
          rw [q11, t3] at h2
          exact ((nI_eq (by omega) (by omega)).mp h2).symm
        · rw [q6, t4]
          exact fun h => hma ((nI_eq (by omega) (by omega)).mp h).symm
    · refine Or.inl ⟨_, _, (cbad ?_).mono (by omega), rbad (Or.inl (by rw [b30]; decide)), bd⟩
      unfold dfc
      rw [dfe, if_neg (fun h => w2 h.1)]
/-- a term of the text, both sides -/
theorem typ_m (hEm : ∀ x, x ≤ Ht → x ≤ Sl → x ≤ Em) (hHt : Ht ≤ 100) {K : cp_K} {S : cp_S} {ρ : Nat → Nat → Prop} {nv nc : Nat} {hl : List Nat} {C F : Nat} {L : Nat → Nat → Nat → Nat → Prop} {n k p i j e u : Nat} (st : TST ar rf pl nE n K S ρ nv nc hl C F L) (ht : TR K S.2 pl k p i j) (gw : GW S.2 gI gS gH) (hj : j < 2720 ∧ j - i ≤ 100) (hk : k ≤ 9) (hn : n ≤ 8000) (hLa : ∀ p x v r, L p x v r → x < i) (hE : e ≤ C ∧ e ≤ Em ∧ e + (gS j - gS i) ≤ Sl ∧ hl.length + (gH j - gH i) ≤ Ht) (hu : nv + 100 * (Em - e) ≤ u ∧ nc + 100 * (Em - e) ≤ u ∧ u + 100 * (gI j - gI i) + (k + 2) * (j - i) ≤ 5590) (h7 : rsz K 7 + 6500 * (j - i) < 1040000) :
    (∃ (K' : cp_K) (S' : cp_S), KC 370 m_T_typeOf (fun G => [.ref (cp_b G + 24), va_rf (kr G p)]) K (fun _ => some (.int (-1))) K' ∧ MC 7 m_M_typeOf [.int (nI i)] S (some (.int (-1))) S' ∧ BDQ K S K' S') ∨
    ∃ (K' : cp_K) (S' : cp_S) (ρ' : Nat → Nat → Prop) (nv' nc' : Nat) (hl' : List Nat) (C' F' : Nat) (L' : Nat → Nat → Nat → Nat → Prop) (x v e' lf : Nat) (ts : Int32), KC 370 m_T_typeOf (fun G => [.ref (cp_b G + 24), va_rf (kr G p)]) K (fun _ => some (.int (nI x))) K' ∧ MC 7 m_M_typeOf [.int (nI i)] S (some (.int ts)) S' ∧ ¬ ts = -1 ∧ TYR K' ρ' x ts ∧ x < rsz K' 7 ∧ TPO ar rf pl 1 n n K S ρ nv nc hl C F L K' S' ρ' nv' nc' hl' C' F' L' ∧ (K'.2.1 24 7 = nI v ∧ v < 2 ^ 31 ∧ CTX K' hl' nE L' k p v ∧ VAL S' ar L' i j) ∧ (F' = hl'.length + C' ∧ hl'.length ≤ hl.length + (gH j - gH i) ∧ (∀ p x v r, L' p x v r → L p x v r ∨ (i ≤ x ∧ x < j)) ∧ rsz K' 7 ≤ rsz K 7 + 6500 * (j - i)) ∧ (lf ≤ 1 ∧ (lf = 1 → S.2 39 i = 5 ∧ S.2 41 i = nI 0) ∧ e' ≤ C' ∧ e' ≤ Em ∧ e ≤ e' ∧ e' ≤ e + (gS j - gS i) ∧ nv' + 100 * (Em - e') ≤ u + 100 * (gI j - gI i) + (k + 2) * (j - i) + 100 * lf ∧ nc' + 100 * (Em - e') ≤ u + 100 * (gI j - gI i) + (k + 2) * (j - i) + 100 * lf) ∧ (nv ≤ nv' ∧ nc ≤ nc') := by
  cases k with
  | zero => exact ht.elim
  | succ k =>
  have n0 := ht.1
  have lt1 := SH_lt _ _ _ (TR.sh _ _ _ _ ht)
  have vi : vp_in (nI i) (cp_ml 39) := vp_in_nI (show i < 2720 by omega) (by decide)
  have gm := gw.1 i j (by omega)
  have mlo : 3 * (j - i) ≤ (k + 1 + 2) * (j - i) := Nat.mul_le_mul_right _ (by omega)
  by_cases h5 : S.2 39 i = 5
  · have h06 : K.2.1 p 0 = 6 := by
      rcases ht.2.2 with w | w | w | w | w
      · exact absurd (h5.symm.trans w.2.1) (by decide)
      · exact absurd (h5.symm.trans w.2.1) (by decide)
      · exact absurd (h5.symm.trans w.2.1) (by decide)
      · exact absurd (h5.symm.trans w.2.1) (by decide)
      · exact w.1
    have hne : ∀ {c' : Int32} {P : Prop}, 6 ≠ c' → K.2.1 p 0 = c' → P := fun {_ _} h1 h2 => absurd (h06.symm.trans h2) h1
    have kty : ∀ (x : Int32) (K1 : cp_K), KC (340 + 3 * (k + 1)) m_T_typeOfConstant (fun G => [.ref (cp_b G + 24), va_rf (kr G p)]) K (fun _ => some (.int x)) K1 → KC 370 m_T_typeOf (fun G => [.ref (cp_b G + 24), va_rf (kr G p)]) K (fun _ => some (.int x)) K1 := fun x K1 kc => c_T_typeOf (D := 362) ⟨n0, fun h => hne (by decide) h, fun h => hne (by decide) h, fun h => hne (by decide) h, fun h => hne (by decide) h, fun h => hne (by decide) h, fun _ => ⟨x, K1, kc.mono (by omega), rfl, rfl⟩, fun h => absurd h06 (h 6 (by decide))⟩
    have rty : ∀ (o : Option Value) (Sx : cp_S), RBG S i 1 (nI i) o Sx → MC 7 m_M_typeOf [.int (nI i)] S o Sx := fun o Sx w => by
      obtain ⟨r, S1, hb, w1, w2⟩ := w
      refine c_M_typeOf (b_M_typeOf_0 ⟨vi, fun _ => ⟨r, S1, hb, fun h => w2 h _, fun h => w1 h⟩, fun h => absurd ?_ h⟩)
      rw [nI_clamp (by omega)]; exact h5
    rcases con_all (ar := ar) (rf := rf) (pl := pl) (nE := nE) (gI := gI) (gS := gS) (gH := gH) hEm hHt (k + 1) K S ρ nv nc hl C F L n 1 0 p i j e u st ht h06 gw hj ⟨rfl, by omega⟩ (by omega) hLa hE hu h7 with ⟨K1, S1, c1, c2, c3⟩ | ⟨K1, S1, ρ1, nv1, nc1, hl1, C1, F1, L1, x, v, e1, lf, ts, c1, c2, c3, c4, c5, c6, c7, c8, ⟨d5, d6, d7, d8, d9, d10, d11, d12⟩, d13, d14⟩
    · exact Or.inl ⟨K1, S1, kty _ _ c1, rty _ _ (c2 _), c3⟩
    · refine Or.inr ⟨K1, S1, ρ1, nv1, nc1, hl1, C1, F1, L1, x, v, e1, lf, ts, kty _ _ c1, rty _ _ (c2 _ _ _ ?_), c3, c4, c5, c6, c7, c8, ⟨d5, fun h => ⟨h5, (d6 h).2.2⟩, d7, d8, d9, by omega, by omega, by omega⟩, d13⟩
      exact b_M_typeOf_138 ⟨fun _ => ⟨fun _ => b_M_typeOf_170 (b_M_typeOf_31 ⟨fun _ => ⟨rfl, rfl⟩, fun h => absurd (by decide) h⟩), fun h => absurd (by decide) h⟩, fun h => absurd h c3⟩
  · obtain ⟨hja, ok, K1, S1, ρ1, nv1, x, v, ts, c1, c2⟩ := simp_m (lev := 1) st ht h5 (by omega) (by omega) (by omega) (by omega) (by omega)
    subst hja
    have rty : ∀ (o : Int32) (Sx : cp_S), MC 1 m_M_simple [.int (nI i)] S (some (.int o)) Sx → MC 7 m_M_typeOf [.int (nI i)] S (some (.int o)) Sx := fun o Sx w => by
      refine c_M_typeOf (b_M_typeOf_0 ⟨vi, fun h => absurd ?_ h5, fun _ => ⟨o, Sx, w, rfl, rfl⟩⟩)
      rw [nI_clamp (by omega)] at h; exact h
    cases ok with
    | false =>
      obtain ⟨b1, b2, b3⟩ := c2 rfl
      exact Or.inl ⟨K1, S1, b1.mono (by omega), rty _ _ b2, b3⟩
    | true =>
      obtain ⟨b1, b2, b3, b4, b5, b6, b7, b8, b9, b10, ⟨b11, b12, b13⟩, b14⟩ := c1 rfl
      exact Or.inr ⟨K1, S1, ρ1, nv1, nc, hl, C, F, L, x, v, e, 0, ts, b1.mono (by omega), rty _ _ b2, b3, b4, b5, b6, ⟨b7, b8, b9, b10⟩, ⟨st.2.1, by omega, fun _ _ _ _ w => Or.inl w, by omega⟩, ⟨by omega, fun h => absurd h (by decide), hE.1, hE.2.1, Nat.le_refl _, by omega, by omega, by omega⟩, ⟨b11, Nat.le_refl _⟩⟩
end CPCO
