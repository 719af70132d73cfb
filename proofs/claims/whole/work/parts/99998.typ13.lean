/-! ===== types: a hole as an argument; the end of the parts ===== -/
section CPHO
variable {ar : Nat → Nat} {rf : Nat} {pl : Nat → Nat → Prop} {lev n nE : Nat} {K : cp_K} {S : cp_S} {ρ : Nat → Nat → Prop} {nv nc : Nat} {hl : List Nat} {C F : Nat} {L : Nat → Nat → Nat → Nat → Prop} {sc : Nat → Prop}
theorem hole_m {D kd kh q p4 frame c i0 sp np t a d : Nat} {nm : Option Nat} (st : TST ar rf pl nE n K S ρ nv nc hl C F L) (lv : LVL S lev c i0 sp t a) (h34 : S.2 34 c = nI np) (hnp : np ≤ 6) (htn : t < np) (hp : PRM K S.2 ar kd sc q (sp + t) d nm) (ht : TR K S.2 pl (kh + 1) p4 a (a + 1)) (h39 : S.2 39 a = 4) (h4 : K.2.1 p4 0 = 4) (fr : FRM K frame S lev sc ρ) (hfr : frame ≤ n) (hn : n ≤ 9000) (hLa : ∀ p x v r, L p x v r → x < a) (ha' : a + 1 < 2720) (hsp : sp + t + 1 < 180) (hnv : nv + 2 < 6000) (hnc : nc + 1 < 6000) (h7 : rsz K 7 < 1040000) :
    ∃ (K' : cp_K) (S' : cp_S) (ρ' : Nat → Nat → Prop) (nv' nc' : Nat), KC (D + 8) m_T_takeArgument (fun G => [.ref (cp_b G + 24), va_rf (kr G q), va_rf (kr G p4), .int (nI frame)]) K (fun _ => some (.int 1)) K' ∧ (∀ start o Sx, RG start lev c o Sx S' → RG start lev c o Sx S) ∧ TPO ar rf pl lev n (n + 1) K S ρ nv nc hl C F L K' S' ρ' nv' nc' (rsz K 7 :: hl) C (F + 1) (fun p x v r => L p x v r ∨ (p = p4 ∧ x = a ∧ v = rsz K 7 ∧ r = nv)) ∧ FRM K' frame S' lev (fun c => sc c ∨ nm = some c) ρ' ∧ LVL S' lev c i0 sp (t + 1) (a + 1) ∧ CTX K' (rsz K 7 :: hl) nE (fun p x v r => L p x v r ∨ (p = p4 ∧ x = a ∧ v = rsz K 7 ∧ r = nv)) (kh + 1) p4 (rsz K 7) ∧ VAL S' ar (fun p x v r => L p x v r ∨ (p = p4 ∧ x = a ∧ v = rsz K 7 ∧ r = nv)) a (a + 1) ∧ rat K' 17 n = nI (rsz K 7) ∧ rsz K' 7 = rsz K 7 + 3 ∧ (nv ≤ nv' ∧ nv' ≤ nv + 2 ∧ nc ≤ nc' ∧ nc' ≤ nc + 1) ∧ ∀ p, 68 ≤ p → p ≤ 70 → S'.2 p = S.2 p := by
  obtain ⟨⟨⟨⟨V, hh, hA⟩, ⟨h35, h40⟩, h9, h11⟩, h42, hs, hd4⟩, hF, nmS, ⟨hDi, hDc⟩, ⟨p20, plf, pli⟩, hB, hnE, h245, h244⟩ := id st
  have n0 := ht.1
  have hpl := ht.2.1
  obtain ⟨f1, f2, f3, f4, f5⟩ := plf p4 a hpl
  have hP44 : ¬ S.2 44 (sp + t) = 2 := by
    rcases hp.2.2.2.2 with ⟨_, _, _, w, _⟩ | ⟨_, w, _⟩ <;> (rw [w]; decide)
  have kf : KF [7] K (mks K 4 (-1)) := KF.mks
  have k7 : rsz (mks K 4 (-1)) 7 = rsz K 7 + 3 := by rw [mks_sz, if_pos rfl]
  have r7 : rat (mks K 4 (-1)) 7 = va_up (va_up (va_up (rat K 7) (rsz K 7) 4) (rsz K 7 + 1) (-1)) (rsz K 7 + 2) 0 := mks_at
  have lo : ∀ x, x < rsz K 7 → rat (mks K 4 (-1)) 7 x = rat K 7 x := fun x hx => by rw [r7, cp_up_ne (by omega), cp_up_ne (by omega), cp_up_ne (by omega)]
  have g0 : rat (mks K 4 (-1)) 7 (rsz K 7) = 4 := by rw [r7, cp_up_ne (by omega), cp_up_ne (by omega), va_up_at]
  have g1 : rat (mks K 4 (-1)) 7 (rsz K 7 + 1) = -1 := by rw [r7, cp_up_ne (by omega), va_up_at]
  have g2 : rat (mks K 4 (-1)) 7 (rsz K 7 + 2) = 0 := by rw [r7, va_up_at]
  obtain ⟨S1, hS1⟩ : ∃ S1 : cp_S, S1 = (va_up (nvl S nv 2 (-1)).1 42 (nI (F + 1)), va_up (nvl S nv 2 (-1)).2 43 (upd ((nvl S nv 2 (-1)).2 43) (a - rf) (nI nv))) := ⟨_, rfl⟩
  have s1 : ∀ k, k ≠ 35 → k ≠ 42 → S1.1 k = S.1 k := fun k k1 k2 => by rw [hS1]; show va_up (nvl S nv 2 (-1)).1 42 (nI (F + 1)) k = _; rw [cp_up_ne k2, nvl_1 k1]
  have s35 : S1.1 35 = nI (nv + 1) := by rw [hS1]; show va_up (nvl S nv 2 (-1)).1 42 (nI (F + 1)) 35 = _; rw [cp_up_ne (by decide), nvl_35]
  have s42 : S1.1 42 = nI (F + 1) := by rw [hS1]; show va_up (nvl S nv 2 (-1)).1 42 (nI (F + 1)) 42 = _; rw [va_up_at]
  have s2' : ∀ p, p ≠ 43 → S1.2 p = (nvl S nv 2 (-1)).2 p := fun p hp => by rw [hS1]; exact cp_up_ne hp
  have s2 : ∀ p, p ≠ 43 → (p < 52 ∨ 55 < p) → S1.2 p = S.2 p := fun p hp hq => by rw [s2' p hp, nvl_2 hq]
  have s43 : ∀ x, S1.2 43 x = if x = a - rf then nI nv else S.2 43 x := fun x => by
    rw [hS1]
    show va_up (nvl S nv 2 (-1)).2 43 (upd ((nvl S nv 2 (-1)).2 43) (a - rf) (nI nv)) 43 x = _
    rw [va_up_at]
    by_cases hx : x = a - rf
    · rw [if_pos hx, hx, pk_us]
    · rw [if_neg hx, pk_un hx, nvl_2 (by omega)]
  have slo : ∀ p, 52 ≤ p → p ≤ 55 → ∀ r, r < nv → S1.2 p r = S.2 p r := fun p p1 p2 r hr => by rw [s2' p (by omega)]; exact nvl_lo hr p1 p2
  have na := nvl_at (S := S) (nv := nv) (x := 2) (z := -1)
  have V1 : VI (rat (mks K 4 (-1)) 7) (rsz K 7) S1.2 nv nc ρ hl C := V.grow hh lo (Nat.le_refl _) (by omega) slo (fun t _ => by rw [s2 56 (by decide) (by omega)]) (Nat.le_refl _) V.2.2.2.2.2.1 (Nat.le_refl _) V.2.2.2.2.2.2.1
  have V2 := V1.hole hh (by omega) g0 g1 g2 (by omega) (by rw [s2' 52 (by decide)]; exact na.1) (by rw [s2' 53 (by decide)]; exact na.2.1) (by rw [s2' 55 (by decide)]; exact na.2.2.2)
  rw [← k7] at V2
  have A1 : AR ar (rat (mks K 4 (-1)) 7) (fun x y => ρ x y ∨ (x = rsz K 7 ∧ y = nv)) := AR.num V hA lo (by rw [g0]; decide) (fun e => absurd (g0.symm.trans e) (by decide))
  have bk : BK S.2 S1.2 := fun p hp => s2 p (by omega) (by omega)
  have T1 : TPO ar rf pl (lev + 1) n n K S ρ nv nc hl C F L (mks K 4 (-1)) S1 (fun x y => ρ x y ∨ (x = rsz K 7 ∧ y = nv)) (nv + 1) nc (rsz K 7 :: hl) C (F + 1) (fun p x v r => L p x v r ∨ (p = p4 ∧ x = a ∧ v = rsz K 7 ∧ r = nv)) := by
    refine ⟨⟨⟨⟨V2, fun h hm => ?_, A1⟩, ⟨s35, by rw [s1 40 (by decide) (by decide)]; exact h40⟩, by rw [(kf.2.2.1 9 (by decide)).1]; exact h9, by rw [(kf.2.2.1 11 (by decide)).1]; exact h11⟩, s42, ⟨fun p x v r w => ?_, fun p x v r p' v' r' w w' => ?_⟩, ⟨fun h hm => ?_, fun h hm h' hm' => ?_⟩⟩, ⟨fun _ _ w => Or.inl w, fun _ _ _ _ w => Or.inl w, by omega, fun j hj _ => lo j hj, fun h hm => ?_, fun h hm => List.mem_cons_of_mem _ hm⟩, ⟨by omega, Nat.le_refl _, by omega, fun e => by omega⟩, ⟨fun w => ?_, Or.inr (s1 61 (by decide) (by decide))⟩, KX.of kf (by decide), ⟨fun k hk => s1 k (fun e => hk (by rw [e]; decide)) (fun e => hk (by rw [e]; decide)), fun p hp => s2 p (by omega) (by omega), fun x _ => by rw [s2 63 (by decide) (by omega)], fun p p1 p2 x _ => by rw [s2 p (by omega) (by omega)]⟩, ⟨by rw [(kf.2.2.1 15 (by decide)).1]; exact hB.1, by rw [(kf.2.2.1 17 (by decide)).1]; exact hB.2.1, by rw [(kf.2.2.1 19 (by decide)).1]; exact hB.2.2⟩, fun q' hq x hx => ?_⟩
    · rw [k7]
      rcases List.mem_cons.mp hm with rfl | hm
      · omega
      · have := hh h hm; omega
    · rcases w with w | ⟨rfl, rfl, rfl, rfl⟩
      · obtain ⟨z1, z2, z3, z4, z5, z6, z7, z8⟩ := hs.1 p x v r w
        have := hLa p x v r w
        exact ⟨z1, Or.inl z2, z3, z4, by rw [s1 20 (by decide) (by decide)]; exact z5, z6, z7, by rw [s43, if_neg (by omega)]; exact z8⟩
      · exact ⟨hpl, Or.inr ⟨rfl, rfl⟩, by omega, by omega, by rw [s1 20 (by decide) (by decide)]; exact p20, f1, f2, by rw [s43, if_pos rfl]⟩
    · rcases w with w | ⟨rfl, rfl, rfl, rfl⟩
      · rcases w' with w' | ⟨rfl, rfl, rfl, rfl⟩
        · exact hs.2 p x v r p' v' r' w w'
        · have := hLa _ _ _ _ w; omega
      · rcases w' with w' | ⟨rfl, -, rfl, rfl⟩
        · have := hLa _ _ _ _ w'; omega
        · exact ⟨rfl, rfl⟩
    · rcases List.mem_cons.mp hm with rfl | hm
      · exact g0
      · rw [lo h (by have := hh h hm; omega)]; exact hd4.1 h hm
    · rcases List.mem_cons.mp hm with rfl | hm
      · rcases List.mem_cons.mp hm' with rfl | hm'
        · exact Or.inl rfl
        · exact Or.inr (Or.inr (hh _ hm'))
      · rcases List.mem_cons.mp hm' with rfl | hm'
        · exact Or.inr (Or.inl (hh _ hm))
        · exact hd4.2 h hm h' hm'
    · rcases List.mem_cons.mp hm with rfl | hm
      · exact Or.inr (Nat.le_refl _)
      · exact Or.inl hm
    · rw [mks_i, s1 60 (by decide) (by decide)]; exact w
    · rw [(kf.2.2.1 q' (by simp only [List.mem_cons, List.not_mem_nil, or_false]; omega)).2]
  have nk1 := kf.nk
  have st1 : TST ar rf pl nE n (mks K 4 (-1)) S1 _ (nv + 1) nc (rsz K 7 :: hl) C (F + 1) _ := st.mv T1 (by omega) (by rw [List.length_cons]; omega) (Nat.le_refl _)
  have ht1 : TR (mks K 4 (-1)) S1.2 pl (kh + 1) p4 a (a + 1) := TR.nk nk1 (bk 39 (by omega)) (bk 40 (by omega)) (bk 41 (by omega)) _ _ _ _ ht
  have ct1 : CTX (mks K 4 (-1)) (rsz K 7 :: hl) nE (fun p x v r => L p x v r ∨ (p = p4 ∧ x = a ∧ v = rsz K 7 ∧ r = nv)) (kh + 1) p4 (rsz K 7) := Or.inr (Or.inl ⟨by rw [mks_i]; exact h4, a, nv, Or.inr ⟨rfl, rfl, rfl, rfl⟩⟩)
  have va1 : VAL S1 ar (fun p x v r => L p x v r ∨ (p = p4 ∧ x = a ∧ v = rsz K 7 ∧ r = nv)) a (a + 1) := fun x x1 x2 => by
    have : x = a := by omega
    subst this
    rw [bk 39 (by omega), h39]
    exact ⟨fun _ e => absurd e (by decide), fun _ => ⟨p4, rsz K 7, nv, Or.inr ⟨rfl, rfl, rfl, rfl⟩⟩, fun _ _ e => absurd e (by decide)⟩
  have hB1 := T1.2.2.2.2.2.2.1
  have fr1 : FRM (mks K 4 (-1)) frame S1 lev sc (fun x y => ρ x y ∨ (x = rsz K 7 ∧ y = nv)) := fr.mv (fun c v _ w => LU.same hB hB1 T1.2.2.2.2.2.2.2 w) (fun c _ => by rw [s2 63 (by decide) (by omega)]) (fun _ _ w => Or.inl w)
  obtain ⟨S', ρ', nv', nc', m1, m2, m3, m4, ⟨m5, m6, m7, m8⟩, m9⟩ := settle_m st1 (lv.mv T1.2.2.2.2.2.1) (hp.mv nk1 bk) ht1 ct1 (by omega) va1 fr1 hfr ha' hsp (by omega) (by omega) (by omega)
  have e1 : (mks K 4 (-1)).2.1 q 1 = K.2.1 q 1 := by rw [mks_i]
  rw [e1] at m2 m3
  refine ⟨bpush (mks K 4 (-1)) (K.2.1 q 1) (nI (rsz K 7)) (-1), S', ρ', nv', nc', c_T_takeArgument (D := D) ⟨n0, fun hn => absurd h4 hn, fun _ => ⟨hp.1, by show rsz K 7 + 2 < 1048576; omega, ⟨by rw [hB1.1]; show n < 16384; omega, by rw [hB1.2.1]; show n < 16384; omega, by rw [hB1.2.2]; show n < 16384; omega⟩, rfl, rfl⟩⟩, fun start o Sx w => rg_hole lv h34 hnp htn hP44 h39 p20 f1 f2 h35 (by omega) h42 (by rw [← hS1]; exact m1) w, (T1.wk (Nat.le_succ lev) (Nat.le_refl n)).trans m2 (Nat.le_refl _) (Nat.le_refl _) (fun e => by omega), m3, m4, ct1.mv ht1 (by omega) m2, va1.mv m2.2.2.2.2.2.1.bk (m2.2.2.2.2.2.1.2.1 64 (by omega)) (fun _ _ _ _ w => w), by rw [bpush_at17, hB1.2.1, va_up_at], by rw [bpush_sz ⟨by decide, by decide, by decide⟩, k7], ⟨by omega, by omega, by omega, by omega⟩, fun p p1 p2 => by rw [m9 p p1 p2]; exact s2 p (by omega) (by omega)⟩
/-- the end of the parts -/
theorem end_m {D kd p1 p2 p4 z frame c i0 sp np a d m lev1 : Nat} (st : TST ar rf pl nE n K S ρ nv nc hl C F L) (lv : LVL S lev c i0 sp np a) (hlev : lev = lev1 + 1) (h34 : S.2 34 c = nI np) (hnp : np ≤ 6) (n1 : nd K p1 9) (n2 : nd K p2 10) (n3 : nd K (K.2.2.1 p2 4) 9) (hz : K.2.2.1 (K.2.2.1 p2 4) 5 = z) (hr : RES K S.2 ar kd c z sc d) (fr : FRM K frame S lev sc ρ) (hn : frame + m = n) (hn9 : n ≤ 9000) (hm : m ≤ 6) (hnE' : nE ≤ frame) (hk : kd ≤ 40) (hD : 50 ≤ D) (hd : d ≤ 110) (h7 : rsz K 7 < 1040000) (hnv : nv + d < 6000) (hnc : nc + d < 6000) :
    ∃ (K' : cp_K) (S' : cp_S) (ρ' : Nat → Nat → Prop) (nv' nc' x v : Nat) (ts : Int32), JC (D + 8) m_T_typeOfConstant (fun _ => .inl (some (.int (nI x)))) K' 59 (LT p1 p2 frame p4 z) (fun _ => []) K ∧ (∀ start o Sx, JJ 7 m_M_typeOf o Sx 138 [(1, .int start), (2, .int (nI lev1)), (3, .int ts), (4, .int (-1))] S' → RG start lev c o Sx S) ∧ ¬ ts = -1 ∧ TYR K' ρ' x ts ∧ x < rsz K' 7 ∧ TPO ar rf pl lev frame frame K S ρ nv nc hl C F L K' S' ρ' nv' nc' hl C F L ∧ (K'.2.1 24 7 = nI v ∧ v < 2 ^ 31 ∧ SEPv (rat K' 7) (rsz K' 7) hl v ∧ rat K' 7 v = 6 ∧ rat K' 7 (v + 1) = K.2.1 p1 1 ∧ rat K' 7 (v + 2) = nI m ∧ ∀ x, x < m → rat K' 7 (v + 3 + x) = rat K 17 (frame + x)) ∧ (rsz K' 7 ≤ rsz K 7 + 9 * d + 12 ∧ nv ≤ nv' ∧ nv' ≤ nv + d ∧ nc ≤ nc' ∧ nc' ≤ nc + d) ∧ ∀ p, 68 ≤ p → p ≤ 70 → S'.2 p = S.2 p := by
  obtain ⟨⟨st0, h42, hs, hd4⟩, hF, nmS, ⟨hDi, hDc⟩, plf, hB, hnE, h245, h244⟩ := id st
  obtain ⟨l1, l2, l3, l4, l5, l6, l7, l8, l9, l10, l11⟩ := lv
  obtain ⟨q1, q2, hr⟩ := hr
  have main : ∀ (K1 : cp_K) (S1 : cp_S) (ρ1 : Nat → Nat → Prop) (nv1 nc1 x : Nat) (ts : Int32), KC (D + 7) m_T_valueBy (fun G => [.ref (cp_b G + 24), va_rf (kr G (K.2.2.1 z 4)), .int (nI frame)]) K (fun _ => some (.int (nI x))) K1 → TPO ar rf pl (lev + 1) n n K S ρ nv nc hl C F L K1 S1 ρ1 nv1 nc1 hl C F L → KF [7, 15, 17, 19] K K1 → (∀ x, x < rsz K 7 → rat K1 7 x = rat K 7 x) → ¬ ts = -1 → TYR K1 ρ1 x ts → x < rsz K1 7 → ((S.2 35 c = -2 ∧ ts = -2 ∧ S1 = S) ∨ ∃ i r, S.2 35 c = nI i ∧ i < 2720 ∧ ts = nI r ∧ MC 2 m_M_valueOf [.int (nI i), .int (nI lev)] S (some (.int (nI r))) S1) → (rsz K1 7 ≤ rsz K 7 + 9 * d + 3 ∧ nv ≤ nv1 ∧ nv1 ≤ nv + d ∧ nc ≤ nc1 ∧ nc1 ≤ nc + d) → (∀ p, 68 ≤ p → p ≤ 70 → S1.2 p = S.2 p) → (∀ k, k ∉ ([35, 40, 59] : List Nat) → S1.1 k = S.1 k) → (∀ p, (p < 52 ∨ 57 < p) → S1.2 p = S.2 p) → (∀ p, 52 ≤ p → p ≤ 55 → ∀ r, r < nv → S1.2 p r = S.2 p r) → (∀ t, t < nc → S1.2 56 t = S.2 56 t) → ∃ (K' : cp_K) (S' : cp_S) (ρ' : Nat → Nat → Prop) (nv' nc' x v : Nat) (ts : Int32), JC (D + 8) m_T_typeOfConstant (fun _ => .inl (some (.int (nI x)))) K' 59 (LT p1 p2 frame p4 z) (fun _ => []) K ∧ (∀ start o Sx, JJ 7 m_M_typeOf o Sx 138 [(1, .int start), (2, .int (nI lev1)), (3, .int ts), (4, .int (-1))] S' → RG start lev c o Sx S) ∧ ¬ ts = -1 ∧ TYR K' ρ' x ts ∧ x < rsz K' 7 ∧ TPO ar rf pl lev frame frame K S ρ nv nc hl C F L K' S' ρ' nv' nc' hl C F L ∧ (K'.2.1 24 7 = nI v ∧ v < 2 ^ 31 ∧ SEPv (rat K' 7) (rsz K' 7) hl v ∧ rat K' 7 v = 6 ∧ rat K' 7 (v + 1) = K.2.1 p1 1 ∧ rat K' 7 (v + 2) = nI m ∧ ∀ x, x < m → rat K' 7 (v + 3 + x) = rat K 17 (frame + x)) ∧ (rsz K' 7 ≤ rsz K 7 + 9 * d + 12 ∧ nv ≤ nv' ∧ nv' ≤ nv + d ∧ nc ≤ nc' ∧ nc' ≤ nc + d) ∧ ∀ p, 68 ≤ p → p ≤ 70 → S'.2 p = S.2 p := by
    intro K1 S1 ρ1 nv1 nc1 x ts kv T1 kf1 lo1 hts ty hx href hb hhi hs1 hs2 hs5 hs6
    have hB1 := T1.2.2.2.2.2.2.1
    obtain ⟨⟨V1, hh1, hA1⟩, ⟨b35, b40⟩, b9, b11⟩ := T1.1.1
    obtain ⟨K2, k1, k2, k3, k4, k5, k6, k8, k9⟩ := K_makeConstant (K := K1) (x1 := K1.2.1 p1 1) hB1 (by omega) hn (by omega)
    have hB2 : BS (kI K2 24 7 (nI (rsz K1 7))) n := ⟨(k1.2.2.1 15 (by decide)).1.trans hB1.1, (k1.2.2.1 17 (by decide)).1.trans hB1.2.1, (k1.2.2.1 19 (by decide)).1.trans hB1.2.2⟩
    obtain ⟨K3, hK3⟩ : ∃ K3 : cp_K, K3 = bcut (kI K2 24 7 (nI (rsz K1 7))) (nI frame) := ⟨_, rfl⟩
    have kc3 : KF [15, 17, 19] (kI K2 24 7 (nI (rsz K1 7))) K3 := by rw [hK3]; exact KF.bcut
    have hB3 : BS K3 frame := by rw [hK3]; exact bcut_BS hB2 (by omega) (by omega)
    have r3 : ∀ q, rat K3 q = rat K2 q := fun q => by rw [hK3, bcut_at]; rfl
    have z3 : ∀ q, q ≠ 15 → q ≠ 17 → q ≠ 19 → rsz K3 q = rsz K2 q := fun q a1 a2 a3 => by
      have := (kc3.2.2.1 q (by simp only [List.mem_cons, List.not_mem_nil, or_false]; omega)).1
      exact this
    have z37 : rsz K3 7 = rsz K1 7 + 3 + m := by rw [z3 7 (by decide) (by decide) (by decide), k2]
    have lo3 : ∀ x, x < rsz K1 7 → rat K3 7 x = rat K1 7 x := fun x hx => by rw [r3]; exact k3 x hx
    have i3 : K3.2.1 = (kI K2 24 7 (nI (rsz K1 7))).2.1 := kc3.1
    have kx3 : KX K K3 := (((KX.of kf1 (by decide)).trans (KX.of k1 (by decide))).trans (KX.put (p := 24) (k := 7) (Or.inr ⟨rfl, by decide, by decide⟩))).trans (KX.of kc3 (by decide))
    have nk1 := kf1.nk
    have rowE : ∀ q, q = 15 ∨ q = 17 ∨ q = 19 → ∀ x, x < n → rat K3 q x = rat K q x := fun q hq x hx => by
      rw [r3, (k1.2.2.1 q (by simp only [List.mem_cons, List.not_mem_nil, or_false]; omega)).2]
      exact T1.2.2.2.2.2.2.2 q hq x hx
    have V3 : VI (rat K3 7) (rsz K3 7) S1.2 nv1 nc1 ρ1 hl C := V1.grow hh1 lo3 (by omega) (by omega) (fun _ _ _ _ _ => rfl) (fun _ _ => rfl) (Nat.le_refl _) V1.2.2.2.2.2.1 (Nat.le_refl _) V1.2.2.2.2.2.2.1
    have T3 : TPO ar rf pl lev frame frame K S ρ nv nc hl C F L K3 S1 ρ1 nv1 nc1 hl C F L := TPO.ev hs hd4 st0.1.2.1 h42 ⟨⟨V3, fun h hm => by have := hh1 h hm; omega, AR.up V1 hA1 lo3⟩, ⟨b35, b40⟩, by rw [z3 9 (by decide) (by decide) (by decide), (k1.2.2.1 9 (by decide)).1]; exact b9, by rw [z3 11 (by decide) (by decide) (by decide), (k1.2.2.1 11 (by decide)).1]; exact b11⟩ T1.2.1.1 kx3 (by rw [i3, kI_i, cp_up_ne (by decide), k1.1, kf1.1]) hB3 (fun q hq x hx => rowE q hq x (by omega)) (by have := T1.2.1.2.2.1; omega) (fun x hx => by rw [lo3 x (by have := T1.2.1.2.2.1; omega)]; exact lo1 x hx) hs1 (fun p hp => hs2 p (by omega)) (fun x _ => by rw [hs2 63 (by omega)]) (fun p p1 p2 x _ => by rw [hs2 p (by omega)]) hs5 hs6
    refine ⟨K3, S1, ρ1, nv1, nc1, x, rsz K1 7, ts, ?_, fun start o Sx w => rg_end l1 l2 l3 l4 l6 hlev l11 h34 hnp href w, hts, ?_, by omega, T3, ⟨?_, by omega, ⟨?_, fun h hm => Or.inl (by have := hh1 h hm; omega)⟩, by rw [r3]; exact k4, by rw [r3, k5, kf1.1], by rw [r3]; exact k6, fun x hx => ?_⟩, ⟨by omega, hb.2⟩, hhi⟩
    · have g186 : JC (D + 8) m_T_typeOfConstant (fun _ => .inl (some (.int (nI x)))) K3 186 (LT p1 p2 frame p4 z) (fun _ => []) K := by
        refine b_T_typeOfConstant_186 ⟨n2, n3, by rw [hz]; exact q1, nI x, K1, by rw [hz]; exact kv, nk1.2.2 _ _ n1, nI (rsz K1 7), K2, k9.mono (by omega), rfl, hK3⟩
      exact b_T_typeOfConstant_59 ⟨fun _ => g186, fun _ => ⟨n2, n3, fun _ => g186, fun hne => absurd hz.symm hne⟩⟩
    · rcases ty with ⟨w1, w2, w3, w4⟩ | ⟨r, w1, w2⟩
      · exact Or.inl ⟨w1, by rw [lo3 x hx]; exact w2, by rw [lo3 (x + 2) (by omega)]; exact w3, by omega⟩
      · exact Or.inr ⟨r, w1, w2⟩
    · rw [i3, kI_i, va_up_at, va_up_at]
    · unfold ext
      rw [r3, k6, nI_clamp (by omega)]
      omega
    · rw [r3, k8 x hx]
      exact T1.2.2.2.2.2.2.2 17 (by decide) _ (by omega)
  rcases hr with ⟨w1, w2⟩ | ⟨ib, jb, w1, hdt, hjb, hdb⟩
  · have kf : KF [7] K (mks K (K.2.1 (K.2.2.1 z 4) 0) (K.2.1 (K.2.2.1 z 4) 1)) := KF.mks
    obtain ⟨Km, hKm⟩ : ∃ Km : cp_K, Km = mks K (K.2.1 (K.2.2.1 z 4) 0) (K.2.1 (K.2.2.1 z 4) 1) := ⟨_, rfl⟩
    rw [← hKm] at kf
    have k7 : rsz Km 7 = rsz K 7 + 3 := by rw [hKm, mks_sz, if_pos rfl]
    have lo : ∀ x, x < rsz K 7 → rat Km 7 x = rat K 7 x := fun x hx => by rw [hKm, mks_at, cp_up_ne (by omega), cp_up_ne (by omega), cp_up_ne (by omega)]
    obtain ⟨⟨V, hh, hA⟩, ⟨h35, h40⟩, h9, h11⟩ := id st0
    have V1 : VI (rat Km 7) (rsz Km 7) S.2 nv nc ρ hl C := V.grow hh lo (by omega) (by omega) (fun _ _ _ _ _ => rfl) (fun _ _ => rfl) (Nat.le_refl _) V.2.2.2.2.2.1 (Nat.le_refl _) V.2.2.2.2.2.2.1
    refine main Km S ρ nv nc (rsz K 7) (-2) ((c_T_valueBy (D := 0) ⟨q2, fun _ => ⟨fun h6 => absurd (w1.symm.trans h6) (by decide), fun _ => ⟨by show rsz K 7 + 2 < 1048576; omega, rfl, hKm⟩⟩, fun h5 => absurd (w1.symm.trans h5) (by decide)⟩).mono (by omega)) (TPO.ev hs hd4 hh h42 ⟨⟨V1, fun h hm => by have := hh h hm; omega, AR.up V hA lo⟩, ⟨h35, h40⟩, by rw [(kf.2.2.1 9 (by decide)).1]; exact h9, by rw [(kf.2.2.1 11 (by decide)).1]; exact h11⟩ (fun _ _ w => w) (KX.of kf (by decide)) (by rw [kf.1]) ⟨by rw [(kf.2.2.1 15 (by decide)).1]; exact hB.1, by rw [(kf.2.2.1 17 (by decide)).1]; exact hB.2.1, by rw [(kf.2.2.1 19 (by decide)).1]; exact hB.2.2⟩ (fun q hq x hx => by rw [(kf.2.2.1 q (by simp only [List.mem_cons, List.not_mem_nil, or_false]; omega)).2]) (by omega) lo (fun _ _ => rfl) (fun _ _ => rfl) (fun _ _ => rfl) (fun _ _ _ _ _ => rfl) (fun _ _ _ _ _ => rfl) (fun _ _ => rfl)) (kf.sub (by decide)) lo (by decide) (Or.inl ⟨rfl, ?_, by rw [hKm, mks_at, va_up_at], by omega⟩) (by omega) (Or.inl ⟨w2, rfl, rfl⟩) ⟨by omega, Nat.le_refl _, by omega, Nat.le_refl _, by omega⟩ (fun _ _ _ => rfl) (fun _ _ => rfl) (fun _ _ => rfl) (fun _ _ _ _ _ => rfl) (fun _ _ => rfl)
    rw [hKm, mks_at, cp_up_ne (by omega), cp_up_ne (by omega), va_up_at]
    exact w1
  · have ltb := hdt.lt
    obtain ⟨v2, r2, K2, S2, ρ2, nv2, nc2, a1, a2, a3, a4, a5, a6, a7, a8, a9⟩ := evd st0 hB (by omega) fr hdt hk l11 hjb (by omega) (by omega) (by omega) (by omega)
    obtain ⟨y1, y2, y3, y4, y5, y6, y7, y8, y9, y10, y11, y12, y13⟩ := id a4
    obtain ⟨c1, c2, c3, c4, c5, c6⟩ := id a1
    have T12 : TPO ar rf pl (lev + 1) n n K S ρ nv nc hl C F L K2 S2 ρ2 nv2 nc2 hl C F L := TPO.ev hs hd4 st0.1.2.1 h42 a9 a8 (KX.of c1 (by decide)) (by rw [c1.1]) c2 (fun q hq x hx => c3 q (by omega) x hx) c4 c6 (fun k hk => y9 k (fun q => hk (by rw [q]; decide)) (fun q => hk (by rw [q]; decide))) (fun p hp => y10 p (by omega)) (fun x _ => by rw [y10 63 (by omega)]) (fun p p1 p2 x _ => by rw [y10 p (by omega)]) y11 y12
    have hv2 := (a9.1.1.1.1 _ _ a7).1
    exact main K2 S2 ρ2 nv2 nc2 v2 (nI r2) (a3.mono (by omega)) T12 c1 c6 (nI_m1 a5) (Or.inr ⟨r2, rfl, a7⟩) (by omega) (Or.inr ⟨ib, r2, w1, by omega, rfl, a6⟩) ⟨by omega, y5, by omega, y7, by omega⟩ (fun p p1 p2 => y10 p (by omega)) (fun k hk => y9 k (fun q => hk (by rw [q]; decide)) (fun q => hk (by rw [q]; decide))) (fun p hp => y10 p (by omega)) y11 y12
end CPHO
