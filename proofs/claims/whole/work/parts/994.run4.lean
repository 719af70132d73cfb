/-! ===== work: the simple codes ===== -/
section CPWL
variable {ar : Nat → Nat} {hl : List Nat} {C : Nat} {K : cp_K} {S : cp_S} {ρ : Nat → Nat → Prop} {nv nc e w B n p frame i : Nat} {y : Int32}
/-- the state of the frame below -/
def HF (S : cp_S) (e : Nat) : Prop := ∀ e', e = e' + 1 → ∃ s, s < 8 ∧ S.2 73 e' = nI s
theorem WPO.zero (h : WST ar hl C K S ρ nv nc e w B n) : WPO ar hl C K S ρ nv nc e w B n K S ρ nv nc w n 0 0 := by
  obtain ⟨⟨V, hh, hA⟩, ⟨h35, h40, h61, h62, h63, h70⟩, ⟨h23, hB⟩, b1, b2, b3, b4, b5, b6, b7, b8, b9⟩ := h
  refine ⟨⟨V, hA, fun _ _ h => h⟩, ⟨KU.of (rs := []) KF.refl h23 (fun q hq => by cases hq), hB, fun _ _ _ _ => rfl, Nat.le_refl _, by omega, fun _ _ => rfl⟩, ⟨h35, h40, h61, ?_⟩, ⟨Nat.le_refl _, b1, Nat.le_refl _, by omega, Nat.le_refl _, by omega, b8, b9⟩, FRB.refl, fun _ _ _ _ _ => rfl, fun _ _ => rfl⟩
  rw [Nat.sub_self, show nI 0 = 0 from rfl, Int32.add_zero]
theorem W_out (h : WST ar hl C K S ρ nv nc e w B n) (hp : nd K p 9) (ho : w = 100 ∨ e = 30) : WCON ar hl C K S ρ nv nc e w B n p frame i y := by
  have hW := WPO.zero h
  obtain ⟨⟨V, hh, hA⟩, ⟨h35, h40, h61, h62, h63, h70⟩, ⟨h23, hB⟩, b1, b2, b3, b4, b5, b6, b7, b8, b9⟩ := h
  refine Or.inr ⟨w, K, fld S, fld S, ρ, nv, nc, n, (work_out (D := 0) hp h23 b1 b2 ho).mono (by unfold WD; omega), MC_enter_f h61 h62 b1 b2 ho, fun x1 x2 => lp_fail fld_63, hW.fld, Nat.le_refl _, by omega⟩
theorem ent_HF {S : cp_S} {w e : Nat} {x y : Int32} (h : HF S e) : HF (ent S w e x y) e := fun e' he => by
  obtain ⟨s, s1, s2⟩ := h e' he
  exact ⟨s, s1, by rw [ent_lo (by omega) (by omega) (by omega)]; exact s2⟩
theorem W_til (h : WST ar hl C K S ρ nv nc e w B n) (hw : w < 100) (he : e < 30) (hp : nd K p 9) (h1 : K.2.1 p 0 = 13) (h2 : S.2 39 i = 10) (hi : i < 2720) : WCON ar hl C K S ρ nv nc e w B n p frame i y := by
  have hW := WPO.one h hw (x := nI i) (y := y) (cc := 0) (dv := 0) (by omega) (by omega)
  obtain ⟨⟨V, hh, hA⟩, ⟨h35, h40, h61, h62, h63, h70⟩, ⟨h23, hB⟩, b1, b2, b3, b4, b5, b6, b7, b8, b9⟩ := h
  refine Or.inr ⟨w + 1, kI K 23 3 (nI (w + 1)), ent S w e (nI i) y, fld (ent S w e (nI i) y), ρ, nv, nc, n, ?_, MC_enter h61 h62 hw he, fun x1 x2 => lp_tilde (ent_TOP h63 he hi) (by rw [ent_2 (by omega)]; exact h2) (lp_fail fld_63), hW.fld, Nat.le_refl _, by omega⟩
  refine (c_U_work (D := 0) (work_go hp h23 hw he h1 (fun hn => absurd hn (by decide)) (fun hn => absurd hn (by decide)) (fun hn => absurd hn (by decide)) (fun hn => absurd hn (by decide)) (fun hn => absurd hn (by decide)) (fun hn => absurd hn (by decide)) (fun _ => ⟨rfl, rfl⟩) (by decide))).mono (by unfold WD; omega)
theorem W_var (h : WST ar hl C K S ρ nv nc e w B n) (hF : HF S e) (hw : w < 100) (he : e < 30) (hp : nd K p 9) {c : Nat} {sc : Nat → Prop} (h1 : K.2.1 p 0 = 5) (h2 : S.2 39 i = 1) (hc : c < 26) (h3 : K.2.1 p 1 = nI (97 + c)) (h4 : S.2 40 i = nI c) (hsc : sc c) (hE : ENV K S.2 B frame y sc ρ) (hi : i < 2720) : WCON ar hl C K S ρ nv nc e w B n p frame i y := by
  have hW := WPO.one h hw (x := nI i) (y := y) (cc := 1) (dv := 0) (by omega) (by omega)
  obtain ⟨⟨V, hh, hA⟩, ⟨h35, h40, h61, h62, h63, h70⟩, ⟨h23, hB⟩, b1, b2, b3, b4, b5, b6, b7, b8, b9⟩ := h
  obtain ⟨v, r, v1, v2, ⟨nf, x, v3, v4⟩, v5⟩ := hE c hc hsc
  subst v3
  obtain ⟨s35, s40, s61, s60, s70, s62, s63⟩ := ent_s (S := S) (w := w) (e := e) (x := nI i) (y := nI x)
  have hm : MN (ent S w e (nI i) (nI x)).2 B nf x c r := MN.mv (fun p p1 p2 z _ => by rw [ent_2 (by omega)]) (Nat.le_refl _) nf x c r v4
  refine Or.inl ⟨v, r, w + 1, kI K 23 3 (nI (w + 1)), ent S w e (nI i) (nI x), ent S w e (nI i) (nI x), ρ, nv, nc, B, ?_, MC_enter h61 h62 hw he, fun x1 x2 o Sx lp => ?_, hW, by omega, s62, s63.trans h63, s70.trans h70, Nat.le_refl _, by omega, v5, v1⟩
  · refine (c_U_work (D := 1) (work_go hp h23 hw he h1 (fun hn => absurd hn (by decide)) (fun _ => ⟨nI v, _, ?_, rfl, rfl⟩) (fun hn => absurd hn (by decide)) (fun hn => absurd hn (by decide)) (fun hn => absurd hn (by decide)) (fun hn => absurd hn (by decide)) (fun hn => absurd hn (by decide)) (by decide))).mono (by unfold WD; omega)
    rw [h3]
    exact K_valueOf (K := kI K 23 3 (nI (w + 1))) (n := n) v2 hB (by omega)
  · refine lp_var (ent_TOP h63 he hi) (by rw [ent_2 (by omega)]; exact h2) ?_ (MC_GIV s62 (by omega) (ent_HF hF)) lp
    rw [ent_2 (by omega), h4]
    exact MC_mean (by omega) hm
/-- a number is made on both sides -/
theorem num_VI {f f' : Nat → Int32} {N : Nat} {a a' : Nat → Nat → Int32} {z : Int32} (V : VI f N a nv nc ρ hl C) (hh : ∀ h ∈ hl, h + 3 ≤ N) (hN : N + 3 ≤ 1048576) (hnv : nv + 1 ≤ 6000) (hf : ∀ j, j < N → f' j = f j) (g0 : f' N = 1) (g1 : f' (N + 1) = z) (g2 : f' (N + 2) = 0) (hv : ∀ p, 52 ≤ p → p ≤ 55 → ∀ r, r < nv → a' p r = a p r) (hc : a' 56 = a 56) (w0 : a' 52 nv = 0) (w1 : a' 53 nv = z) (w2 : a' 55 nv = 0) : VI f' (N + 3) a' (nv + 1) nc (fun x y => ρ x y ∨ (x = N ∧ y = nv)) hl C := by
  have V1 := V.grow (f' := f') (a' := a') (N' := N + 3) (nv' := nv + 1) (nc' := nc) hh hf (by omega) hN hv (fun t _ => by rw [hc]) (by omega) hnv (Nat.le_refl _) V.2.2.2.2.2.2.1
  have ex : ext f' N = N + 3 := by unfold ext; rw [g2]; rfl
  exact V1.add (Nat.le_refl _) (by omega) (Or.inl ⟨g0, w0, by rw [g1, w1], g2, w2⟩) (by rw [g0]; decide) (by rw [g0]; decide) (fun h hm => Or.inr (Or.inl (by have := hh h hm; omega)))
theorem AR.num {f f' : Nat → Int32} {N nv0 : Nat} {a : Nat → Nat → Int32} (V : VI f N a nv nc ρ hl C) (h : AR ar f ρ) (hf : ∀ j, j < N → f' j = f j) (g0 : ¬ f' N = 6) (g5 : f' N = 5 → ar 26 = 1) : AR ar f' (fun x y => ρ x y ∨ (x = N ∧ y = nv0)) := by
  refine ⟨?_, fun v r hv e => by
    rcases hv with hv | ⟨rfl, rfl⟩
    · have hb := (V.1.1 v r hv).1
      rw [hf v (by omega)] at e
      exact h.2 v r hv e
    · exact g5 e⟩
  intro v r l m hv e1 hl' hm e2 e3
  rcases hv with hv | ⟨rfl, rfl⟩
  · have hb := (V.1.1 v r hv).1
    rw [hf v (by omega)] at e1
    rw [hf _ (by omega)] at e2
    rw [hf _ (by omega)] at e3
    exact h.1 v r l m hv e1 hl' hm e2 e3
  · exact absurd e1 g0
theorem AR.up {f f' : Nat → Int32} {N : Nat} {a : Nat → Nat → Int32} (V : VI f N a nv nc ρ hl C) (h : AR ar f ρ) (hf : ∀ j, j < N → f' j = f j) : AR ar f' ρ := by
  refine ⟨?_, fun v r hv e => h.2 v r hv (by
    have hb := (V.1.1 v r hv).1
    rw [← hf v (by omega)]
    exact e)⟩
  intro v r l m hv e1 hl' hm e2 e3
  have hb := (V.1.1 v r hv).1
  rw [hf v (by omega)] at e1
  rw [hf _ (by omega)] at e2
  rw [hf _ (by omega)] at e3
  exact h.1 v r l m hv e1 hl' hm e2 e3
/-- the reference's state with a new value -/
def nvl (S : cp_S) (nv : Nat) (x z : Int32) : cp_S := (va_up S.1 35 (nI (nv + 1)), va_up (va_up (va_up (va_up S.2 52 (upd (S.2 52) nv x)) 53 (upd (S.2 53) nv z)) 54 (upd (S.2 54) nv (S.1 40))) 55 (upd (S.2 55) nv 0))
theorem nvl_2 {S : cp_S} {nv : Nat} {x z : Int32} {p : Nat} (h : p < 52 ∨ 55 < p) : (nvl S nv x z).2 p = S.2 p := by
  unfold nvl
  simp only [cp_up_ne (show p ≠ 55 by omega), cp_up_ne (show p ≠ 54 by omega), cp_up_ne (show p ≠ 53 by omega), cp_up_ne (show p ≠ 52 by omega)]
theorem nvl_lo {S : cp_S} {nv : Nat} {x z : Int32} {p r : Nat} (h : r < nv) (hp : 52 ≤ p) (hp2 : p ≤ 55) : (nvl S nv x z).2 p r = S.2 p r := by
  unfold nvl
  have hc : p = 52 ∨ p = 53 ∨ p = 54 ∨ p = 55 := by omega
  rcases hc with rfl | rfl | rfl | rfl <;> simp [va_up, pk_un (show r ≠ nv by omega)]
theorem nvl_at {S : cp_S} {nv : Nat} {x z : Int32} : (nvl S nv x z).2 52 nv = x ∧ (nvl S nv x z).2 53 nv = z ∧ (nvl S nv x z).2 54 nv = S.1 40 ∧ (nvl S nv x z).2 55 nv = 0 := by
  unfold nvl
  refine ⟨?_, ?_, ?_, ?_⟩ <;> simp [va_up, pk_us]
theorem nvl_1 {S : cp_S} {nv : Nat} {x z : Int32} {k : Nat} (h : k ≠ 35) : (nvl S nv x z).1 k = S.1 k := by unfold nvl; simp only [cp_up_ne h]
theorem nvl_35 {S : cp_S} {nv : Nat} {x z : Int32} : (nvl S nv x z).1 35 = nI (nv + 1) := by unfold nvl; simp only [va_up_at]
theorem nvl_FRB {S : cp_S} {nv e B : Nat} {x z : Int32} : FRB e B S (nvl S nv x z) := ⟨fun k hk => nvl_1 (fun q => hk (by rw [q]; decide)), fun p hp => nvl_2 (by omega), fun p p1 p2 x _ => by rw [nvl_2 (by omega)], fun x _ => by rw [nvl_2 (by omega)], fun p p1 p2 x _ => by rw [nvl_2 (by omega)]⟩
theorem W_num (h : WST ar hl C K S ρ nv nc e w B n) (hF : HF S e) (hw : w < 100) (he : e < 30) (hp : nd K p 9) (h1 : K.2.1 p 0 = 1) (h2 : S.2 39 i = 2) (h3 : K.2.1 p 1 = S.2 40 i) (hi : i < 2720) : WCON ar hl C K S ρ nv nc e w B n p frame i y := by
  have hW := WPO.one h hw (x := nI i) (y := y) (cc := 1) (dv := 0) (by omega) (by omega)
  obtain ⟨⟨V, hh, hA⟩, ⟨h35, h40, h61, h62, h63, h70⟩, ⟨h23, hB⟩, b1, b2, b3, b4, b5, b6, b7, b8, b9⟩ := h
  obtain ⟨s35, s40, s61, s60, s70, s62, s63⟩ := ent_s (S := S) (w := w) (e := e) (x := nI i) (y := y)
  have km : KF [7] (kI K 23 3 (nI (w + 1))) (mks (kI K 23 3 (nI (w + 1))) 1 (K.2.1 p 1)) := KF.mks
  have ks : rsz (mks (kI K 23 3 (nI (w + 1))) 1 (K.2.1 p 1)) 7 = rsz K 7 + 3 := by rw [mks_sz, if_pos rfl]; rfl
  have ka : rat (mks (kI K 23 3 (nI (w + 1))) 1 (K.2.1 p 1)) 7 = va_up (va_up (va_up (rat K 7) (rsz K 7) 1) (rsz K 7 + 1) (K.2.1 p 1)) (rsz K 7 + 2) 0 := mks_at
  have lo : ∀ j, j < rsz K 7 → rat (mks (kI K 23 3 (nI (w + 1))) 1 (K.2.1 p 1)) 7 j = rat K 7 j := fun j hj => by rw [ka, cp_up_ne (by omega), cp_up_ne (by omega), cp_up_ne (by omega)]
  have p0 : rat (mks (kI K 23 3 (nI (w + 1))) 1 (K.2.1 p 1)) 7 (rsz K 7) = 1 := by rw [ka, cp_up_ne (by omega), cp_up_ne (by omega), va_up_at]
  have p1 : rat (mks (kI K 23 3 (nI (w + 1))) 1 (K.2.1 p 1)) 7 (rsz K 7 + 1) = K.2.1 p 1 := by rw [ka, cp_up_ne (by omega), va_up_at]
  have p2 : rat (mks (kI K 23 3 (nI (w + 1))) 1 (K.2.1 p 1)) 7 (rsz K 7 + 2) = 0 := by rw [ka, va_up_at]
  obtain ⟨q0, q1, q2, q3⟩ := nvl_at (S := ent S w e (nI i) y) (nv := nv) (x := 0) (z := S.2 40 i)
  have V2 := num_VI (a' := (nvl (ent S w e (nI i) y) nv 0 (S.2 40 i)).2) V hh (by omega) (by omega) lo p0 p1 p2 (fun p p1 p2 r hr => by rw [nvl_lo hr p1 p2, ent_2 (by omega)]) (by rw [nvl_2 (by omega), ent_2 (by omega)]) q0 (by rw [q1, h3]) q3
  have MV : MC 0 m_M_value [.int 0, .int ((ent S w e (nI i) y).2 40 i)] (ent S w e (nI i) y) (some (.int (nI nv))) (nvl (ent S w e (nI i) y) nv 0 (S.2 40 i)) := by
    rw [ent_2 (by omega)]
    exact MC_value (s35.trans h35) (by omega)
  refine Or.inl ⟨rsz K 7, nv, w + 1, _, ent S w e (nI i) y, nvl (ent S w e (nI i) y) nv 0 (S.2 40 i), _, nv + 1, nc, B, ?_, MC_enter h61 h62 hw he, fun x1 x2 o Sx lp => ?_, ⟨⟨by rw [ks]; exact V2, AR.num V hA lo (by rw [p0]; decide) (fun e => absurd (p0.symm.trans e) (by decide)), fun _ _ h => Or.inl h⟩, ⟨km.sub (by decide), ⟨?_, ?_, ?_⟩, fun q hq x hx => ?_, by omega, by omega, lo⟩, ⟨nvl_35, ?_, ?_, ?_⟩, ⟨by omega, by omega, by omega, by omega, Nat.le_refl _, by omega, ?_, ?_⟩, hW.2.2.2.2.1.trans nvl_FRB (Nat.le_refl _) (Nat.le_refl _), fun p p1 p2 r hr => ?_, fun t _ => ?_⟩, by omega, ?_, ?_, ?_, Nat.le_refl _, by omega, Or.inr ⟨rfl, rfl⟩, by omega⟩
  · exact (c_U_work (D := 0) (work_go hp h23 hw he h1 (fun _ => ⟨by omega, rfl, rfl⟩) (fun hn => absurd hn (by decide)) (fun hn => absurd hn (by decide)) (fun hn => absurd hn (by decide)) (fun hn => absurd hn (by decide)) (fun hn => absurd hn (by decide)) (fun hn => absurd hn (by decide)) (by decide))).mono (by unfold WD; omega)
  · refine lp_num (ent_TOP h63 he hi) (by rw [ent_2 (by omega)]; exact h2) MV (MC_GIV (by rw [nvl_1 (by decide)]; exact s62) (by omega) (fun e' he' => ?_)) lp
    obtain ⟨s, s1, s2⟩ := ent_HF (w := w) (x := nI i) (y := y) hF e' he'
    exact ⟨s, s1, by rw [nvl_2 (by omega)]; exact s2⟩
  · rw [(km.2.2.1 15 (by decide)).1]; exact hB.1
  · rw [(km.2.2.1 17 (by decide)).1]; exact hB.2.1
  · rw [(km.2.2.1 19 (by decide)).1]; exact hB.2.2
  · have : q ≠ 7 := by omega
    rw [mks_at_ne this]
    rfl
  · rw [nvl_1 (by decide)]; exact s40.trans h40
  · rw [nvl_1 (by decide)]; exact s61
  · rw [nvl_1 (by decide)]; exact s60
  · rw [(km.2.2.1 9 (by decide)).1]; exact b8
  · rw [(km.2.2.1 11 (by decide)).1]; exact b9
  · rw [nvl_lo hr p1 p2, ent_2 (by omega)]
  · rw [nvl_2 (by omega), ent_2 (by omega)]
  · rw [nvl_1 (by decide)]; exact s62
  · rw [nvl_1 (by decide)]; exact s63.trans h63
  · rw [nvl_1 (by decide)]; exact s70.trans h70
end CPWL
