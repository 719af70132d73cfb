/-! ===== running: a sub-code ===== -/
section CPWC
variable {ar : Nat → Nat} {hl : List Nat} {C : Nat} {K Kc : cp_K} {S Sc : cp_S} {ρ ρc : Nat → Nat → Prop} {nv nc nvc ncc e w wc B Bc n n1 c1 i s frame db : Nat} {y : Int32}
/-- in the middle of a code: from K, S (before it was entered) to Kc, Sc; the frame e stands on top, in the state s -/
def MID (ar : Nat → Nat) (hl : List Nat) (C : Nat) (K : cp_K) (S : cp_S) (ρ : Nat → Nat → Prop) (nv nc e w B n : Nat) (Kc : cp_K) (Sc : cp_S) (ρc : Nat → Nat → Prop) (nvc ncc wc Bc n1 c1 i s : Nat) (y : Int32) (db : Nat) : Prop :=
  WPO ar hl C K S ρ nv nc e w B n Kc Sc ρc nvc ncc wc n1 c1 1 ∧ TOPF Sc e i s y ∧ Sc.1 70 = nI Bc ∧ B ≤ Bc ∧ Bc + 6 * w + db ≤ B + 6 * wc ∧ n ≤ n1 ∧ n1 ≤ n + 14 ∧ w < wc
theorem MID.wst (h : WST ar hl C K S ρ nv nc e w B n) (g : MID ar hl C K S ρ nv nc e w B n Kc Sc ρc nvc ncc wc Bc n1 c1 i s y db) : WST ar hl C Kc Sc ρc nvc ncc (e + 1) wc Bc n1 := WPO.wst h g.1 g.2.1.2.2.2.2.2.1 g.2.1.1 g.2.1.2.1 g.2.2.1 (by have := g.2.2.2.2.1; have := h.2.2.2.2.2.1; omega) g.2.2.2.2.2.2.1
theorem MID.nk (g : MID ar hl C K S ρ nv nc e w B n Kc Sc ρc nvc ncc wc Bc n1 c1 i s y db) : NK K Kc := KU.nk g.1.2.1.1
theorem MID.bk (g : MID ar hl C K S ρ nv nc e w B n Kc Sc ρc nvc ncc wc Bc n1 c1 i s y db) : BK S.2 Sc.2 := g.1.2.2.2.2.1.bk
/-- the beginning -/
theorem MID.start (h : WST ar hl C K S ρ nv nc e w B n) (hw : w < 100) (he : e < 30) (hi : i < 2720) : MID ar hl C K S ρ nv nc e w B n (kI K 23 3 (nI (w + 1))) (ent S w e (nI i) y) ρ nv nc (w + 1) B n 1 i 0 y 6 := by
  have hW := WPO.one h hw (x := nI i) (y := y) (cc := 1) (dv := 1) (by omega) (by omega)
  obtain ⟨-, ⟨h35, h40, h61, h62, h63, h70⟩, -, b1, b2, b3, -⟩ := h
  obtain ⟨s35, s40, s61, s60, s70, s62, s63⟩ := ent_s (S := S) (w := w) (e := e) (x := nI i) (y := y)
  exact ⟨hW, ent_TOP h63 he hi, s70.trans h70, Nat.le_refl _, by omega, Nat.le_refl _, by omega, by omega⟩
theorem W_child {m : Nat} {y' : Int32} (ih : WIH ar hl C m) (h : WST ar hl C K S ρ nv nc e w B n) (g : MID ar hl C K S ρ nv nc e w B n Kc Sc ρc nvc ncc wc Bc n1 c1 i s y db) (hs : s < 8) (hD : DIC Kc Sc.2 ar) {k q i' j' : Nat} {sc : Nat → Prop} (hC : CR Kc Sc.2 ar k sc q i' j') (hj : j' ≤ 2720) (hE : ENV Kc Sc.2 Bc frame y' sc ρc) (hf : frame ≤ n1) (hm : 100 - w < m + 1) :
    (∃ v r w2 K2 S1 S3 ρ2 nv2 nc2 B2, KC (WD wc) m_U_work (fun G => [.ref (cp_b G + 23), va_rf (kr G q), .int (nI (e + 2)), .int (nI frame)]) Kc (fun _ => some (.int (nI v))) K2 ∧ MC 0 m_M_enter [.int (nI i'), .int y'] Sc none S1 ∧ (∀ x1 x2 o Sx, LPR x1 x2 o Sx S3 → LPR x1 x2 o Sx S1) ∧ MID ar hl C K S ρ nv nc e w B n K2 S3 ρ2 nv2 nc2 w2 B2 n1 (c1 + 1) i (s + 1) y db ∧ WPO ar hl C Kc Sc ρc nvc ncc e wc Bc n1 K2 S3 ρ2 nv2 nc2 w2 n1 1 0 ∧ S3.2 75 (8 * e + s) = nI r ∧ (∀ t, t < s → S3.2 75 (8 * e + t) = Sc.2 75 (8 * e + t)) ∧ ρ2 v r ∧ v < 2 ^ 31 ∧ (∀ x y, ρc x y → ρ2 x y) ∧ Bc ≤ B2) ∨
    (∃ w2 K2 S1 S2 ρ2 nv2 nc2 n2, KC (WD wc) m_U_work (fun G => [.ref (cp_b G + 23), va_rf (kr G q), .int (nI (e + 2)), .int (nI frame)]) Kc (fun _ => some (.int (-1))) K2 ∧ MC 0 m_M_enter [.int (nI i'), .int y'] Sc none S1 ∧ (∀ x1 x2, LPR x1 x2 (some (.int (-1))) S2 S1) ∧ WPO ar hl C K S ρ nv nc e w B n K2 S2 ρ2 nv2 nc2 w2 n2 0 0 ∧ n ≤ n2 ∧ n2 ≤ 11000) := by
  have hst := MID.wst h g
  have hwc := hst.2.2.2.1
  obtain ⟨g1, g2, g3, g4, g5, g6, g7, g8⟩ := g
  rcases ih Kc Sc ρc nvc ncc (e + 1) wc Bc n1 q frame i' y' k sc j' hst (g2.hf hs) hD hC hj hE hf (by omega) with ⟨v, r, w2, K2, S1, S2, ρ2, nv2, nc2, B2, a1, a2, a3, a4, a5, a6, a7, a8, a9, a10, a11, a12⟩ | ⟨w2, K2, S1, S2, ρ2, nv2, nc2, n2, a1, a2, a3, a4, a5, a6⟩
  · left
    have hh : ∀ h ∈ hl, h + 3 ≤ rsz K2 7 := fun x hx => Nat.le_trans (hst.1.2.1 x hx) a4.2.1.2.2.2.1
    obtain ⟨t1, t2, t3, t4⟩ := sub_top (r := r) g2 hs a4.2.2.2.2.1 a7
    have gv := WPO.giv (s := s) (x := nI r) a4 hh
    refine ⟨v, r, w2, K2, S1, giv S2 e s (nI r), ρ2, nv2, nc2, B2, a1, a2, fun x1 x2 o Sx lp => a3 x1 x2 o Sx (by rw [t1]; exact lp), ⟨g1.trans gv (Nat.le_refl _) g4 g6, t2, by rw [giv_1 (by decide) (by decide)]; exact a8, by omega, by omega, g6, g7, by omega⟩, gv, t3, t4, a11, a12, gv.1.2.2, a9⟩
  · right
    refine ⟨w2, K2, S1, S2, ρ2, nv2, nc2, n2, a1, a2, a3, ?_, by omega, a6⟩
    exact (g1.trans a4 (by omega) g4 g6).less (by omega) (by omega)
/-- workAndLook -/
theorem look_ok {D q : Nat} {x z : Int32} {K2 : cp_K} {f : Nat → Int32} {N : Nat} {a : Nat → Nat → Int32} {v r : Nat} (V : VI f N a nv nc ρ hl C) (hr : ρ v r) (e1 : rat K2 7 = f) (e2 : rsz K2 7 = N) (hv : v < 2 ^ 31) (hD : 20 ≤ D) (k : KC D m_U_work (fun G => [.ref (cp_b G + 23), va_rf (kr G q), .int x, .int z]) K (fun _ => some (.int (nI v))) K2) : KC (D + 1) m_U_workAndLook (fun G => [.ref (cp_b G + 23), va_rf (kr G q), .int x, .int z]) K (fun _ => some (.int (nI (lk f N a ρ v r).1))) K2 := by
  have hl := lk_spec V hr
  have := c_U_workAndLook (D := D - 7) (o := fun _ => some (.int (nI (lk f N a ρ v r).1))) (K' := K2) (K := K) (p1 := q) (x2 := x) (x3 := z) ⟨nI v, K2, k.mono (by omega), fun _ => ⟨_, K2, (hl.2.2.1 K2 e1 e2).mono (by omega), rfl, rfl⟩, fun hn => absurd hn (nI_m1 hv)⟩
  exact this.mono (by omega)
theorem look_f {D q : Nat} {x z : Int32} {K2 : cp_K} (hD : 20 ≤ D) (k : KC D m_U_work (fun G => [.ref (cp_b G + 23), va_rf (kr G q), .int x, .int z]) K (fun _ => some (.int (-1))) K2) : KC (D + 1) m_U_workAndLook (fun G => [.ref (cp_b G + 23), va_rf (kr G q), .int x, .int z]) K (fun _ => some (.int (-1))) K2 := by
  have := c_U_workAndLook (D := D - 7) (o := fun _ => some (.int (-1))) (K' := K2) (K := K) (p1 := q) (x2 := x) (x3 := z) ⟨-1, K2, k.mono (by omega), fun hn => absurd rfl hn, fun _ => ⟨rfl, rfl⟩⟩
  exact this.mono (by omega)
end CPWC
