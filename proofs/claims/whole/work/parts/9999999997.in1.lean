/-! ===== programs are looked at: the class ===== -/
/-- the names that are known where the code from i to j stands -/
def INVS (b : Nat → Nat → Int32) (n start i j : Nat) (sc : Nat → Prop) : Prop := (∀ p m e, start ≤ p → p < i → FRMX b p m e → p + 1 + m ≤ i ∧ (e ≤ i ∨ j ≤ e)) ∧ ∀ c, c < 26 → (sc c ↔ (∃ k, k < n ∧ b 71 k = nI c) ∨ ∃ p m e, start ≤ p ∧ p < i ∧ FRMX b p m e ∧ j ≤ e ∧ ∃ t, t < m ∧ b 40 (p + 1 + t) = nI c)
theorem OPS.into {b : Nat → Nat → Int32} {i j p m e : Nat} (h : OPS b i j) (h1 : i ≤ p) (h2 : p < j) (f : FRMX b p m e) : p + 1 + m ≤ j ∧ e ≤ j := by
  obtain ⟨m', e', c, u1, u2, u3, -⟩ := (h p h1 h2).1 f.1
  obtain ⟨v1, v2⟩ := f.uq u1
  omega
section CPIV
variable {b : Nat → Nat → Int32} {n start i j i' : Nat} {sc : Nat → Prop}
theorem INVS.fst (h : INVS b n start i j sc) (h1 : i < i') (h2 : i' ≤ j) : INVS b n start i i' sc := by
  refine ⟨fun p m e p1 p2 f => ?_, fun c hc => (h.2 c hc).trans ⟨fun q => ?_, fun q => ?_⟩⟩
  · have := h.1 p m e p1 p2 f; omega
  · rcases q with q | ⟨p, m, e, p1, p2, f, p3, p4⟩
    · exact Or.inl q
    · exact Or.inr ⟨p, m, e, p1, p2, f, by omega, p4⟩
  · rcases q with q | ⟨p, m, e, p1, p2, f, p3, p4⟩
    · exact Or.inl q
    · have := h.1 p m e p1 p2 f
      exact Or.inr ⟨p, m, e, p1, p2, f, by omega, p4⟩
theorem INVS.snd (h : INVS b n start i j sc) (ho : OPS b i i') (h1 : i ≤ i') (h2 : i' < j) : INVS b n start i' j sc := by
  refine ⟨fun p m e p1 p2 f => ?_, fun c hc => (h.2 c hc).trans ⟨fun q => ?_, fun q => ?_⟩⟩
  · by_cases hp : p < i
    · have := h.1 p m e p1 hp f; omega
    · have := ho.into (by omega) p2 f; omega
  · rcases q with q | ⟨p, m, e, p1, p2, f, p3, p4⟩
    · exact Or.inl q
    · exact Or.inr ⟨p, m, e, p1, by omega, f, p3, p4⟩
  · rcases q with q | ⟨p, m, e, p1, p2, f, p3, p4⟩
    · exact Or.inl q
    · by_cases hp : p < i
      · exact Or.inr ⟨p, m, e, p1, hp, f, p3, p4⟩
      · have := ho.into (by omega) p2 f; omega
/-- the code of a case -/
theorem INVS.case {K : cp_K} {rf q k : Nat} {vs : List Nat} (h : INVS b n start i i' sc) (hp : PTI K b rf q i vs) (hs : start ≤ i) (hsh : SH b k (i + 1 + vs.length) i') (h1 : i + 1 + vs.length < i') : INVS b n start (i + 1 + vs.length) i' (fun c => sc c ∨ c ∈ vs) := by
  have pt : ∀ p, i < p → p < i + 1 + vs.length → ¬ b 39 p = 13 := fun p p1 p2 q => by
    have := (hp.2.2.2.2.2.1 (p - (i + 1)) (by omega)).2.2.2.2.1
    rw [show i + 1 + (p - (i + 1)) = p by omega, q] at this
    exact absurd this (by decide)
  have sh := hp.sh (k := 0)
  obtain ⟨-, -, q1, q2, -, q3, -, q4⟩ := hp
  have nmv : ∀ c, c < 26 → (c ∈ vs ↔ ∃ t, t < vs.length ∧ b 40 (i + 1 + t) = nI c) := fun c hc26 => by
    constructor
    · intro hc
      obtain ⟨t, ht, e⟩ := List.getElem_of_mem hc
      exact ⟨t, ht, by rw [(q3 t ht).2.2.2.1, e]⟩
    · rintro ⟨t, ht, e⟩
      have u := (q3 t ht).2.2.2.1
      have u2 := (q3 t ht).2.1
      rw [u] at e
      rw [← (nI_eq (by omega) (by omega)).mp e]; exact List.getElem_mem ht
  have f0 : b 39 i = 13 → FRMX b i vs.length i' := fun e => ⟨e, q2, q1, sh, k, hsh⟩
  have v0 : ¬ b 39 i = 13 → vs = [] := fun e => by
    rcases q4 with ⟨-, -, h⟩ | ⟨-, -, -, h⟩ | ⟨-, h, -⟩
    · exact h
    · exact h
    · exact absurd h e
  refine ⟨fun p m e p1 p2 f => ?_, fun c hc => ⟨fun q => ?_, fun q => ?_⟩⟩
  · by_cases hp : p < i
    · have := h.1 p m e p1 hp f; omega
    · by_cases hp2 : p = i
      · subst hp2
        have := f.uq (f0 f.1); omega
      · exact absurd f.1 (pt p (by omega) p2)
  · rcases q with q | q
    · rcases (h.2 c hc).mp q with q | ⟨p, m, e, p1, p2, f, p3, p4⟩
      · exact Or.inl q
      · exact Or.inr ⟨p, m, e, p1, by omega, f, p3, p4⟩
    · by_cases e : b 39 i = 13
      · exact Or.inr ⟨i, vs.length, i', hs, by omega, f0 e, Nat.le_refl _, (nmv c hc).mp q⟩
      · rw [v0 e] at q; cases q
  · rcases q with q | ⟨p, m, e, p1, p2, f, p3, p4⟩
    · exact Or.inl ((h.2 c hc).mpr (Or.inl q))
    · by_cases hp : p < i
      · exact Or.inl ((h.2 c hc).mpr (Or.inr ⟨p, m, e, p1, hp, f, p3, p4⟩))
      · by_cases hp2 : p = i
        · subst hp2
          have := f.uq (f0 f.1)
          rw [this.1] at p4
          exact Or.inr ((nmv c hc).mpr p4)
        · exact absurd f.1 (pt p (by omega) p2)
/-- a variable -/
theorem INVS.bnd {c : Nat} (h : INVS b n start i (i + 1) sc) (hc : c < 26) (h40 : b 40 i = nI c) : BNDX b n start i ↔ sc c := by
  rw [h.2 c hc]
  constructor
  · rintro (⟨k, k1, k2⟩ | ⟨p, m, e, p1, p2, f, p3, p4, t, t1, t2⟩)
    · exact Or.inl ⟨k, k1, by rw [k2, h40]⟩
    · exact Or.inr ⟨p, m, e, p1, p2, f, by omega, t, t1, by rw [t2, h40]⟩
  · rintro (⟨k, k1, k2⟩ | ⟨p, m, e, p1, p2, f, p3, t, t1, t2⟩)
    · exact Or.inl ⟨k, k1, by rw [k2, h40]⟩
    · exact Or.inr ⟨p, m, e, p1, p2, f, (h.1 p m e p1 p2 f).1, by omega, t, t1, by rw [t2, h40]⟩
end CPIV
/-- what the class finds between i and j -/
def WRES (b : Nat → Nat → Int32) (l n start rf i j : Nat) (r : Int32) : Prop := (r = -1 ∧ ∀ x, i ≤ x → x < j → GDX b l n start x) ∨ ∃ y, i ≤ y ∧ y < j ∧ ¬ GDX b l n start y ∧ (∀ x, i ≤ x → x < y → GDX b l n start x) ∧ r = b 42 (y - rf)
def PLB (b : Nat → Nat → Int32) (rf i j : Nat) : Prop := ∀ y, i ≤ y → y < j → ∃ w, w < 100 ∧ b 42 (y - rf) = nI w
def ICX (K0 : cp_K) (b : Nat → Nat → Int32) (ar : Nat → Nat) (l n pe : Nat) : Prop := DCN K0 b ar ∧ nd K0 pe 10 ∧ K0.2.1 pe 0 = nI (65 + l) ∧ K0.2.1 pe 2 = nI n ∧ l < 26 ∧ n ≤ 4
def IST (K0 K : cp_K) (nn : Nat) (sc : Nat → Prop) : Prop := KF [15, 17, 19] K0 K ∧ BS K nn ∧ ∀ c, c < 26 → (sc c ↔ ∃ x, x < nn ∧ rat K 15 x = nI (97 + c))
def IPO (K K' : cp_K) (nn : Nat) : Prop := KF [15, 17, 19] K K' ∧ BS K' nn ∧ ∀ q, q = 15 ∨ q = 17 ∨ q = 19 → ∀ x, x < nn → rat K' q x = rat K q x
section CPIW
variable {b : Nat → Nat → Int32} {l n start rf i j i' : Nat} {r : Int32} {K0 K K' : cp_K} {nn : Nat} {sc : Nat → Prop}
theorem WRES.ext (h : WRES b l n start rf i i' r) (hr : ¬ r = -1) (h2 : i' ≤ j) : WRES b l n start rf i j r := by
  rcases h with ⟨h, -⟩ | ⟨y, y1, y2, y3, y4, y5⟩
  · exact absurd h hr
  · exact Or.inr ⟨y, y1, by omega, y3, y4, y5⟩
theorem WRES.join (h : ∀ x, i ≤ x → x < i' → GDX b l n start x) (g : WRES b l n start rf i' j r) (h1 : i ≤ i') : WRES b l n start rf i j r := by
  rcases g with ⟨g1, g2⟩ | ⟨y, y1, y2, y3, y4, y5⟩
  · refine Or.inl ⟨g1, fun x x1 x2 => ?_⟩
    by_cases e : x < i'
    · exact h x x1 e
    · exact g2 x (by omega) x2
  · refine Or.inr ⟨y, by omega, y2, y3, fun x x1 x2 => ?_, y5⟩
    by_cases e : x < i'
    · exact h x x1 e
    · exact y4 x (by omega) x2
theorem WRES.good (h : WRES b l n start rf i j (-1)) (hp : PLB b rf i j) : ∀ x, i ≤ x → x < j → GDX b l n start x := by
  rcases h with ⟨-, h⟩ | ⟨y, y1, y2, -, -, y5⟩
  · exact h
  · obtain ⟨w, w1, w2⟩ := hp y y1 y2
    rw [w2] at y5
    exact absurd y5.symm (nI_m1 (by omega))
theorem IPO.refl (h : BS K nn) : IPO K K nn := ⟨KF.refl, h, fun _ _ _ _ => rfl⟩
theorem IPO.trans {K1 K2 : cp_K} (h : IPO K K1 nn) (g : IPO K1 K2 nn) : IPO K K2 nn := ⟨h.1.trans g.1, g.2.1, fun q hq x hx => (g.2.2 q hq x hx).trans (h.2.2 q hq x hx)⟩
theorem IST.mv (h : IST K0 K nn sc) (g : IPO K K' nn) : IST K0 K' nn sc := by
  refine ⟨h.1.trans g.1, g.2.1, fun c hc => (h.2.2 c hc).trans ⟨?_, ?_⟩⟩
  · rintro ⟨x, x1, x2⟩
    exact ⟨x, x1, by rw [g.2.2 15 (Or.inl rfl) x x1]; exact x2⟩
  · rintro ⟨x, x1, x2⟩
    exact ⟨x, x1, by rw [← g.2.2 15 (Or.inl rfl) x x1]; exact x2⟩
abbrev LW3 (p1 pe q : Nat) : cp_G → List (Nat × Value) := fun G => [(0, .ref (cp_b G + 25)), (1, va_rf (kr G p1)), (2, va_rf (kr G pe)), (3, va_rf (kr G q))]
abbrev KWI (D : Nat) (q pe : Nat) (K : cp_K) (r : Int32) (K' : cp_K) : Prop := KC D m_I_wrongIn (fun G => [.ref (cp_b G + 25), va_rf (kr G q), va_rf (kr G pe)]) K (fun _ => some (.int r)) K'
theorem lp80 {D p1 pe q : Nat} {r1 : Int32} {T1 : cp_K} (h : KWI (D + 7) q pe K r1 T1) (hq : ¬ q = 0) (hn : nd T1 q 9) (w1 : r1 = -1 → JC (D + 8) m_I_wrongIn (fun _ => .inl (some (.int r))) K' 80 (LW3 p1 pe (T1.2.2.1 q 6)) (fun _ => []) T1) (w0 : ¬ r1 = -1 → r = r1 ∧ K' = T1) : JC (D + 8) m_I_wrongIn (fun _ => .inl (some (.int r))) K' 80 (LW3 p1 pe q) (fun _ => []) K := b_I_wrongIn_80 (D := D) ⟨fun e => absurd e hq, fun _ => ⟨r1, T1, h, fun e => ⟨hn, w1 e⟩, fun e => by obtain ⟨e1, e2⟩ := w0 e; rw [e1, e2]; exact ⟨rfl, rfl⟩⟩⟩
/-- one code after the other -/
theorem wrg_ch {k D p1 pe : Nat} {R : Nat → Nat → Nat → Prop} (hlt : ∀ q i j, R q i j → i < j) (hops : ∀ q i j, R q i j → OPS b i j) (ih : ∀ (q i j : Nat) (K : cp_K) (nn : Nat) (sc : Nat → Prop), R q i j → IST K0 K nn sc → nn + 6 * k ≤ 1000 → INVS b n start i j sc → PLB b rf i j → ∃ r K', KWI (D + 7) q pe K r K' ∧ IPO K K' nn ∧ WRES b l n start rf i j r) : ∀ (m q i j : Nat) (K : cp_K) (nn : Nat) (sc : Nat → Prop), CHN R K0 m q i j → IST K0 K nn sc → nn + 6 * k ≤ 1000 → (0 < m → INVS b n start i j sc) → PLB b rf i j → ∃ r K', JC (D + 8) m_I_wrongIn (fun _ => .inl (some (.int r))) K' 80 (LW3 p1 pe q) (fun _ => []) K ∧ IPO K K' nn ∧ WRES b l n start rf i j r
  | 0, q, i, j, K, nn, sc, h, st, _, _, _ => by
    obtain ⟨rfl, rfl⟩ := h
    exact ⟨-1, K, b_I_wrongIn_80 (D := D) ⟨fun _ => ⟨rfl, rfl⟩, fun e => absurd rfl e⟩, IPO.refl st.2.1, Or.inl ⟨rfl, fun x x1 x2 => by omega⟩⟩
  | m + 1, q, i, j, K, nn, sc, h, st, hn, hi, hp => by
    obtain ⟨h0, i1, h1, h2⟩ := h
    have inv := hi (by omega)
    have lt := hlt _ _ _ h1
    have le : i1 ≤ j ∧ (0 < m → i1 < j) := by
      cases m with
      | zero => obtain ⟨-, e⟩ := h2; omega
      | succ m =>
        have := SHL_le (R := fun i j => i < j) (fun _ _ h => h) (m + 1) i1 j (CHN_SHL (fun q i j h => hlt q i j h) _ _ _ _ h2)
        omega
    obtain ⟨r1, T1, a1, a2, a3⟩ := ih q i i1 K nn sc h1 st hn (inv.fst lt le.1) (fun y y1 y2 => hp y y1 (by omega))
    have nq : nd T1 q 9 := a2.1.nd (st.1.nd h0)
    by_cases e : r1 = -1
    · subst e
      have gd := a3.good (fun y y1 y2 => hp y y1 (by omega))
      obtain ⟨r, K', c1, c2, c3⟩ := wrg_ch (p1 := p1) hlt hops ih m (K0.2.2.1 q 6) i1 j T1 nn sc h2 (st.mv a2) hn (fun hm => inv.snd (hops _ _ _ h1) (by omega) (le.2 hm)) (fun y y1 y2 => hp y (by omega) y2)
      refine ⟨r, K', lp80 a1 (by have := h0.1; omega) nq (fun _ => ?_) (fun e => absurd rfl e), a2.trans c2, WRES.join gd c3 (by omega)⟩
      rw [a2.1.2.1, st.1.2.1]; exact c1
    · exact ⟨r1, T1, lp80 a1 (by have := h0.1; omega) nq (fun e' => absurd e' e) (fun _ => ⟨rfl, rfl⟩), a2, a3.ext e le.1⟩
/-- the variables of a pattern are known -/
theorem wc_push {D p1 pe p3 x0 : Nat} : ∀ (vs : List Nat) (q x : Nat) (K : cp_K) (nn p5 : Nat), VCI K0 b vs q x → p5 = (if vs.length = 0 then 0 else q) → KF [15, 17, 19] K0 K → BS K nn → nn + vs.length ≤ 2000 → ∃ K1, KF [15, 17, 19] K K1 ∧ BS K1 (nn + vs.length) ∧ (∀ q, q = 15 ∨ q = 17 ∨ q = 19 → ∀ x, x < nn → rat K1 q x = rat K q x) ∧ (∀ t (h : t < vs.length), rat K1 15 (nn + t) = nI (97 + vs[t])) ∧ ∀ (o : cp_G → cp_O) (K' : cp_K), JC (D + 8) m_I_wrongInCase o K' 45 (fun G => [(0, .ref (cp_b G + 25)), (1, va_rf (kr G p1)), (2, va_rf (kr G pe)), (3, va_rf (kr G p3)), (4, .int (nI x0)), (5, va_rf (kr G 0))]) (fun _ => []) K1 → JC (D + 8) m_I_wrongInCase o K' 45 (fun G => [(0, .ref (cp_b G + 25)), (1, va_rf (kr G p1)), (2, va_rf (kr G pe)), (3, va_rf (kr G p3)), (4, .int (nI x0)), (5, va_rf (kr G p5))]) (fun _ => []) K
  | [], q, x, K, nn, p5, h, hp5, kf, hB, hn => by
    have : p5 = 0 := by rw [hp5]; rfl
    subst this
    exact ⟨K, KF.refl, hB, fun _ _ _ _ => rfl, fun t h => absurd h (by simp), fun o K' w => w⟩
  | c :: vs, q, x, K, nn, p5, h, hp5, kf, hB, hn => by
    obtain ⟨h1, h2, h3, -, -, h6⟩ := h 0 (by simp)
    rw [Nat.add_zero] at h1 h3 h6
    rw [List.length_cons] at hn h6
    have e5 : p5 = q := by rw [hp5, List.length_cons, if_neg (by omega)]
    subst e5
    have i1 : K.2.1 p5 1 = nI (97 + c) := by rw [kf.1]; exact h3
    have kb : KF [15, 17, 19] K (bpush K (K.2.1 p5 1) (-1) (-1)) := KF.bpush
    obtain ⟨K1, a1, a2, a3, a4, a5⟩ := wc_push (D := D) (p1 := p1) (pe := pe) (p3 := p3) (x0 := x0) vs (p5 + 1) (x + 1) (bpush K (K.2.1 p5 1) (-1) (-1)) (nn + 1) (if 0 + 1 = vs.length + 1 then 0 else p5 + 1) (fun t ht => by
      obtain ⟨u1, u2, u3, u4, u5, u6⟩ := h (t + 1) (by rw [List.length_cons]; omega)
      rw [show p5 + (t + 1) = p5 + 1 + t by omega] at u1 u3 u6
      rw [show x + (t + 1) = x + 1 + t by omega] at u4 u5
      refine ⟨u1, u2, u3, u4, u5, ?_⟩
      rw [u6, List.length_cons]
      by_cases e : t + 1 = vs.length
      · rw [if_pos e, if_pos (by omega)]
      · rw [if_neg e, if_neg (by omega)]) (by
      by_cases e : vs.length = 0
      · rw [if_pos e, if_pos (by omega)]
      · rw [if_neg e, if_neg (by omega)]) (kf.trans kb) hB.push (by omega)
    have lim : rsz K 15 < k_lim 15 ∧ rsz K 17 < k_lim 17 ∧ rsz K 19 < k_lim 19 := by
      obtain ⟨s1, s2, s3⟩ := hB
      rw [s1, s2, s3]
      unfold k_lim
      simp
      omega
    refine ⟨K1, kb.trans a1, by rw [List.length_cons, show nn + (vs.length + 1) = nn + 1 + vs.length by omega]; exact a2, fun g hg y hy => ?_, fun t ht => ?_, fun o K' w => b_I_wrongInCase_45 (D := D) ⟨fun e => absurd e (by have := h1.1; omega), fun _ => ⟨kf.nd h1, lim, ?_⟩⟩⟩
    · rw [a3 g hg y (by omega)]
      obtain ⟨s1, s2, s3⟩ := hB
      rcases hg with rfl | rfl | rfl
      · rw [bpush_at15, cp_up_ne (by omega)]
      · rw [bpush_at17, cp_up_ne (by omega)]
      · rw [bpush_at19, cp_up_ne (by omega)]
    · cases t with
      | zero =>
        show rat K1 15 (nn + 0) = nI (97 + c)
        rw [Nat.add_zero, a3 15 (Or.inl rfl) nn (by omega), bpush_at15, show rsz K 15 = nn from hB.1, va_up_at]; exact i1
      | succ t =>
        have := a4 t (by rw [List.length_cons] at ht; omega)
        rw [show nn + (t + 1) = nn + 1 + t by omega]; exact this
    · have e6 : (bpush K (K.2.1 p5 1) (-1) (-1)).2.2.1 p5 6 = (if 0 + 1 = vs.length + 1 then 0 else p5 + 1) := by
        rw [bpush_r, kf.2.1, h6]
      rw [e6]; exact a5 o K' w
end CPIW
