/-! ===== valueBy ===== -/
/-- no holes between i and j, and every variable there has a value -/
def VH (b : Nat → Nat → Int32) (frame : Nat) (E : Nat → Nat → Prop) (K : cp_K) (i j : Nat) : Prop := (∀ x, i ≤ x → x < j → ¬ b 39 x = 4) ∧ ∀ x c, i ≤ x → x < j → b 39 x = 1 → b 40 x = nI c → c < 26 → ∃ v, v < 2 ^ 31 ∧ E c v ∧ LU K frame c v
section CPVB
variable {b : Nat → Nat → Int32} {pl : Nat → Nat → Prop} {hl : List Nat} {frame : Nat} {E : Nat → Nat → Prop}
theorem VH.sub {K : cp_K} {i j i' j' : Nat} (h : VH b frame E K i j) (h1 : i ≤ i') (h2 : j' ≤ j) : VH b frame E K i' j' := ⟨fun x a1 a2 => h.1 x (by omega) (by omega), fun x c a1 a2 => h.2 x c (by omega) (by omega)⟩
theorem VH.mv {K K' : cp_K} {i j : Nat} (h : VH b frame E K i j) (g : ∀ c v, c < 26 → LU K frame c v → LU K' frame c v) : VH b frame E K' i j := ⟨h.1, fun x c a1 a2 a3 a4 a5 => by
  obtain ⟨v, v1, v2, v3⟩ := h.2 x c a1 a2 a3 a4 a5
  exact ⟨v, v1, v2, g c v a5 v3⟩⟩
theorem valCh {k : Nat} {p1 : Nat} (ih : ∀ (p i j : Nat) (K : cp_K) (n : Nat), TR K b pl k p i j → BS K n → n + 7 * k < 16000 → VH b frame E K i j → rsz K 7 + 9 * (j - i) < 1048576 → (∀ h ∈ hl, h + 3 ≤ rsz K 7) → ∃ v K', VBP K K' n (9 * (j - i)) ∧ v < 2 ^ 31 ∧ CT K' (rat K' 7) (rsz K' 7) hl E (fun _ _ => False) k p v ∧ KC (k + 8) m_T_valueBy (fun G => [.ref (cp_b G + 24), va_rf (kr G p), .int (nI frame)]) K (fun _ => some (.int (nI v))) K') :
    ∀ (r q i j : Nat) (K : cp_K) (n m0 : Nat), CHN (TR K b pl k) K r q i j → BS K (n + m0) → r + m0 ≤ 6 → n + 7 * (k + 1) < 16000 → VH b frame E K i j → rsz K 7 + 9 * (j - i) < 1048576 → (∀ h ∈ hl, h + 3 ≤ rsz K 7) →
      ∃ (ws : List Nat) (K1 : cp_K), ws.length = r ∧ CTW (CT K1 (rat K1 7) (rsz K1 7) hl E (fun _ _ => False) k) K1 ws q ∧ KF [7, 15, 17, 19] K K1 ∧ BS K1 (n + m0 + r) ∧ (∀ q, q ≠ 7 → ∀ x, x < n + m0 → rat K1 q x = rat K q x) ∧ rsz K 7 ≤ rsz K1 7 ∧ rsz K1 7 ≤ rsz K 7 + 9 * (j - i) ∧ (∀ x, x < rsz K 7 → rat K1 7 x = rat K 7 x) ∧ (∀ t (ht : t < ws.length), rat K1 17 (n + m0 + t) = nI ws[t]) ∧
        ∀ (o : cp_G → cp_O) (K' : cp_K), JC (k + 9) m_T_valueBy o K' 60 (fun G => [(0, .ref (cp_b G + 24)), (1, va_rf (kr G p1)), (2, .int (nI frame)), (3, .int (nI n)), (4, va_rf (kr G 0))]) (fun _ => []) K1 → JC (k + 9) m_T_valueBy o K' 60 (fun G => [(0, .ref (cp_b G + 24)), (1, va_rf (kr G p1)), (2, .int (nI frame)), (3, .int (nI n)), (4, va_rf (kr G q))]) (fun _ => []) K
  | 0, q, i, j, K, n, m0, h, hB, hr, hn, hV, hN, hh => by
    obtain ⟨rfl, rfl⟩ := h
    exact ⟨[], K, rfl, trivial, KF.refl, hB, fun _ _ _ _ => rfl, Nat.le_refl _, by omega, fun _ _ => rfl, fun t ht => absurd ht (by simp), fun _ _ w => w⟩
  | r + 1, q, i, j, K, n, m0, h, hB, hr, hn, hV, hN, hh => by
    obtain ⟨h0, i', h1, h2⟩ := h
    have lt1 := SH_lt _ _ _ (TR.sh _ _ _ _ h1)
    have lt2 := SHL_le (fun _ _ => SH_lt _ _ _) r i' j (CHN_SHL (TR.sh k) r _ _ _ h2)
    obtain ⟨v, T, t1, t2, t3, t4⟩ := ih q i i' K (n + m0) h1 hB (by omega) (hV.sub (Nat.le_refl _) (by omega)) (by omega) hh
    obtain ⟨a1, a2, a3, a4, a5, a6⟩ := id t1
    have kf2 : KF [7, 15, 17, 19] T (bpush T 0 (nI v) (-1)) := KF.bpush.sub (by decide)
    have kf : KF [7, 15, 17, 19] K (bpush T 0 (nI v) (-1)) := a1.trans kf2
    have b7 : rsz (bpush T 0 (nI v) (-1)) 7 = rsz T 7 ∧ rat (bpush T 0 (nI v) (-1)) 7 = rat T 7 := (KF.bpush (K := T) (a1 := 0) (a2 := nI v) (a3 := -1)).2.2.1 7 (by decide)
    have hq0 : ¬ q = 0 := by have := h0.1; omega
    obtain ⟨ws, K1, c1, c2, c3, c4, c5, c6, c7, c8, c9, c10⟩ := valCh (p1 := p1) ih r (K.2.2.1 q 6) i' j (bpush T 0 (nI v) (-1)) n (m0 + 1) (CHN_mv kf.2.1 (fun p hp => kf.nd hp) (TR.mv kf.1 kf.2.1 (fun p hp => kf.nd hp) k) r _ _ _ h2) a2.push (by omega) hn ((hV.sub (by omega) (Nat.le_refl _)).mv (fun c v hc hl => (t1.lu hB hl).push a2 hc)) (by rw [b7.1]; omega) (fun h hm => by rw [b7.1]; have := hh h hm; omega)
    have e22 : K1.2.2.1 = K.2.2.1 := c3.2.1.trans kf.2.1
    have e21 : K1.2.1 = T.2.1 := c3.1.trans kf2.1
    have a17 : T.2.2.1 = K.2.2.1 := a1.2.1
    refine ⟨v :: ws, K1, by rw [List.length_cons, c1], ⟨t2, ?_, ?_⟩, kf.trans c3, by rw [show n + m0 + (r + 1) = n + (m0 + 1) + r by omega]; exact c4, fun q hq x hx => ?_, by omega, by omega, fun x hx => ?_, fun t ht => ?_, fun o K' w => ?_⟩
    · refine CT.mv e21 (e22.trans a17.symm) (fun j hj _ => ?_) ?_ (fun h hm => Or.inl hm) (fun _ _ x => x) (fun _ _ x => x) k q v t3
      · rw [c8 j (by rw [b7.1]; exact hj), b7.2]
      · rw [← b7.1]; exact c6
    · rw [e22]; exact c2
    · rw [c5 q hq x (by omega)]
      have : rat (bpush T 0 (nI v) (-1)) q x = rat T q x := by
        by_cases q15 : q = 15
        · subst q15; rw [bpush_at15, cp_up_ne (by rw [a2.1]; omega)]
        · by_cases q17 : q = 17
          · subst q17; rw [bpush_at17, cp_up_ne (by rw [a2.2.1]; omega)]
          · by_cases q19 : q = 19
            · subst q19; rw [bpush_at19, cp_up_ne (by rw [a2.2.2]; omega)]
            · rw [((KF.bpush (K := T) (a1 := 0) (a2 := nI v) (a3 := -1)).2.2.1 q (by simp [q15, q17, q19])).2]
      rw [this]
      exact a3 q hq x hx
    · rw [c8 x (by rw [b7.1]; omega), b7.2]
      exact a6 x hx
    · cases t with
      | zero =>
        simp only [List.getElem_cons_zero, Nat.add_zero]
        rw [c5 17 (by decide) (n + m0) (by omega), bpush_at17, a2.2.1, va_up_at]
      | succ t =>
        simp only [List.getElem_cons_succ]
        have := c9 t (by simpa using ht)
        rw [show n + m0 + (t + 1) = n + (m0 + 1) + t by omega]
        exact this
    · have hb1 : rsz T 15 = n + m0 := a2.1
      have hb2 : rsz T 17 = n + m0 := a2.2.1
      have hb3 : rsz T 19 = n + m0 := a2.2.2
      refine b_T_valueBy_60 (D := k + 1) ⟨fun hn => absurd hn hq0, fun _ => ⟨nI v, T, t4, ⟨?_, ?_, ?_⟩, a1.nd h0, ?_⟩⟩
      · rw [hb1]; show n + m0 < 16384; omega
      · rw [hb2]; show n + m0 < 16384; omega
      · rw [hb3]; show n + m0 < 16384; omega
      · have en : (bpush T 0 (nI v) (-1)).2.2.1 q 6 = K.2.2.1 q 6 := by rw [kf.2.1]
        rw [en]
        exact c10 o K' w
theorem valBy : ∀ (k p i j : Nat) (K : cp_K) (n : Nat), TR K b pl k p i j → BS K n → n + 7 * k < 16000 → VH b frame E K i j → rsz K 7 + 9 * (j - i) < 1048576 → (∀ h ∈ hl, h + 3 ≤ rsz K 7) → ∃ v K', VBP K K' n (9 * (j - i)) ∧ v < 2 ^ 31 ∧ CT K' (rat K' 7) (rsz K' 7) hl E (fun _ _ => False) k p v ∧ KC (k + 8) m_T_valueBy (fun G => [.ref (cp_b G + 24), va_rf (kr G p), .int (nI frame)]) K (fun _ => some (.int (nI v))) K'
  | 0, _, _, _, _, _, h, _, _, _, _, _ => h.elim
  | k + 1, p, i, j, K, n, h, hB, hn, hV, hN, hh => by
    have hlt := SH_lt _ _ _ (TR.sh _ _ _ _ h)
    obtain ⟨h0, -, h⟩ := h
    have simp1 : ¬ K.2.1 p 0 = 5 → ¬ K.2.1 p 0 = 6 → VBP K (mks K (K.2.1 p 0) (K.2.1 p 1)) n (9 * (j - i)) ∧ SEPv (rat (mks K (K.2.1 p 0) (K.2.1 p 1)) 7) (rsz (mks K (K.2.1 p 0) (K.2.1 p 1)) 7) hl (rsz K 7) ∧ rat (mks K (K.2.1 p 0) (K.2.1 p 1)) 7 (rsz K 7) = K.2.1 p 0 ∧ rat (mks K (K.2.1 p 0) (K.2.1 p 1)) 7 (rsz K 7 + 1) = K.2.1 p 1 ∧ rat (mks K (K.2.1 p 0) (K.2.1 p 1)) 7 (rsz K 7 + 2) = 0 ∧ KC (k + 1 + 8) m_T_valueBy (fun G => [.ref (cp_b G + 24), va_rf (kr G p), .int (nI frame)]) K (fun _ => some (.int (nI (rsz K 7)))) (mks K (K.2.1 p 0) (K.2.1 p 1)) := by
      intro n5 n6
      have kf : KF [7] K (mks K (K.2.1 p 0) (K.2.1 p 1)) := KF.mks
      have hs : rsz (mks K (K.2.1 p 0) (K.2.1 p 1)) 7 = rsz K 7 + 3 := by rw [mks_sz, if_pos rfl]
      have z2 : rat (mks K (K.2.1 p 0) (K.2.1 p 1)) 7 (rsz K 7 + 2) = 0 := by rw [mks_at, va_up_at]
      have ex : ext (rat (mks K (K.2.1 p 0) (K.2.1 p 1)) 7) (rsz K 7) = rsz K 7 + 3 := by unfold ext; rw [z2]; rfl
      refine ⟨⟨kf.sub (by decide), ⟨?_, ?_, ?_⟩, fun q hq x hx => ?_, by omega, by omega, fun x hx => ?_⟩, ⟨by rw [ex, hs]; exact Nat.le_refl _, fun h hm => Or.inl (by have := hh h hm; omega)⟩, ?_, ?_, z2, c_T_valueBy (D := k + 1) ⟨h0, fun _ => ⟨fun hn => absurd hn n6, fun _ => ⟨by show rsz K 7 + 2 < 1048576; omega, rfl, rfl⟩⟩, fun hn => absurd hn n5⟩⟩
      · rw [(kf.2.2.1 15 (by decide)).1]; exact hB.1
      · rw [(kf.2.2.1 17 (by decide)).1]; exact hB.2.1
      · rw [(kf.2.2.1 19 (by decide)).1]; exact hB.2.2
      · rw [mks_at_ne hq]
      · rw [mks_at, cp_up_ne (by omega), cp_up_ne (by omega), cp_up_ne (by omega)]
      · rw [mks_at, cp_up_ne (by omega), cp_up_ne (by omega), va_up_at]
      · rw [mks_at, cp_up_ne (by omega), va_up_at]
    rcases h with ⟨h1, h2, ⟨c, h3, h4, h5⟩, h6⟩ | ⟨h1, h2, h3, h6⟩ | ⟨h1, h2, h3, h6⟩ | ⟨h1, h2, h3⟩ | ⟨h1, h2, c, m, h3, h4, h5, h6, h7, h8, h9⟩
    · -- a variable
      obtain ⟨v, v1, v2, v3⟩ := hV.2 i c (Nat.le_refl _) hlt h2 h5 h3
      refine ⟨v, K, ⟨KF.refl, hB, fun _ _ _ _ => rfl, Nat.le_refl _, by omega, fun _ _ => rfl⟩, v1, Or.inl ⟨h1, c, h3, h4, v2⟩, c_T_valueBy (D := k + 1) ⟨h0, fun hn => absurd h1 hn, fun _ => ⟨nI v, K, ?_, rfl, rfl⟩⟩⟩
      rw [h4]
      exact (K_valueOf v3 hB (by omega)).mono (by omega)
    · obtain ⟨s1, s2, s3, s4, s5, s6⟩ := simp1 (by rw [h1]; decide) (by rw [h1]; decide)
      refine ⟨rsz K 7, _, s1, by omega, Or.inr (Or.inr ⟨s2, Or.inl ⟨?_, ?_, ?_, s5⟩⟩), s6⟩
      · rw [s1.1.1]; exact h1
      · rw [s3]; exact h1
      · rw [s4, s1.1.1]
    · obtain ⟨s1, s2, s3, s4, s5, s6⟩ := simp1 (by rw [h1]; decide) (by rw [h1]; decide)
      refine ⟨rsz K 7, _, s1, by omega, Or.inr (Or.inr ⟨s2, Or.inr (Or.inl ⟨?_, ?_, ?_, s5⟩)⟩), s6⟩
      · rw [s1.1.1]; exact h1
      · rw [s3]; exact h1
      · rw [s4]; exact h3
    · exact absurd h2 (hV.1 i (Nat.le_refl _) hlt)
    · -- a letter
      have lt2 := SHL_le (fun _ _ => SH_lt _ _ _) m (i + 1) j (CHN_SHL (TR.sh k) m _ _ _ h9)
      obtain ⟨ws, K1, c1, c2, c3, c4, c5, c6, c7, c8, c9, c10⟩ := valCh (p1 := p) (valBy k) m (K.2.2.1 p 4) (i + 1) j K n 0 h9 hB (by omega) (by omega) (hV.sub (by omega) (Nat.le_refl _)) (by omega) hh
      rw [Nat.add_zero] at c4 c5 c9
      obtain ⟨K2, k1, k2, k3, k4, k5, k6, k7, k8⟩ := K_makeConstant (x1 := K.2.1 p 1) (n := n + m) (from0 := n) (m := m) c4 (by omega) rfl (by omega)
      have k15 := k1.2.2.1 15 (by decide)
      have k17 := k1.2.2.1 17 (by decide)
      have k19 := k1.2.2.1 19 (by decide)
      have hB2 : BS K2 (n + m) := ⟨by rw [k15.1]; exact c4.1, by rw [k17.1]; exact c4.2.1, by rw [k19.1]; exact c4.2.2⟩
      have kc : KF [15, 17, 19] K2 (bcut K2 (nI n)) := KF.bcut
      have kf : KF [7, 15, 17, 19] K (bcut K2 (nI n)) := (c3.trans (k1.sub (by decide))).trans (kc.sub (by decide))
      have e7 := kc.2.2.1 7 (by decide)
      have ex : ext (rat K2 7) (rsz K1 7) = rsz K1 7 + 3 + m := by unfold ext; rw [k6, nI_clamp (by omega)]
      refine ⟨rsz K1 7, bcut K2 (nI n), ⟨kf, bcut_BS hB2 (by omega) (by omega), fun q hq x hx => ?_, by rw [e7.1]; omega, by rw [e7.1]; omega, fun x hx => ?_⟩, by omega, Or.inr (Or.inr ⟨⟨?_, fun h hm => Or.inl ?_⟩, Or.inr (Or.inr ⟨?_, m, h4, ?_, ?_, ?_, ?_, ?_⟩)⟩), c_T_valueBy (D := k + 1) ⟨h0, fun _ => ⟨fun _ => ?_, fun hn => absurd h1 hn⟩, fun hn => absurd hn (by rw [h1]; decide)⟩⟩
      · rw [bcut_at, (k1.2.2.1 q (by simpa using hq)).2]
        exact c5 q hq x hx
      · rw [e7.2, k3 x (by omega)]
        exact c8 x hx
      · rw [e7.2, e7.1, ex]; omega
      · have := hh h hm; omega
      · rw [kf.1]; exact h1
      · rw [e7.2]; exact k4
      · rw [e7.2, k5, kf.1]
      · rw [e7.2]; exact k6
      · rw [kf.1]; exact h7
      · have cw : CTW (CT (bcut K2 (nI n)) (rat (bcut K2 (nI n)) 7) (rsz (bcut K2 (nI n)) 7) hl E (fun _ _ => False) k) (bcut K2 (nI n)) ws (K.2.2.1 p 4) :=
          CTW_mv (kc.2.1.trans k1.2.1) (fun q v hv => CT.mv (kc.1.trans k1.1) (kc.2.1.trans k1.2.1) (fun j hj _ => by rw [e7.2]; exact k3 j hj) (by rw [e7.1]; omega) (fun h hm => Or.inl hm) (fun _ _ x => x) (fun _ _ x => x) k q v hv) ws _ c2
        rw [kf.2.1, ← c1]
        refine CTW_L ws _ _ (fun t ht => ?_) cw
        rw [e7.2, k7 t (by omega)]
        exact c9 t ht
      · rw [hB.1]
        refine c10 _ _ (b_T_valueBy_60 (D := k + 1) ⟨fun _ => ⟨c3.nd h0, nI (rsz K1 7), K2, ?_, rfl, rfl⟩, fun hn => absurd rfl hn⟩)
        rw [c3.1]
        exact k8.mono (by omega)
end CPVB
