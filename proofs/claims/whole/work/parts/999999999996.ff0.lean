/-! ===== the face: run ===== -/
section CPFR
variable {K K1 K2 K' : cp_K} {S S1 S2 S' : cp_S} {Ls : List Nat} {rf P c : Nat}
theorem nn_m : ∃ T5 T7, MC 0 m_M_nothing [] S none T5 ∧ MC 0 m_M_noNames [] T5 none T7 ∧ (∀ k, k ≠ 35 → k ≠ 40 → k ≠ 42 → T7.1 k = S.1 k) ∧ (T7.1 35 = 0 ∧ T7.1 40 = 0 ∧ T7.1 42 = 0) ∧ (∀ p, p ≠ 63 → p ≠ 64 → T7.2 p = S.2 p) ∧ ∀ x, x < 26 → T7.2 63 x = -1 ∧ T7.2 64 x = -1 := by
  obtain ⟨T7, m1, m2, m3, m4⟩ := MC_noNames (S := (va_up (va_up (va_up S.1 35 0) 40 0) 42 0, S.2))
  refine ⟨_, T7, MC_nothing, m1, fun k q1 q2 q3 => ?_, ?_, m3, m4⟩
  · rw [m2]
    show va_up (va_up (va_up S.1 35 0) 40 0) 42 0 k = _
    rw [cp_up_ne q3, cp_up_ne q2, cp_up_ne q1]
  · rw [m2]; exact ⟨rfl, rfl, rfl⟩
theorem gH_0 {b : Nat → Nat → Int32} {i : Nat} : ∀ (j : Nat), i ≤ j → (∀ x, i ≤ x → x < j → ¬ b 39 x = 4) → gH b j = gH b i
  | 0, h, _ => by rw [show i = 0 by omega]
  | j + 1, h, g => by
    by_cases e : i = j + 1
    · rw [e]
    · rw [g_s.2.2, if_neg (g j (by omega) (by omega)), gH_0 j (by omega) (fun x x1 x2 => g x x1 (by omega))]
      rfl
theorem INV.fg (h : INV K S Ls rf P) (fk : FK c K K') (fj : FJ K K') (fs : FS rf P S S') (fg : FG S S') (t1 : K'.2.1 0 1 = 0) (t2 : S'.1 1 = 0) (h16 : S'.1 16 = nI rf) (hs : K'.2.1 23 4 = S'.1 60) (h58 : S'.1 58 = 0) (hm : rsz K' 7 ≤ 1048576 ∧ rsz K' 9 < 16000 ∧ rsz K' 11 < 16000 ∧ ∃ n, n ≤ 10000 ∧ BS K' n) : INV K' S' Ls rf P ∧ GRW c K K' := INV.fr h fk fs t1 t2 h16 (h.2.1.fr fj.1.1 fj.2.1 (fg.1 3 (by omega)) (fg.2 28 (by omega))) (h.2.2.2.1.fg fk fj fg fs) hs h58 hm
/-- what is written comes on the page -/
theorem shown (h : INV K S Ls rf P) {n m : Nat} {v : Int32} {K5 K6 : cp_K} {S6 : cp_S} (hw : KC 10 m_V_write (fun G => [.ref (cp_b G + 6), .int v]) K5 (fun _ => some (.int (nI n))) K6) (hn : n ≤ 100) (st : DST K6 S6 n m) (fk : FK c K K6) (fj : FJ K K6) (fs : FS rf P S S6) (fg : FG S S6) (t1 : K6.2.1 0 1 = 0) (t2 : S6.1 1 = 0) (h16 : S6.1 16 = nI rf) (hs : K6.2.1 23 4 = S6.1 60) (h58 : S6.1 58 = 0) (h0 : S6.1 0 = 0) (hm : rsz K6 7 ≤ 1048576 ∧ rsz K6 9 < 16000 ∧ rsz K6 11 < 16000 ∧ ∃ n, n ≤ 10000 ∧ BS K6 n) : ∃ K' S', KC 12 m_P_show (fun G => [.ref (cp_b G + 0), .int v]) K5 (fun _ => some (.int 1)) K' ∧ K'.2.1 0 3 = nI n ∧ MC 0 m_M_show [.int (nI n)] S6 (some (.int (nI n))) S' ∧ INV K' S' Ls rf P ∧ S'.1 0 = 0 ∧ GRW c K K' := by
  obtain ⟨⟨dn, -⟩, -, stc, -⟩ := st
  obtain ⟨K', e1, e2⟩ := show_c (K := K6) (n := n) (x1 := v) (D := 4) hn (fun y hy => (stc y hy).2) dn.1 n 0 K6 (by omega) (fun _ hx => absurd hx (by omega)) (fun _ _ => rfl) rfl rfl
  have f7 := e2.fk
  obtain ⟨e3, e4, e5, e6, e7, e8⟩ := e2
  obtain ⟨S', y1, y2, y3, y4⟩ := MC_show (S := S6) hn
  have t' : ∀ k, k ≠ 3 → S'.1 k = S6.1 k := fun k hk => by rw [y2, cp_up_ne hk]
  have z' : ∀ q, rsz K' q = rsz K6 q := fun q => by unfold rsz; rw [e7]
  have fs' : FS rf P S6 S' := FS.of (fun k hk => t' k (by omega)) (fun p hp => y3 p (by omega))
  have hR : RSV K' S' := by
    refine h.2.2.2.1.fr (fk.trans f7).kfx (by rw [e7]; exact fj.2.2) (by rw [e6 12 (by decide)]; exact fj.1.2) (fun k k1 k2 => (t' k (by omega)).trans (fg.1 k (by omega))) (fun p p1 p2 => (y3 p (by omega)).trans (fg.2 p (by omega))) (fun c _ h => ⟨?_, ?_⟩)
    · rw [y3 30 (by decide), fs.2.1 30 (by omega) (by omega)]; exact h
    · rw [y3 31 (by decide), fs.2.1 31 (by omega) (by omega)]
  have hP : PGE K' S' := ⟨n, hn, e3, by rw [y2, va_up_at], fun y hy => by
    obtain ⟨q1, c, q2, q3⟩ := stc y hy
    refine ⟨c, q2, ?_, ?_⟩
    · rw [e4 y hy]; exact q3
    · rw [y4 y hy, q1]; exact q3⟩
  obtain ⟨i1, i2⟩ := INV.fr h (fk.trans f7) (fs.trans fs') (by rw [e6 1 (by decide)]; exact t1) ((t' 1 (by decide)).trans t2) ((t' 16 (by decide)).trans h16) hP hR (by rw [e5 23 (by decide) (by decide), hs]; exact (t' 60 (by decide)).symm) ((t' 58 (by decide)).trans h58) ⟨by rw [z']; exact hm.1, by rw [z']; exact hm.2.1, by rw [z']; exact hm.2.2.1, by unfold BS; rw [z', z', z']; exact hm.2.2.2⟩
  exact ⟨K', S', c_P_show (D := 4) ⟨nI n, K6, hw.mono (by omega), fun _ => e1, fun q => absurd (nI_le (b := 100) hn (by omega)) q⟩, e3, y1, i1, (t' 0 (by decide)).trans h0, i2⟩
theorem run_b0 {x1 x2 x3 x4 x5 : Int32} : JJ 8 m_M_run (some (.int (if x4 < 0 then -100 - S.1 59 else -1 - x4))) (va_up S.1 16 x3, S.2) 103 [(1, .int x1), (2, .int x2), (3, .int x3), (4, .int x4), (5, .int x5)] S := by
  have e : ∀ x7 x8, JJ 8 m_M_run (some (.int (if x4 < 0 then -100 - S.1 59 else -1 - x4))) (va_up S.1 16 x3, S.2) 211 [(1, .int x1), (2, .int x2), (3, .int x3), (4, .int x4), (5, .int x5), (6, .int 0), (7, .int x7), (8, .int x8)] S := fun x7 x8 => b_M_run_211 ⟨fun q => absurd rfl q, fun _ => ⟨fun q => ⟨by rw [if_pos q], rfl⟩, fun q => ⟨by rw [if_neg q], rfl⟩⟩⟩
  have d : ∀ x7 x8, JJ 8 m_M_run (some (.int (if x4 < 0 then -100 - S.1 59 else -1 - x4))) (va_up S.1 16 x3, S.2) 165 [(1, .int x1), (2, .int x2), (3, .int x3), (4, .int x4), (5, .int x5), (6, .int 0), (7, .int x7), (8, .int x8)] S := fun x7 x8 => b_M_run_165 (b_M_run_171 ⟨fun _ => e _ _, fun _ => ⟨fun _ => e _ _, fun q => absurd rfl q⟩⟩)
  exact b_M_run_103 (b_M_run_112 ⟨fun _ => d _ _, fun _ => ⟨fun _ => d _ _, fun q => absurd rfl q⟩⟩)
end CPFR
