/-! ===== the face: program: the entry stands before it is entered ===== -/
def ENG (K K' : cp_K) (l len e : Nat) : Prop := (K'.1 = K.1 ∧ K'.2.2.2 = K.2.2.2) ∧ (∀ p, p ≠ 3 → p ≠ 5 → K'.2.1 p = K.2.1 p) ∧ (K'.2.1 3 2 = nI (len + 1) ∧ ∀ x, K'.2.1 5 x = if x = len then nI (65 + l) else K.2.1 5 x) ∧ (∀ p, p ≠ 4 → K'.2.2.1 p = K.2.2.1 p) ∧ ∀ c, K'.2.2.1 4 c = if c = l then e else K.2.2.1 4 c
section CPHP
variable {K K1 K2 K0 K' : cp_K} {S S1 S0 S' : cp_S} {Ls : List Nat} {rf P l len p3 c e : Nat} {x1 x2 cnt cond : Int32}
theorem ENG.kfx (h : ENG K K' l len e) : KFX K K' := ⟨by rw [h.1.1]; exact Nat.le_refl _, fun q q1 q2 => ⟨by rw [h.1.1], h.2.1 q (by omega) (by omega), h.2.2.2.1 q (by omega)⟩⟩
theorem ent_g (hl : l < 26) (hlen : len < 26) (ne : nd K e 10) (a5 : K.2.1 e 0 = nI (65 + l)) (h32 : K.2.1 3 2 = nI len) : ∃ K', KC 8 m_P_enter (fun G => [.ref (cp_b G + 0), va_rf (kr G e)]) K (fun _ => some (.int (K.2.1 e 2))) K' ∧ ENG K K' l len e := by
  obtain ⟨K', hK'⟩ : ∃ K', K' = kI (kI (kP K 4 l e) 5 len (nI (65 + l))) 3 2 (nI (len + 1)) := ⟨_, rfl⟩
  have e65 : nI (65 + l) - 65 = nI l := by
    have := pk_sub (a := 65 + l) (b := 65) (by omega)
    rw [show 65 + l - 65 = l by omega] at this
    exact this
  have i' : K'.2.1 = va_up (va_up K.2.1 5 (va_up (K.2.1 5) len (nI (65 + l)))) 3 (va_up (K.2.1 3) 2 (nI (len + 1))) := by
    rw [hK', kI_i, kI_i, kP_i, cp_up_ne (show (3 : Nat) ≠ 5 by decide)]
  have r' : K'.2.2.1 = va_up K.2.2.1 4 (va_up (K.2.2.1 4) l e) := by rw [hK']; rfl
  have n' : K'.1 = K.1 ∧ K'.2.2.2 = K.2.2.2 := by rw [hK']; exact ⟨rfl, rfl⟩
  have e86 := ne.1
  refine ⟨K', c_P_enter (D := 0) ⟨K', (c_D_add (D := 0) ⟨ne, ?_⟩).mono (by omega), ⟨ne.1, by rw [n'.1]; exact ne.2.1, by rw [n'.1]; exact ne.2.2⟩, ?_, rfl⟩, n', fun p p2 p3 => ?_, ⟨?_, fun x => ?_⟩, fun p p2 => ?_, fun c => ?_⟩
  · have c1 : ¬ nI l < 0 := nI_pos (by omega)
    have c2 : ¬ 26 ≤ nI l := fun q => absurd ((nI_leq (a := 26) (by omega) (by omega)).mp q) (by omega)
    have c3 : ¬ 26 ≤ nI len := fun q => absurd ((nI_leq (a := 26) (by omega) (by omega)).mp q) (by omega)
    simp only [a5, e65, h32, kP_i, nI_clamp (show l < 2 ^ 31 by omega), nI_clamp (show len < 2 ^ 31 by omega), (nar_L hl).2]
    refine ⟨fun q => absurd q c1, fun _ => ⟨fun q => absurd q c2, fun _ => ⟨fun q => absurd q c3, fun _ => ⟨vp_in_nI hl (by decide), ne, ne, vp_in_nI hlen (by decide), trivial, ?_⟩⟩⟩⟩
    rw [hK', kI_i, cp_up_ne (by decide), kP_i, h32, nI_1]
  · rw [i', cp_up_ne (by omega), cp_up_ne (by omega)]
  · rw [i', cp_up_ne p2, cp_up_ne p3]
  · rw [i', va_up_at, va_up_at]
  · rw [i', cp_up_ne (by decide), va_up_at]
    by_cases q : x = len
    · rw [if_pos q, q, va_up_at]
    · rw [if_neg q, cp_up_ne q]
  · rw [r', cp_up_ne p2]
  · rw [r', va_up_at]
    by_cases q : c = l
    · rw [if_pos q, q, va_up_at]
    · rw [if_neg q, cp_up_ne q]
theorem DCT.ent2 {rf' P' : Nat} (hd : DCT K S Ls rf P) (hl : l < 26) (hm : ¬ l ∈ Ls) (en : ENG K K' l Ls.length e) (hb : ∀ p, 30 ≤ p → p ≤ 36 → ∀ c, c ≠ l → S'.2 p c = S.2 p c) (h37 : ∀ c x, c ≠ l → x < 4 → S'.2 37 (4 * c + x) = S.2 37 (4 * c + x)) (h38 : ∀ x, S'.2 38 x = if x = Ls.length then nI l else S.2 38 x) (ho : OLD rf S.2 S'.2) (hp : OLP P S.2 S'.2) (h14 : S'.1 14 = nI (Ls.length + 1)) (h16 : S'.1 16 = nI rf') (h23 : S'.1 23 = nI P') (hr : rf ≤ rf' ∧ rf' ≤ rf + 100) (hP : P ≤ P' ∧ P' ≤ P + 6) (hk : (S'.2 30 l = 1 ∨ S'.2 30 l = 2) ∧ ∃ m, m ≤ 6 ∧ S'.2 31 l = nI m) (h32 : S'.2 32 l = nI rf) (h33 : S'.2 33 l = nI P) (ev : ∀ (K2 : cp_K) (b2 : Nat → Nat → Int32) (ar : Nat → Nat), KFX K' K2 → OLD rf' S'.2 b2 → OLP P' S'.2 b2 → OLC K' S'.2 K2 b2 (l :: Ls) → AOK b2 ar → (S'.2 30 l = 1 → CST K2 b2 ar l) ∧ (S'.2 30 l = 2 → PROG K2 b2 ar l ∧ ∃ m, m ≤ 4 ∧ b2 31 l = nI m ∧ K2.2.1 (K2.2.2.1 4 l) 2 = nI m)) : DCT K' S' (l :: Ls) rf' P' := by
  obtain ⟨a1, a2, -, -, a7⟩ := hd
  have ne := DSK.ne _ _ _ a1
  have cl : ∀ c ∈ Ls, c ≠ l := fun c hc e => hm (e ▸ hc)
  have r4 : ∀ c, c ≠ l → K'.2.2.1 4 c = K.2.2.1 4 c := fun c hc => by rw [en.2.2.2.2, if_neg hc]
  have k30 : ∀ c ∈ l :: Ls, ¬ S'.2 30 c = 0 := fun c hc => by
    rcases List.mem_cons.mp hc with e | e
    · subst e
      rcases hk.1 with q | q <;> rw [q] <;> decide
    · rw [hb 30 (by omega) (by omega) c (cl c e)]
      rcases (ne c e).2.1 with q | q <;> rw [q] <;> decide
  refine ⟨⟨hl, hm, hk, rf, P, h32, h33, hr.1, hr.2, hP.1, hP.2, fun K2 b2 ar q1 q2 q3 q4 q5 => ?_, DSK.ft en.kfx _ _ _ ho hp (fun c hc => ⟨r4 c (cl c hc), fun p p1 p2 => hb p p1 p2 c (cl c hc), fun x hx => h37 c x (cl c hc) hx⟩) a1⟩, fun c hc hn => ?_, ⟨h16, h23⟩, ⟨by rw [en.2.2.1.1, List.length_cons], by rw [h14, List.length_cons]⟩, ?_, ?_, ?_⟩
  · have := ev K2 b2 ar q1 (fun p p1 p2 x hx => by rw [q2 p p1 p2 x hx, mkd_ne (by omega)]) (fun p p1 p2 x hx => by rw [q3 p p1 p2 x hx, mkd_ne (by omega)]) (fun c hc => by
      have hc26 : c < 26 := by
        rcases List.mem_cons.mp hc with e | e
        · rw [e]; exact hl
        · exact (ne c e).1
      obtain ⟨g1, g2, g3⟩ := q4 c hc26 (by rw [mkd_in hc]; exact k30 c hc)
      refine ⟨g1, fun p p1 p2 => ?_, fun x hx => ?_⟩
      · rw [g2 p p1 p2]
        by_cases hp30 : p = 30
        · rw [hp30, mkd_in hc]
        · rw [mkd_ne hp30]
      · rw [g3 x hx, mkd_ne (by omega)]) q5
    rw [mkd_in List.mem_cons_self]
    exact this
  · have h1 : c ≠ l := fun e => hn (by rw [e]; exact List.mem_cons_self)
    rw [hb 30 (by omega) (by omega) c h1, r4 c h1]
    exact a2 c hc (fun q => hn (List.mem_cons_of_mem _ q))
  · rw [en.2.2.1.2, if_pos rfl]
  · rw [h38, if_pos rfl]
  · refine SEQ.cg Ls (fun i hi => ?_) a7
    rw [en.2.2.1.2, h38, if_neg (by omega), if_neg (by omega)]
    exact ⟨rfl, rfl⟩
/-- a call that enters a letter -/
theorem INV.ent2 {rf' P' : Nat} (h : INV K0 S0 Ls rf P) (fk : FK c K0 K) (fj : FJ K0 K) (fs : FS rf P S0 S) (fg : FG S0 S') (hl : l < 26) (h0 : S0.2 30 l = 0) (hm : ¬ l ∈ Ls) (en : ENG K K' l Ls.length e) (hb : ∀ p, 30 ≤ p → p ≤ 36 → ∀ c, c ≠ l → S'.2 p c = S.2 p c) (h37 : ∀ c x, c ≠ l → x < 4 → S'.2 37 (4 * c + x) = S.2 37 (4 * c + x)) (h38 : ∀ x, S'.2 38 x = if x = Ls.length then nI l else S.2 38 x) (ho : OLD rf S.2 S'.2) (hp : OLP P S.2 S'.2) (h14 : S'.1 14 = nI (Ls.length + 1)) (h16 : S'.1 16 = nI rf') (h23 : S'.1 23 = nI P') (hr : rf ≤ rf' ∧ rf' ≤ rf + 100) (hP : P ≤ P' ∧ P' ≤ P + 6) (hk : (S'.2 30 l = 1 ∨ S'.2 30 l = 2) ∧ ∃ m, m ≤ 6 ∧ S'.2 31 l = nI m) (h32 : S'.2 32 l = nI rf) (h33 : S'.2 33 l = nI P) (ev : ∀ (K2 : cp_K) (b2 : Nat → Nat → Int32) (ar : Nat → Nat), KFX K' K2 → OLD rf' S'.2 b2 → OLP P' S'.2 b2 → OLC K' S'.2 K2 b2 (l :: Ls) → AOK b2 ar → (S'.2 30 l = 1 → CST K2 b2 ar l) ∧ (S'.2 30 l = 2 → PROG K2 b2 ar l ∧ ∃ m, m ≤ 4 ∧ b2 31 l = nI m ∧ K2.2.1 (K2.2.2.1 4 l) 2 = nI m)) (h20 : S'.1 20 = S.1 20) (htx : TXT K' S') (hs : K'.2.1 23 4 = S'.1 60) (h58 : S'.1 58 = 0) (hmm : rsz K 7 ≤ 1048576 ∧ rsz K 9 < 16000 ∧ rsz K 11 < 16000 ∧ ∃ n, n ≤ 10000 ∧ BS K n) : INV K' S' (l :: Ls) rf' P' ∧ GRW c K0 K' := by
  have d0 := h.dct (S' := (va_up S.1 16 (nI rf), S.2)) fk (fs.trans (FS.up (by decide))) (show va_up S.1 16 (nI rf) 16 = nI rf from va_up_at)
  have d1 := DCT.ent2 (S' := S') d0 hl hm en hb h37 h38 ho hp h14 h16 h23 hr hP hk h32 h33 ev
  have e6 : 86 ≤ K0.1.1 := h.2.2.2.2.2.2.2.2
  have ge := fk.2.2.2.1
  obtain ⟨k1, k2⟩ := fk.2.2.2.2 h.2.2.2.2.2.2.2.1
  have i0 : K'.2.1 0 = K.2.1 0 := en.2.1 0 (by decide) (by decide)
  have z' : ∀ q, rsz K' q = rsz K q := fun q => by unfold rsz; rw [en.1.2]
  refine ⟨⟨htx, h.2.1.fr (by rw [i0]; exact fj.1.1) ?_ (fg.1 3 (by omega)) (fg.2 28 (by omega)), d1, ?_, ⟨hs, ⟨by rw [h20]; exact fs.2.2.2.2 h.2.2.2.2.2.1.1, h58⟩, ⟨by rw [z']; exact hmm.1, by rw [z']; exact hmm.2.1, by rw [z']; exact hmm.2.2.1, by unfold BS; rw [z', z', z']; exact hmm.2.2.2⟩, fun r hr => ?_, ?_⟩⟩, ?_, ?_⟩
  · rw [en.2.1 2 (by decide) (by decide)]; exact fj.2.1
  · refine h.2.2.2.1.fr (fk.kfx.trans en.kfx) ?_ (by rw [i0]; exact fj.1.2) (fun k q1 q2 => fg.1 k (by omega)) (fun p q1 q2 => fg.2 p (by omega)) (fun c _ hc => ?_)
    · rw [en.2.2.2.1 0 (by decide)]; exact fj.2.2
    · have h1 : c ≠ l := fun e => by rw [e, h0] at hc; exact absurd hc (by decide)
      rw [hb 30 (by omega) (by omega) c h1, hb 31 (by omega) (by omega) c h1, fs.2.1 30 (by omega) (by omega), fs.2.1 31 (by omega) (by omega)]
      exact ⟨hc, rfl⟩
  · have := k1 r hr
    unfold rcap at this ⊢
    rw [en.1.2]; exact this
  · rw [en.1.1]; omega
  · rw [en.1.1]; omega
  · have ek : k_caps K' = k_caps K := by unfold k_caps; rw [en.1.2]
    rw [ek, en.1.1]
    omega
/-- the constructor of a program's entry -/
theorem einit_p (hp : nd K p3 9) (hl : l < 26) {n : Nat} (h3 : K.2.1 p3 3 = nI (n + 1)) (h86 : 86 ≤ K.1.1) : KC 8 m_E_init (fun G => [va_rf (kr G K.1.1), .int (nI (65 + l)), .int 1, va_rf (kr G p3)]) (kN K 10) (fun _ => none) (EI K (nI (65 + l)) 1 (nI n) 0 p3) := by
  have n0 : nd (kN K 10) K.1.1 10 := ⟨h86, Nat.lt_succ_self _, va_up_at⟩
  have i3 : (kP (kI (kI (kN K 10) K.1.1 0 (nI (65 + l))) K.1.1 1 1) K.1.1 4 p3).2.1 p3 3 = nI (n + 1) := by
    have := hp.2.1
    rw [kP_i, kI_i, kI_i, cp_up_ne (by omega), cp_up_ne (by omega), kN_i (by omega)]
    exact h3
  refine c_E_init (D := 0) ⟨n0, (nar_L hl).1, ⟨rfl, rfl⟩, fun q => absurd q (by decide), fun _ => ⟨kN_KFX.n hp, fun _ => ⟨rfl, ?_⟩, fun q => absurd q (by decide)⟩⟩
  rw [i3, nI_pred]
  rfl
/-- the names of a program are known, then its code is looked at -/
theorem wip_lp {z pe tr : Nat} {D : Nat} (npe : nd K0 pe 10) (e4 : K0.2.2.1 pe 4 = tr) (ntr : nd K0 tr 9) (e5 : K0.2.2.1 tr 5 = z) : ∀ (ps : List Nat) (q nn : Nat) (K : cp_K) (sc : Nat → Prop), PCH K0 ps q z → IST K0 K nn sc → nn + ps.length ≤ 10 → ∃ K1 sc1, IST K0 K1 (nn + ps.length) sc1 ∧ (∀ c, c < 26 → (sc1 c ↔ sc c ∨ c ∈ ps)) ∧ ∀ (r : Int32) (K' : cp_K), KC (D + 7) m_I_wrongIn (fun G => [.ref (cp_b G + 25), va_rf (kr G z), va_rf (kr G pe)]) K1 (fun _ => some (.int r)) K' → ¬ z = 0 → JC (D + 8) m_I_wrongInProgram (fun _ => .inl (some (.int r))) K' 8 (fun G => [(0, .ref (cp_b G + 25)), (1, va_rf (kr G pe)), (2, va_rf (kr G q))]) (fun _ => []) K
  | [], q, nn, K, sc, h, st, _ => by
    have h' : q = z := h
    subst h'
    refine ⟨K, sc, st, fun c _ => ⟨Or.inl, fun e => e.elim id (fun e => by cases e)⟩, fun r K' w hz => ?_⟩
    have kf := st.1
    have r4 : K.2.2.1 (K.2.2.1 pe 4) 5 = q := by rw [kf.2.1, e4, e5]
    refine b_I_wrongInProgram_8 ⟨fun e => absurd e hz, fun _ => ⟨kf.nd npe, by rw [kf.2.1, e4]; exact kf.nd ntr, fun _ => ⟨r, K', by rw [r4]; exact w, rfl, rfl⟩, fun e => absurd r4.symm e⟩⟩
  | c0 :: ps, q, nn, K, sc, h, st, hn => by
    obtain ⟨h1, h2, h3, h4, h5⟩ := h
    rw [List.length_cons] at hn
    obtain ⟨kf, hB, hsc⟩ := st
    have kb : KF [15, 17, 19] K (bpush K (nI (97 + c0)) (-1) (-1)) := KF.bpush
    have st1 : IST K0 (bpush K (nI (97 + c0)) (-1) (-1)) (nn + 1) (fun c => sc c ∨ c = c0) := by
      refine ⟨kf.trans kb, ⟨by rw [bpush_sz15, hB.1], by rw [bpush_sz17, hB.2.1], by rw [bpush_sz19, hB.2.2]⟩, fun c hc => ?_⟩
      rw [bpush_at15, hB.1]
      refine ⟨fun e => ?_, fun ⟨x, x1, x2⟩ => ?_⟩
      · rcases e with e | e
        · obtain ⟨x, x1, x2⟩ := (hsc c hc).mp e
          exact ⟨x, by omega, by rw [cp_up_ne (by omega)]; exact x2⟩
        · exact ⟨nn, by omega, by rw [va_up_at, e]⟩
      · by_cases ex : x = nn
        · rw [ex, va_up_at] at x2
          right
          have := (nI_eq (by omega) (by omega)).mp x2
          omega
        · rw [cp_up_ne ex] at x2
          exact Or.inl ((hsc c hc).mpr ⟨x, by omega, x2⟩)
    obtain ⟨K1, sc1, a1, a2, a3⟩ := wip_lp (D := D) npe e4 ntr e5 ps _ (nn + 1) _ _ h5 st1 (by omega)
    refine ⟨K1, sc1, by rw [List.length_cons, show nn + (ps.length + 1) = nn + 1 + ps.length by omega]; exact a1, fun c hc => ?_, fun r K' w hz => ?_⟩
    · rw [a2 c hc, List.mem_cons, or_assoc]
    · have q0 : ¬ q = 0 := by have := h1.1; omega
      have r4 : K.2.2.1 (K.2.2.1 pe 4) 5 = z := by rw [kf.2.1, e4, e5]
      refine b_I_wrongInProgram_8 ⟨fun e => absurd e q0, fun _ => ⟨kf.nd npe, by rw [kf.2.1, e4]; exact kf.nd ntr, fun e => absurd (e.trans r4) h2, fun _ => ⟨kf.nd h1, ⟨by rw [hB.1]; show nn < 16384; omega, by rw [hB.2.1]; show nn < 16384; omega, by rw [hB.2.2]; show nn < 16384; omega⟩, ?_⟩⟩⟩
      have i1 : K.2.1 q 1 = nI (97 + c0) := by rw [kf.1]; exact h4
      rw [i1, bpush_r, kf.2.1]
      exact a3 r K' w hz
/-- the reference keeps the names -/
theorem prg_rows {n : Nat} {x1 x3 x4 : Int32} (hl : l < 26) (hlen : len < 26) (hn : n ≤ 4) (h14 : S.1 14 = nI len) : ∃ S', JJ 6 m_M_program (some (.int (nI n))) S' 112 [(1, .int x1), (2, .int (nI l)), (3, .int x3), (4, .int x4), (5, .int (nI n)), (6, .int 0)] S ∧ S'.1 = va_up S.1 14 (nI (len + 1)) ∧ (∀ p, p ≠ 30 → p ≠ 31 → p ≠ 37 → p ≠ 38 → S'.2 p = S.2 p) ∧ S'.2 30 = upd (S.2 30) l 2 ∧ S'.2 31 = upd (S.2 31) l (nI n) ∧ S'.2 38 = upd (S.2 38) len (nI l) ∧ (∀ x, x < n → S'.2 37 (4 * l + x) = S.2 71 x) ∧ ∀ c x, c ≠ l → x < 4 → S'.2 37 (4 * c + x) = S.2 37 (4 * c + x) := by
  have lp : ∀ (rem i : Nat) (Si : cp_S), i + rem = n → Si.1 = S.1 → (∀ p, p ≠ 37 → Si.2 p = S.2 p) → (∀ x, x < i → Si.2 37 (4 * l + x) = S.2 71 x) → (∀ c x, c ≠ l → x < 4 → Si.2 37 (4 * c + x) = S.2 37 (4 * c + x)) → ∃ S', JJ 6 m_M_program (some (.int (nI n))) S' 112 [(1, .int x1), (2, .int (nI l)), (3, .int x3), (4, .int x4), (5, .int (nI n)), (6, .int (nI i))] Si ∧ S'.1 = va_up S.1 14 (nI (len + 1)) ∧ (∀ p, p ≠ 30 → p ≠ 31 → p ≠ 37 → p ≠ 38 → S'.2 p = S.2 p) ∧ S'.2 30 = upd (S.2 30) l 2 ∧ S'.2 31 = upd (S.2 31) l (nI n) ∧ S'.2 38 = upd (S.2 38) len (nI l) ∧ (∀ x, x < n → S'.2 37 (4 * l + x) = S.2 71 x) ∧ ∀ c x, c ≠ l → x < 4 → S'.2 37 (4 * c + x) = S.2 37 (4 * c + x) := by
    intro rem
    induction rem with
    | zero =>
      intro i Si hi h1 h2 h3 h4
      have : i = n := by omega
      subst this
      obtain ⟨S', a1, a2, a3, a4, a5, a6⟩ := rem_r (S := Si) (kd := 2) (cn := nI i) hl hlen (by rw [h1]; exact h14)
      refine ⟨S', b_M_program_112 ⟨fun _ => ⟨S', a1, rfl, rfl⟩, fun q => absurd (Int32.le_refl _) q⟩, by rw [a2, h1], fun p p1 p2 p3 p4 => by rw [a3 p p1 p2 p4, h2 p p3], by rw [a4, h2 30 (by decide)], by rw [a5, h2 31 (by decide)], by rw [a6, h2 38 (by decide)], fun x hx => by rw [a3 37 (by decide) (by decide) (by decide)]; exact h3 x hx, fun c x c1 c2 => by rw [a3 37 (by decide) (by decide) (by decide)]; exact h4 c x c1 c2⟩
    | succ rem ih =>
      intro i Si hi h1 h2 h3 h4
      obtain ⟨T, hT⟩ : ∃ T : cp_S, T = (Si.1, va_up Si.2 37 (upd (Si.2 37) (4 * l + i) (Si.2 71 i))) := ⟨_, rfl⟩
      have t1 : T.1 = S.1 := by rw [hT]; exact h1
      have t2 : ∀ p, p ≠ 37 → T.2 p = S.2 p := fun p hp => by rw [hT, ← h2 p hp]; exact cp_up_ne hp
      have t37 : T.2 37 = upd (Si.2 37) (4 * l + i) (Si.2 71 i) := by rw [hT]; rfl
      obtain ⟨S', a1, a2⟩ := ih (i + 1) T (by omega) t1 t2 (fun x hx => by
        rw [t37]
        by_cases q : x = i
        · rw [q, pk_us, h2 71 (by decide)]
        · rw [pk_un (by omega)]; exact h3 x (by omega)) (fun c x c1 c2 => by
        rw [t37, pk_un (by omega)]; exact h4 c x c1 c2)
      have e4 : 4 * nI l + nI i = nI (4 * l + i) := by
        rw [show (4 : Int32) = nI 4 from rfl, pk_mul, nI_add]
      refine ⟨S', b_M_program_112 ⟨fun q => absurd ((nI_leq (by omega) (by omega)).mp q) (by omega), fun _ => ⟨vp_in_nI (show i < 6 by omega) (by decide), ?_, ?_⟩⟩, a2⟩
      · rw [e4]; exact vp_in_nI (show 4 * l + i < 104 by omega) (by decide)
      · rw [e4, nI_clamp (show 4 * l + i < 2 ^ 31 by omega), nI_clamp (show i < 2 ^ 31 by omega), ← hT, nI_1]
        exact a1
  obtain ⟨S', a1, a2⟩ := lp n 0 S (by omega) rfl (fun _ _ => rfl) (fun x hx => absurd hx (by omega)) (fun _ _ _ _ => rfl)
  exact ⟨S', a1, a2⟩
end CPHP
