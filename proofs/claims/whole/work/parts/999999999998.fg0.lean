/-! ===== the face: a new entry ===== -/
def EI (K : cp_K) (x1 x2 cnt cond : Int32) (p3 : Nat) : cp_K := kI (kI (kP (kI (kI (kN K 10) K.1.1 0 x1) K.1.1 1 x2) K.1.1 4 p3) K.1.1 2 cnt) K.1.1 3 cond
/-- the class with a new entry of the letter l -/
def ENF (K K' : cp_K) (l len p3 : Nat) (x2 cnt cond : Int32) : Prop := (K'.1 = (K.1.1 + 1, va_up K.1.2 K.1.1 10) ∧ K'.2.2.2 = K.2.2.2) ∧ (∀ p, p < K.1.1 → p ≠ 3 → p ≠ 5 → K'.2.1 p = K.2.1 p) ∧ (K'.2.1 3 2 = nI (len + 1) ∧ ∀ x, K'.2.1 5 x = if x = len then nI (65 + l) else K.2.1 5 x) ∧ (∀ p, p < K.1.1 → p ≠ 4 → K'.2.2.1 p = K.2.2.1 p) ∧ (∀ c, K'.2.2.1 4 c = if c = l then K.1.1 else K.2.2.1 4 c) ∧ K'.2.1 K.1.1 1 = x2 ∧ K'.2.1 K.1.1 2 = cnt ∧ K'.2.1 K.1.1 3 = cond ∧ K'.2.2.1 K.1.1 4 = p3
section CPFG
variable {K K1 K2 K0 K' : cp_K} {S S1 S0 S' : cp_S} {Ls : List Nat} {rf P l len p3 c : Nat} {x1 x2 cnt cond : Int32}
theorem EI_at : (EI K x1 x2 cnt cond p3).1 = (K.1.1 + 1, va_up K.1.2 K.1.1 10) ∧ (EI K x1 x2 cnt cond p3).2.2.2 = K.2.2.2 ∧ (∀ p, p ≠ K.1.1 → (EI K x1 x2 cnt cond p3).2.1 p = K.2.1 p) ∧ (∀ p, p ≠ K.1.1 → (EI K x1 x2 cnt cond p3).2.2.1 p = K.2.2.1 p) ∧ ((EI K x1 x2 cnt cond p3).2.1 K.1.1 0 = x1 ∧ (EI K x1 x2 cnt cond p3).2.1 K.1.1 1 = x2 ∧ (EI K x1 x2 cnt cond p3).2.1 K.1.1 2 = cnt ∧ (EI K x1 x2 cnt cond p3).2.1 K.1.1 3 = cond) ∧ (EI K x1 x2 cnt cond p3).2.2.1 K.1.1 4 = p3 := by
  unfold EI
  refine ⟨rfl, rfl, fun p hp => ?_, fun p hp => ?_, ⟨?_, ?_, ?_, ?_⟩, ?_⟩
  · simp only [kI_i, kP_i]
    rw [cp_up_ne hp, cp_up_ne hp, cp_up_ne hp, cp_up_ne hp]
    exact cp_up_ne hp
  · simp only [kI_r, kP_r]
    rw [cp_up_ne hp]
    exact cp_up_ne hp
  · simp only [kI_i, kP_i, va_up_at]
    rw [cp_up_ne (by decide), cp_up_ne (by decide), cp_up_ne (by decide), va_up_at]
  · simp only [kI_i, kP_i, va_up_at]
    rw [cp_up_ne (by decide), cp_up_ne (by decide), va_up_at]
  · simp only [kI_i, kP_i, va_up_at]
    rw [cp_up_ne (by decide), va_up_at]
  · simp only [kI_i, kP_i, va_up_at]
  · simp only [kI_r, kP_r, va_up_at]
theorem nar_L (hl : l < 26) : (narrow (cp_ty 10 0) (.int (nI (65 + l))) = .int (nI (65 + l)) ∧ fits (cp_ty 10 0) (.int (nI (65 + l))) = true) ∧ vp_nar .char (nI (65 + l)) = nI (65 + l) := by
  have h : ∀ l : Fin 26, (narrow (cp_ty 10 0) (.int (nI (65 + l.val))) = .int (nI (65 + l.val)) ∧ fits (cp_ty 10 0) (.int (nI (65 + l.val))) = true) ∧ vp_nar .char (nI (65 + l.val)) = nI (65 + l.val) := by decide
  exact h ⟨l, hl⟩
theorem ent_c (hl : l < 26) (hlen : len < 26) (h32 : K.2.1 3 2 = nI len) (h86 : 86 ≤ K.1.1) : ∃ K', KC 8 m_P_enter (fun G => [.ref (cp_b G + 0), va_rf (kr G K.1.1)]) (EI K (nI (65 + l)) x2 cnt cond p3) (fun _ => some (.int cnt)) K' ∧ ENF K K' l len p3 x2 cnt cond := by
  obtain ⟨Ke, hKe⟩ : ∃ Ke, Ke = EI K (nI (65 + l)) x2 cnt cond p3 := ⟨_, rfl⟩
  obtain ⟨a1, a2, a3, a4, ⟨a5, a6, a7, a8⟩, a9⟩ : Ke.1 = (K.1.1 + 1, va_up K.1.2 K.1.1 10) ∧ Ke.2.2.2 = K.2.2.2 ∧ (∀ p, p ≠ K.1.1 → Ke.2.1 p = K.2.1 p) ∧ (∀ p, p ≠ K.1.1 → Ke.2.2.1 p = K.2.2.1 p) ∧ (Ke.2.1 K.1.1 0 = nI (65 + l) ∧ Ke.2.1 K.1.1 1 = x2 ∧ Ke.2.1 K.1.1 2 = cnt ∧ Ke.2.1 K.1.1 3 = cond) ∧ Ke.2.2.1 K.1.1 4 = p3 := by rw [hKe]; exact EI_at
  rw [← hKe]
  obtain ⟨K', hK'⟩ : ∃ K', K' = kI (kI (kP Ke 4 l K.1.1) 5 len (nI (65 + l))) 3 2 (nI (len + 1)) := ⟨_, rfl⟩
  have i32 : Ke.2.1 3 2 = nI len := by rw [a3 3 (by omega)]; exact h32
  have e65 : nI (65 + l) - 65 = nI l := by
    have := pk_sub (a := 65 + l) (b := 65) (by omega)
    rw [show 65 + l - 65 = l by omega] at this
    exact this
  have n10 : nd Ke K.1.1 10 := ⟨h86, by rw [a1]; exact Nat.lt_succ_self _, by rw [a1]; exact va_up_at⟩
  have i' : K'.2.1 = va_up (va_up Ke.2.1 5 (va_up (Ke.2.1 5) len (nI (65 + l)))) 3 (va_up (Ke.2.1 3) 2 (nI (len + 1))) := by
    rw [hK', kI_i, kI_i, kP_i, cp_up_ne (show (3 : Nat) ≠ 5 by decide)]
  have r' : K'.2.2.1 = va_up Ke.2.2.1 4 (va_up (Ke.2.2.1 4) l K.1.1) := by rw [hK']; rfl
  have n' : K'.1 = Ke.1 ∧ K'.2.2.2 = Ke.2.2.2 := by rw [hK']; exact ⟨rfl, rfl⟩
  refine ⟨K', c_P_enter (D := 0) ⟨K', (c_D_add (D := 0) ⟨n10, ?_⟩).mono (by omega), ⟨h86, by rw [n'.1, a1]; exact Nat.lt_succ_self _, by rw [n'.1, a1]; exact va_up_at⟩, ?_, rfl⟩, ⟨n'.1.trans a1, n'.2.trans a2⟩, fun p p1 p2 p3 => ?_, ⟨?_, fun x => ?_⟩, fun p p1 p2 => ?_, fun c => ?_, ?_, ?_, ?_, ?_⟩
  · have c1 : ¬ nI l < 0 := nI_pos (by omega)
    have c2 : ¬ 26 ≤ nI l := fun q => absurd ((nI_leq (a := 26) (by omega) (by omega)).mp q) (by omega)
    have c3 : ¬ 26 ≤ nI len := fun q => absurd ((nI_leq (a := 26) (by omega) (by omega)).mp q) (by omega)
    simp only [a5, e65, i32, kP_i, nI_clamp (show l < 2 ^ 31 by omega), nI_clamp (show len < 2 ^ 31 by omega), (nar_L hl).2]
    refine ⟨fun q => absurd q c1, fun _ => ⟨fun q => absurd q c2, fun _ => ⟨fun q => absurd q c3, fun _ => ⟨vp_in_nI hl (by decide), n10, n10, vp_in_nI hlen (by decide), trivial, ?_⟩⟩⟩⟩
    rw [hK', kI_i, cp_up_ne (by decide), kP_i, i32, nI_1]
  · rw [i', cp_up_ne (by omega), cp_up_ne (by omega), a7]
  · rw [i', cp_up_ne p2, cp_up_ne p3, a3 p (by omega)]
  · rw [i', va_up_at, va_up_at]
  · rw [i', cp_up_ne (by decide), va_up_at, a3 5 (by omega)]
    by_cases e : x = len
    · rw [if_pos e, e, va_up_at]
    · rw [if_neg e, cp_up_ne e]
  · rw [r', cp_up_ne p2, a4 p (by omega)]
  · rw [r', va_up_at, a4 4 (by omega)]
    by_cases e : c = l
    · rw [if_pos e, e, va_up_at]
    · rw [if_neg e, cp_up_ne e]
  · rw [i', cp_up_ne (by omega), cp_up_ne (by omega)]; exact a6
  · rw [i', cp_up_ne (by omega), cp_up_ne (by omega)]; exact a7
  · rw [i', cp_up_ne (by omega), cp_up_ne (by omega)]; exact a8
  · rw [r', cp_up_ne (by omega)]; exact a9
theorem ENF.kfx (h : ENF K K' l len p3 x2 cnt cond) : KFX K K' := ⟨by rw [h.1.1]; exact Nat.le_succ _, fun q q1 q2 => ⟨by rw [h.1.1]; exact cp_up_ne (by omega), h.2.1 q q2 (by omega) (by omega), h.2.2.2.1 q q2 (by omega)⟩⟩
theorem ENF.nd (h : ENF K K' l len p3 x2 cnt cond) (h86 : 86 ≤ K.1.1) : nd K' (K'.2.2.1 4 l) 10 ∧ K'.2.2.1 4 l = K.1.1 := by
  have e : K'.2.2.1 4 l = K.1.1 := by rw [h.2.2.2.2.1, if_pos rfl]
  rw [e]
  exact ⟨⟨h86, by rw [h.1.1]; exact Nat.lt_succ_self _, by rw [h.1.1]; exact va_up_at⟩, rfl⟩
theorem DCT.enter {rf' P' : Nat} (hd : DCT K S Ls rf P) (hl : l < 26) (hm : ¬ l ∈ Ls) (en : ENF K K' l Ls.length p3 x2 cnt cond) (hb : ∀ p, 30 ≤ p → p ≤ 36 → ∀ c, c ≠ l → S'.2 p c = S.2 p c) (h37 : ∀ c x, c ≠ l → x < 4 → S'.2 37 (4 * c + x) = S.2 37 (4 * c + x)) (h38 : ∀ x, S'.2 38 x = if x = Ls.length then nI l else S.2 38 x) (ho : OLD rf S.2 S'.2) (hp : OLP P S.2 S'.2) (h14 : S'.1 14 = nI (Ls.length + 1)) (h16 : S'.1 16 = nI rf') (h23 : S'.1 23 = nI P') (hr : rf ≤ rf' ∧ rf' ≤ rf + 100) (hP : P ≤ P' ∧ P' ≤ P + 6) (hk : (S'.2 30 l = 1 ∨ S'.2 30 l = 2) ∧ ∃ m, m ≤ 6 ∧ S'.2 31 l = nI m) (h32 : S'.2 32 l = nI rf) (h33 : S'.2 33 l = nI P) (ev : ∀ (K2 : cp_K) (b2 : Nat → Nat → Int32) (ar : Nat → Nat), KFX K' K2 → OLD rf' S'.2 b2 → OLP P' S'.2 b2 → OLC K' S'.2 K2 b2 (l :: Ls) → AOK b2 ar → (S'.2 30 l = 1 → CST K2 b2 ar l) ∧ (S'.2 30 l = 2 → PROG K2 b2 ar l ∧ ∃ m, m ≤ 4 ∧ b2 31 l = nI m ∧ K2.2.1 (K2.2.2.1 4 l) 2 = nI m)) : DCT K' S' (l :: Ls) rf' P' := by
  obtain ⟨a1, a2, -, -, a7⟩ := hd
  have ne := DSK.ne _ _ _ a1
  have cl : ∀ c ∈ Ls, c ≠ l := fun c hc e => hm (e ▸ hc)
  have r4 : ∀ c, c ≠ l → K'.2.2.1 4 c = K.2.2.1 4 c := fun c hc => by rw [en.2.2.2.2.1, if_neg hc]
  have k30 : ∀ c ∈ l :: Ls, ¬ S'.2 30 c = 0 := fun c hc => by
    rcases List.mem_cons.mp hc with e | e
    · subst e
      rcases hk.1 with q | q <;> rw [q] <;> decide
    · rw [hb 30 (by omega) (by omega) c (cl c e)]
      rcases (ne c e).2.1 with q | q <;> rw [q] <;> decide
  refine ⟨⟨hl, hm, hk, rf, P, h32, h33, hr.1, hr.2, hP.1, hP.2, fun K2 b2 ar q1 q2 q3 q4 q5 => ?_, DSK.ft en.kfx _ _ _ ho hp (fun c hc => ⟨r4 c (cl c hc), fun p p1 p2 => hb p p1 p2 c (cl c hc), fun x hx => h37 c x (cl c hc) hx⟩) a1⟩, fun c hc hn => ?_, ⟨h16, h23⟩, ⟨by rw [en.2.2.1.1, List.length_cons], by rw [h14, List.length_cons]⟩, ?_, ?_, ?_⟩
  · have := ev K2 b2 ar q1 (fun p p1 p2 x hx => by rw [q2 p p1 p2 x hx, mkd_ne (by omega)]) (fun p p1 p2 x hx => by rw [q3 p p1 p2 x hx, mkd_ne (by omega)]) (fun c hc => by
      have hc26 : c < 26 := by
        rcases List.mem_cons.mp hc with e | e
        · rw [e]; exact hl
        · exact (ne c e).1
      obtain ⟨g1, g2, g3⟩ := q4 c hc26 (by rw [mkd_in hc]; exact k30 c hc)
      refine ⟨g1, fun p p1 p2 => ?_, fun x hx => ?_⟩
      · rw [g2 p p1 p2]
        by_cases hp30 : p = 30
        · rw [hp30, mkd_in hc]
        · rw [mkd_ne hp30]
      · rw [g3 x hx, mkd_ne (by omega)]) q5
    rw [mkd_in List.mem_cons_self]
    exact this
  · have h1 : c ≠ l := fun e => hn (by rw [e]; exact List.mem_cons_self)
    rw [hb 30 (by omega) (by omega) c h1, r4 c h1]
    exact a2 c hc (fun q => hn (List.mem_cons_of_mem _ q))
  · rw [en.2.2.1.2, if_pos rfl]
  · rw [h38, if_pos rfl]
  · refine SEQ.cg Ls (fun i hi => ?_) a7
    rw [en.2.2.1.2, h38, if_neg (by omega), if_neg (by omega)]
    exact ⟨rfl, rfl⟩
/-- a call that enters a letter -/
theorem INV.enter {rf' P' : Nat} (h : INV K0 S0 Ls rf P) (fk : FK c K0 K) (fj : FJ K0 K) (fs : FS rf P S0 S) (fg : FG S0 S') (hl : l < 26) (h0 : S0.2 30 l = 0) (hm : ¬ l ∈ Ls) (en : ENF K K' l Ls.length p3 x2 cnt cond) (hb : ∀ p, 30 ≤ p → p ≤ 36 → ∀ c, c ≠ l → S'.2 p c = S.2 p c) (h37 : ∀ c x, c ≠ l → x < 4 → S'.2 37 (4 * c + x) = S.2 37 (4 * c + x)) (h38 : ∀ x, S'.2 38 x = if x = Ls.length then nI l else S.2 38 x) (ho : OLD rf S.2 S'.2) (hp : OLP P S.2 S'.2) (h14 : S'.1 14 = nI (Ls.length + 1)) (h16 : S'.1 16 = nI rf') (h23 : S'.1 23 = nI P') (hr : rf ≤ rf' ∧ rf' ≤ rf + 100) (hP : P ≤ P' ∧ P' ≤ P + 6) (hk : (S'.2 30 l = 1 ∨ S'.2 30 l = 2) ∧ ∃ m, m ≤ 6 ∧ S'.2 31 l = nI m) (h32 : S'.2 32 l = nI rf) (h33 : S'.2 33 l = nI P) (ev : ∀ (K2 : cp_K) (b2 : Nat → Nat → Int32) (ar : Nat → Nat), KFX K' K2 → OLD rf' S'.2 b2 → OLP P' S'.2 b2 → OLC K' S'.2 K2 b2 (l :: Ls) → AOK b2 ar → (S'.2 30 l = 1 → CST K2 b2 ar l) ∧ (S'.2 30 l = 2 → PROG K2 b2 ar l ∧ ∃ m, m ≤ 4 ∧ b2 31 l = nI m ∧ K2.2.1 (K2.2.2.1 4 l) 2 = nI m)) (h20 : S'.1 20 = S.1 20) (htx : TXT K' S') (hs : K'.2.1 23 4 = S'.1 60) (h58 : S'.1 58 = 0) (hmm : rsz K 7 ≤ 1048576 ∧ rsz K 9 < 16000 ∧ rsz K 11 < 16000 ∧ ∃ n, n ≤ 10000 ∧ BS K n) : INV K' S' (l :: Ls) rf' P' ∧ GRW (c + 1) K0 K' := by
  have d0 := h.dct (S' := (va_up S.1 16 (nI rf), S.2)) fk (fs.trans (FS.up (by decide))) (show va_up S.1 16 (nI rf) 16 = nI rf from va_up_at)
  have d1 := DCT.enter (S' := S') d0 hl hm en hb h37 h38 ho hp h14 h16 h23 hr hP hk h32 h33 ev
  have e6 : 86 ≤ K0.1.1 := h.2.2.2.2.2.2.2.2
  have ge := fk.2.2.2.1
  obtain ⟨k1, k2⟩ := fk.2.2.2.2 h.2.2.2.2.2.2.2.1
  have i0 : K'.2.1 0 = K.2.1 0 := en.2.1 0 (by omega) (by decide) (by decide)
  have z' : ∀ q, rsz K' q = rsz K q := fun q => by unfold rsz; rw [en.1.2]
  refine ⟨⟨htx, h.2.1.fr (by rw [i0]; exact fj.1.1) ?_ (fg.1 3 (by omega)) (fg.2 28 (by omega)), d1, ?_, ⟨hs, ⟨by rw [h20]; exact fs.2.2.2.2 h.2.2.2.2.2.1.1, h58⟩, ⟨by rw [z']; exact hmm.1, by rw [z']; exact hmm.2.1, by rw [z']; exact hmm.2.2.1, by unfold BS; rw [z', z', z']; exact hmm.2.2.2⟩, fun r hr => ?_, ?_⟩⟩, ?_, ?_⟩
  · rw [en.2.1 2 (by omega) (by decide) (by decide)]; exact fj.2.1
  · refine h.2.2.2.1.fr (fk.kfx.trans en.kfx) ?_ (by rw [i0]; exact fj.1.2) (fun k q1 q2 => fg.1 k (by omega)) (fun p q1 q2 => fg.2 p (by omega)) (fun c _ hc => ?_)
    · rw [en.2.2.2.1 0 (by omega) (by decide)]; exact fj.2.2
    · have h1 : c ≠ l := fun e => by rw [e, h0] at hc; exact absurd hc (by decide)
      rw [hb 30 (by omega) (by omega) c h1, hb 31 (by omega) (by omega) c h1, fs.2.1 30 (by omega) (by omega), fs.2.1 31 (by omega) (by omega)]
      exact ⟨hc, rfl⟩
  · have := k1 r hr
    unfold rcap at this ⊢
    rw [en.1.2]; exact this
  · rw [en.1.1]; show 86 ≤ K.1.1 + 1; omega
  · rw [en.1.1]; show K0.1.1 ≤ K.1.1 + 1; omega
  · have e : k_caps K' = k_caps K := by unfold k_caps; rw [en.1.2]
    rw [e, en.1.1]
    show 64 * (K.1.1 + 1) + _ ≤ _
    omega
/-- letters that are constants have the same number -/
theorem ar_eq {ar ar' : Nat → Nat} {b2 : Nat → Nat → Int32} (h : INV K0 S0 Ls rf P) (a1 : AOK S0.2 ar) (a2 : ∀ c, c < 26 → ¬ S0.2 30 c = 1 → ar c = 7) (ok : AOK b2 ar') (hb : ∀ c ∈ Ls, b2 30 c = S0.2 30 c ∧ b2 31 c = S0.2 31 c) : ∀ c, c < 26 → ar c ≤ 6 → ar' c = ar c := fun c hc h6 => by
  have k30 : S0.2 30 c = 1 := Classical.byContradiction fun q => by
    have := a2 c hc q
    omega
  have hm : c ∈ Ls := Classical.byContradiction fun q => by
    rw [(h.2.2.1.2.1 c hc q).1] at k30
    exact absurd k30 (by decide)
  have e1 := (a1 c hc k30).1
  obtain ⟨e2, e3⟩ := ok c hc (by rw [(hb c hm).1]; exact k30)
  rw [(hb c hm).2, e1] at e2
  exact ((nI_eq (by omega) (by omega)).mp e2).symm
end CPFG
