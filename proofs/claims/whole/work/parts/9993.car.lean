/-! ===== a run of a program: carryOut and runs ===== -/
def RPO (ar : Nat → Nat) (hl : List Nat) (C : Nat) (K : cp_K) (S : cp_S) (ρ : Nat → Nat → Prop) (nv nc n : Nat) (K' : cp_K) (S2 : cp_S) (ρ' : Nat → Nat → Prop) (nv' nc' w' : Nat) : Prop :=
  (VI (rat K' 7) (rsz K' 7) S2.2 nv' nc' ρ' hl C ∧ AR ar (rat K' 7) ρ' ∧ (∀ x y, ρ x y → ρ' x y)) ∧ (KF rs6 (kI (kI K 23 3 (nI w')) 23 4 (K.2.1 23 4 + nI w')) K' ∧ BS K' n ∧ (∀ q, q = 15 ∨ q = 17 ∨ q = 19 → ∀ x, x < n → rat K' q x = rat K q x) ∧ rsz K 7 ≤ rsz K' 7 ∧ rsz K' 7 ≤ rsz K 7 + 9 * w' ∧ ∀ x, x < rsz K 7 → rat K' 7 x = rat K 7 x) ∧
  (S2.1 35 = nI nv' ∧ S2.1 40 = nI nc' ∧ S2.1 60 = S.1 60 + nI w') ∧ (w' ≤ 100 ∧ nv ≤ nv' ∧ nv' ≤ nv + w' ∧ nc ≤ nc' ∧ nc' ≤ nc + w' ∧ rsz K' 9 < 16000 ∧ rsz K' 11 < 16000) ∧ ((∀ k, k ∉ ([35, 40, 44, 60, 61, 62, 63, 64, 70] : List Nat) → S2.1 k = S.1 k) ∧ ∀ p, (p < 52 ∨ p = 57 ∨ (62 < p ∧ p < 72) ∨ 78 < p) → S2.2 p = S.2 p) ∧ (∀ p, 52 ≤ p → p ≤ 55 → ∀ r, r < nv → S2.2 p r = S.2 p r) ∧ ∀ t, t < nc → S2.2 56 t = S.2 56 t
theorem KF.kI {rs : List Nat} {K K' : cp_K} {p k : Nat} {x : Int32} (h : KF rs K K') : KF rs (kI K p k x) (kI K' p k x) := ⟨by rw [kI_i, kI_i, h.1], h.2.1, h.2.2.1, h.2.2.2.1, h.2.2.2.2.1, h.2.2.2.2.2⟩
theorem runs_binds {c : Nat} {ps : List Nat} (hm : ps.length ≤ 4) (hc : c < 26) (b : Nat → Nat → Int32) (h31 : b 31 c = nI ps.length) (hps : ∀ x (h : x < ps.length), b 37 (4 * c + x) = nI ps[x]) : ∀ (k t : Nat) (S : cp_S), t + k = ps.length → S.1 70 = nI t → (∀ p, p < 76 → S.2 p = b p) → ∃ T : cp_S, (∀ k, k ≠ 70 → T.1 k = S.1 k) ∧ T.1 70 = nI ps.length ∧ (∀ p, p < 76 ∨ 78 < p → T.2 p = S.2 p) ∧ (∀ p, 76 ≤ p → p ≤ 78 → ∀ x, x < t → T.2 p x = S.2 p x) ∧ (∀ x, t ≤ x → (h : x < ps.length) → T.2 76 (0 + x) = nI ps[x] ∧ T.2 77 (0 + x) = b 71 x ∧ T.2 78 (0 + x) = zf (-1) 0 x) ∧ ∀ (o : Option Value) (S1 S' : cp_S), MC 0 m_M_enter [.int (b 36 c), .int (zf (-1) 0 ps.length)] T none S1 → LPR (nI c) (zf (-1) 0 ps.length) o S' S1 → JJ 4 m_M_runs o S' 24 [(1, .int (nI c)), (2, .int (zf (-1) 0 t)), (3, .int (nI t))] S
  | 0, t, S, ht, h70, hlo => by
    have : t = ps.length := by omega
    subst this
    refine ⟨S, fun _ _ => rfl, h70, fun _ _ => rfl, fun _ _ _ _ _ => rfl, fun x x1 x2 => by omega, fun o S1 S' mm lp => b_M_runs_24 ?_⟩
    unfold wp_M_runs_24
    rw [nI_clamp (show c < 2 ^ 31 by omega), hlo 31 (by omega), h31, hlo 36 (by omega)]
    exact ⟨vp_in_nI (show c < 26 by omega) (by decide), fun _ => ⟨vp_in_nI (show c < 26 by omega) (by decide), S1, mm, lp _⟩, fun hn => absurd (nI_le (by omega) (by omega)) hn⟩
  | k + 1, t, S, ht, h70, hlo => by
    have hlt : t < ps.length := by omega
    have blo : ∀ p, p < 76 ∨ 78 < p → (bnd S t (nI ps[t]) (b 71 t) (zf (-1) 0 t)).2 p = S.2 p := fun p hp => by
      unfold bnd
      simp only [cp_up_ne (show p ≠ 78 by omega), cp_up_ne (show p ≠ 77 by omega), cp_up_ne (show p ≠ 76 by omega)]
    obtain ⟨T, t1, t2, t3, t4, t5, t6⟩ := runs_binds hm hc b h31 hps k (t + 1) (bnd S t (nI ps[t]) (b 71 t) (zf (-1) 0 t)) (by omega) rfl (fun p hp => (blo p (by omega)).trans (hlo p hp))
    have b76 : ∀ x, (bnd S t (nI ps[t]) (b 71 t) (zf (-1) 0 t)).2 76 x = if x = t then nI ps[t] else S.2 76 x := fun x => by
      unfold bnd
      simp only [cp_up_ne (show (76 : Nat) ≠ 78 by decide), cp_up_ne (show (76 : Nat) ≠ 77 by decide), va_up_at]
      by_cases hx : x = t
      · rw [if_pos hx, hx, pk_us]
      · rw [if_neg hx, pk_un hx]
    have b77 : ∀ x, (bnd S t (nI ps[t]) (b 71 t) (zf (-1) 0 t)).2 77 x = if x = t then b 71 t else S.2 77 x := fun x => by
      unfold bnd
      simp only [cp_up_ne (show (77 : Nat) ≠ 78 by decide), va_up_at, cp_up_ne (show (77 : Nat) ≠ 76 by decide)]
      by_cases hx : x = t
      · rw [if_pos hx, hx, pk_us]
      · rw [if_neg hx, pk_un hx]
    have b78 : ∀ x, (bnd S t (nI ps[t]) (b 71 t) (zf (-1) 0 t)).2 78 x = if x = t then zf (-1) 0 t else S.2 78 x := fun x => by
      unfold bnd
      simp only [va_up_at, cp_up_ne (show (78 : Nat) ≠ 77 by decide), cp_up_ne (show (78 : Nat) ≠ 76 by decide)]
      by_cases hx : x = t
      · rw [if_pos hx, hx, pk_us]
      · rw [if_neg hx, pk_un hx]
    refine ⟨T, fun k hk => (t1 k hk).trans (by unfold bnd; exact cp_up_ne hk), t2, fun p hp => (t3 p hp).trans (blo p hp), fun p p1 p2 x hx => ?_, fun x x1 x2 => ?_, fun o S1 S' mm lp => b_M_runs_24 ?_⟩
    · rw [t4 p p1 p2 x (by omega)]
      have hp : p = 76 ∨ p = 77 ∨ p = 78 := by omega
      rcases hp with rfl | rfl | rfl
      · rw [b76, if_neg (by omega)]
      · rw [b77, if_neg (by omega)]
      · rw [b78, if_neg (by omega)]
    · by_cases hx : x = t
      · subst hx
        rw [t4 76 (by omega) (by omega) _ (by omega), t4 77 (by omega) (by omega) _ (by omega), t4 78 (by omega) (by omega) _ (by omega), Nat.zero_add, b76, b77, b78, if_pos rfl, if_pos rfl, if_pos rfl]
        exact ⟨rfl, rfl, rfl⟩
      · exact t5 x (by omega) x2
    · unfold wp_M_runs_24
      rw [nI_clamp (show c < 2 ^ 31 by omega), nI_clamp (show t < 2 ^ 31 by omega), hlo 31 (by omega), h31, show (4 : Int32) = nI 4 from rfl, pk_mul, nI_add, nI_clamp (show 4 * c + t < 2 ^ 31 by omega), hlo 37 (by omega), hlo 71 (by omega), hps t hlt, nI_1]
      refine ⟨vp_in_nI (show c < 26 by omega) (by decide), fun hn => absurd hn (nI_ge (by omega) (by omega)), fun _ => ⟨vp_in_nI (show 4 * c + t < 104 by omega) (by decide), vp_in_nI (show t < 6 by omega) (by decide), _, MC_bind h70 (by omega), ?_⟩⟩
      rw [show (bnd S t (nI ps[t]) (b 71 t) (zf (-1) 0 t)).1 70 - 1 = zf (-1) 0 (t + 1) from by
        show nI (t + 1) - 1 = nI (0 + t)
        rw [Nat.zero_add]; exact nI_pred _]
      exact t6 o S1 S' mm lp
section CPCO
variable {ar : Nat → Nat} {hl : List Nat} {C : Nat} {K : cp_K} {S : cp_S} {ρ : Nat → Nat → Prop} {nv nc n : Nat}
theorem run_m {c m : Nat} (V : VI (rat K 7) (rsz K 7) S.2 nv nc ρ hl C) (hh : ∀ h ∈ hl, h + 3 ≤ rsz K 7) (hA : AR ar (rat K 7) ρ) (h35 : S.1 35 = nI nv) (h40 : S.1 40 = nI nc) (hB : BS K (n + m)) (hn : n ≤ 9000) (hnv : nv + 100 < 6000) (hnc : nc + 100 < 6000) (h7 : rsz K 7 < 1047000) (h9 : rsz K 9 < 16000) (h11 : rsz K 11 < 16000) (hD : DIC K S.2 ar) (hc : c < 26) (h30 : S.2 30 c = 2) (h31 : S.2 31 c = nI m) (hm : m ≤ 4) (hArg : ∀ x, x < m → ∃ v r, rat K 17 (n + x) = nI v ∧ v < 2 ^ 31 ∧ S.2 71 x = nI r ∧ ρ v r) :
    ∃ (x z : Int32) (K' : cp_K) (S' : cp_S) (ρ' : Nat → Nat → Prop) (nv' nc' w' : Nat), KC 332 m_U_carryOut (fun G => [.ref (cp_b G + 23), .int (nI (65 + c)), .int (nI n)]) K (fun _ => some (.int x)) K' ∧ MC 4 m_M_runs [.int (nI c)] S (some (.int z)) S' ∧ RPO ar hl C K S ρ nv nc n K' S' ρ' nv' nc' w' ∧ ((x = -1 ∧ z = -1) ∨ ∃ v r, x = nI v ∧ z = nI r ∧ ρ' v r) := by
  obtain ⟨ps, k, i, j, q1, q2, q3, q4, q5, q6, q7, q8, q9, q10, q11⟩ := (hD c hc).2 h30
  have : m = ps.length := by rw [h31] at q6; exact (nI_eq (by omega) (by omega)).mp q6
  subst this
  obtain ⟨t, ht⟩ : ∃ t, ps.length = t + 1 := ⟨ps.length - 1, by omega⟩
  have hd0 : ¬ dfind K (nI (65 + c)) = 0 := by rw [dfind_of hc]; have := q1.1; omega
  have nk0 : NK K (kI K 23 3 0) := ⟨fun q k hq => by rw [kI_i, cp_up_ne (by omega)], rfl, fun q c hq => nd_kI hq⟩
  obtain ⟨Kn, k1, k2, k3, k4, k5⟩ := nam_loop (D := 0) (x2 := nI n) ps _ n (kI K 23 3 0) (PCH.mv nk0 ps _ _ q8) (nk0.2.2 _ _ q1) (by rw [nk0.2.1]; exact nk0.2.2 _ _ q3) (by rw [nk0.2.1]) (show rsz K 15 = n + ps.length from hB.1) (by omega) (by omega)
  have knm : KC 8 m_U_nameArguments (fun G => [.ref (cp_b G + 23), va_rf (kr G (K.2.2.1 4 c)), .int (nI n)]) (kI K 23 3 0) (fun _ => none) Kn := c_U_nameArguments (D := 0) (o := fun _ => none) ⟨nk0.2.2 _ _ q1, nk0.2.2 _ _ q3, k5⟩
  have nkn : NK K Kn := nk0.trans k1.nk
  have hBn : BS Kn (n + ps.length) := ⟨k2, by rw [(k1.2.2.1 17 (by decide)).1]; exact hB.2.1, by rw [(k1.2.2.1 19 (by decide)).1]; exact hB.2.2⟩
  have e7 := k1.2.2.1 7 (by decide)
  have e7a : rat Kn 7 = rat K 7 := e7.2
  have e7s : rsz Kn 7 = rsz K 7 := e7.1
  obtain ⟨S0, hS0⟩ : ∃ S0 : cp_S, S0 = ((va_up (va_up (va_up (va_up S.1 61 0) 62 0) 70 0) 63 0), S.2) := ⟨_, rfl⟩
  have s0k : ∀ k, k ∉ ([61, 62, 63, 70] : List Nat) → S0.1 k = S.1 k := fun k hk => by
    simp only [List.mem_cons, List.not_mem_nil, or_false, not_or] at hk
    rw [hS0]
    show va_up (va_up (va_up (va_up S.1 61 0) 62 0) 70 0) 63 0 k = _
    rw [cp_up_ne hk.2.2.1, cp_up_ne hk.2.2.2, cp_up_ne hk.2.1, cp_up_ne hk.1]
  have s02 : S0.2 = S.2 := by rw [hS0]
  obtain ⟨Sb, t1, t2, t3, -, t5, t6⟩ := runs_binds q5 hc S.2 q6 q7 ps.length 0 S0 (by omega) (by rw [hS0]; rfl) (fun p _ => by rw [s02])
  have bkb : BK S.2 Sb.2 := fun p hp => by rw [t3 p (by omega), s02]
  have E2 : ENV Kn Sb.2 (0 + ps.length) n (nI (0 + t)) (fun c => c ∈ ps) ρ := ENV_call (PCH_26 ps _ _ q8) k2 (fun x hx => by
    obtain ⟨v, r, z1, z2, z3, z4⟩ := hArg x hx
    obtain ⟨u1, u2, u3⟩ := t5 x (by omega) hx
    refine ⟨k4 x hx, u1, fun x' hx' => by rw [u3, hx']; rfl, v, r, ?_, z2, u2.trans z3, z4⟩
    rw [(k1.2.2.1 17 (by decide)).2]
    exact z1) ht
  have ezf : zf (-1) 0 ps.length = nI (0 + t) := by rw [ht]; rfl
  have W0 : WST ar hl C Kn Sb ρ nv nc 0 0 (0 + ps.length) (n + ps.length) := by
    refine ⟨⟨?_, by rw [e7s]; exact hh, by rw [e7a]; exact hA⟩, ⟨?_, ?_, ?_, ?_, ?_, by rw [Nat.zero_add]; exact t2⟩, ⟨?_, hBn⟩, by omega, by omega, by omega, by omega, by omega, by omega, by omega, ?_, ?_⟩
    · rw [e7a, e7s]; exact V.ga hh (fun p p1 p2 => by rw [t3 p (by omega), s02])
    · rw [t1 35 (by decide), s0k 35 (by decide)]; exact h35
    · rw [t1 40 (by decide), s0k 40 (by decide)]; exact h40
    · rw [t1 61 (by decide), hS0]; rfl
    · rw [t1 62 (by decide), hS0]; rfl
    · rw [t1 63 (by decide), hS0]; rfl
    · rw [k1.1, kI_i, va_up_at, va_up_at]; rfl
    · rw [(k1.2.2.1 9 (by decide)).1]; exact h9
    · rw [(k1.2.2.1 11 (by decide)).1]; exact h11
  have hW := W_all (ar := ar) (hl := hl) (C := C) 101 Kn Sb ρ nv nc 0 0 (0 + ps.length) (n + ps.length) (K.2.2.1 (K.2.2.1 (K.2.2.1 4 c) 4) 5) n i (nI (0 + t)) k _ j W0 (fun e' he => by omega) (hD.mv nkn bkb) (CR.mv nkn bkb k _ _ _ _ q11) q10 E2 (by omega) (by omega)
  have toR : ∀ (o : Option Value) (S1 S' : cp_S), MC 0 m_M_enter [.int (nI i), .int (nI (0 + t))] Sb none S1 → LPR (nI c) (nI (0 + t)) o S' S1 → MC 4 m_M_runs [.int (nI c)] S o S' := fun o S1 S' mm lp => by
    refine c_M_runs (b_M_runs_0 ?_)
    unfold wp_M_runs_0
    rw [← hS0]
    refine t6 o S1 S' ?_ ?_
    · rw [ezf, q9]; exact mm
    · rw [ezf]; exact lp
  have toC : ∀ (x : Int32) (K5 : cp_K), KC (WD 0) m_U_work (fun G => [.ref (cp_b G + 23), va_rf (kr G (K.2.2.1 (K.2.2.1 (K.2.2.1 4 c) 4) 5)), .int (nI (0 + 1)), .int (nI n)]) Kn (fun _ => some (.int x)) K5 → KC 332 m_U_carryOut (fun G => [.ref (cp_b G + 23), .int (nI (65 + c)), .int (nI n)]) K (fun _ => some (.int x)) (kI (bcut K5 (nI n)) 23 4 (((bcut K5 (nI n)).2.1 23 4) + ((bcut K5 (nI n)).2.1 23 3))) := fun x K5 kk => by
    refine c_U_carryOut (D := 324) (o := fun _ => some (.int x)) ⟨fun _ => ⟨Kn, ?_, ?_, ?_, x, K5, ?_, rfl, rfl⟩, fun hn => absurd hn hd0⟩
    · rw [dfind_of hc]; exact knm.mono (by omega)
    · rw [dfind_of hc]; exact nkn.2.2 _ _ q1
    · rw [dfind_of hc, nkn.2.1]; exact nkn.2.2 _ _ q3
    · rw [dfind_of hc, nkn.2.1]; exact kk.mono (by unfold WD; omega)
  have post : ∀ (K5 : cp_K) (S5 S6 : cp_S) (ρ' : Nat → Nat → Prop) (nv' nc' w' n' cc dv : Nat), WPO ar hl C Kn Sb ρ nv nc 0 0 (0 + ps.length) (n + ps.length) K5 S5 ρ' nv' nc' w' n' cc dv → n + ps.length ≤ n' → n' ≤ 11000 → S6.2 = S5.2 → (∀ k, k ≠ 62 → k ≠ 64 → S6.1 k = S5.1 k) → RPO ar hl C K S ρ nv nc n (kI (bcut K5 (nI n)) 23 4 (((bcut K5 (nI n)).2.1 23 4) + ((bcut K5 (nI n)).2.1 23 3))) S6 ρ' nv' nc' w' := by
    intro K5 S5 S6 ρ' nv' nc' w' n' cc dv hP hn1 hn2 hS6 hs6
    obtain ⟨⟨a1, a2, a3⟩, ⟨a4, a5, a6, a7, a8, a9⟩, ⟨a10, a11, a12, a13⟩, ⟨b1, b2, b3, b4, b5, b6, b7, b8⟩, ⟨f1, f2, -⟩, f6, f7⟩ := hP
    have kb : KF [15, 17, 19] K5 (bcut K5 (nI n)) := KF.bcut
    have g7 := kb.2.2.1 7 (by decide)
    have c0 : (bcut K5 (nI n)).2.1 = K5.2.1 := kb.1
    have v4 : K5.2.1 23 4 = K.2.1 23 4 := by rw [a4.1, kI_i, va_up_at, cp_up_ne (by decide), k1.1, kI_i, va_up_at, cp_up_ne (by decide)]
    have v3 : K5.2.1 23 3 = nI w' := KU.s a4
    have kall : KF rs6 (kI (kI K 23 3 (nI w')) 23 4 (K.2.1 23 4 + nI w')) (kI (bcut K5 (nI n)) 23 4 (((bcut K5 (nI n)).2.1 23 4) + ((bcut K5 (nI n)).2.1 23 3))) := by
      have h1 : KF rs6 (kI K 23 3 (nI w')) (bcut K5 (nI n)) := (KU.trans (k1.sub (by decide)) a4).trans (kb.sub (by decide))
      have e1 : (bcut K5 (nI n)).2.1 23 4 + (bcut K5 (nI n)).2.1 23 3 = K.2.1 23 4 + nI w' := by rw [c0, v4, v3]
      rw [e1]
      exact h1.kI
    refine ⟨⟨?_, ?_, a3⟩, ⟨kall, ?_, ?_, ?_, ?_, ?_⟩, ⟨?_, ?_, ?_⟩, ⟨b2, b3, by omega, b5, by omega, ?_, ?_⟩, ⟨fun k hk => ?_, fun p hp => ?_⟩, fun p p1 p2 r hr => ?_, fun t ht => ?_⟩
    · show VI (rat (bcut K5 (nI n)) 7) (rsz (bcut K5 (nI n)) 7) S6.2 nv' nc' ρ' hl C
      rw [g7.1, g7.2, hS6]; exact a1
    · show AR ar (rat (bcut K5 (nI n)) 7) ρ'
      rw [g7.2]; exact a2
    · exact bcut_BS a5 (m := n) (by omega) (by omega)
    · intro q hq x hx
      show rat (bcut K5 (nI n)) q x = _
      rw [bcut_at, a6 q hq x (by omega)]
      rcases hq with rfl | rfl | rfl
      · exact k3 x hx
      · rw [(k1.2.2.1 17 (by decide)).2]; rfl
      · rw [(k1.2.2.1 19 (by decide)).2]; rfl
    · show rsz K 7 ≤ rsz (bcut K5 (nI n)) 7
      rw [g7.1]; omega
    · show rsz (bcut K5 (nI n)) 7 ≤ _
      rw [g7.1]; omega
    · intro x hx
      show rat (bcut K5 (nI n)) 7 x = _
      rw [g7.2, a9 x (by omega), e7a]
    · rw [hs6 35 (by decide) (by decide)]; exact a10
    · rw [hs6 40 (by decide) (by decide)]; exact a11
    · rw [hs6 60 (by decide) (by decide), a13, t1 60 (by decide), s0k 60 (by decide), Nat.sub_zero]
    · show rsz (bcut K5 (nI n)) 9 < 16000
      rw [(kb.2.2.1 9 (by decide)).1]; exact b7
    · show rsz (bcut K5 (nI n)) 11 < 16000
      rw [(kb.2.2.1 11 (by decide)).1]; exact b8
    · rw [hs6 k (fun q => hk (by rw [q]; decide)) (fun q => hk (by rw [q]; decide)), f1 k hk, t1 k (fun q => hk (by rw [q]; decide)), s0k k (fun q => hk (by simp only [List.mem_cons, List.not_mem_nil, or_false] at q ⊢; omega))]
    · rw [hS6, f2 p hp, t3 p (by omega), s02]
    · rw [hS6, f6 p p1 p2 r hr, t3 p (by omega), s02]
    · rw [hS6, f7 t ht, t3 56 (by omega), s02]
  rcases hW with ⟨v, r, w', K5, S1, S2, ρ', nv', nc', B', a1, a2, a3, a4, a5, a6, a7, a8, a9, a10, a11, a12⟩ | ⟨w', K5, S1, S2, ρ', nv', nc', n', a1, a2, a3, a4, a5, a6⟩
  · have ld : LPR (nI c) (nI (0 + t)) (some (.int (nI r))) (giv0 S2 (nI r)) (giv0 S2 (nI r)) := by
      have := lp_done (x1 := nI c) (x2 := nI (0 + t)) (S := giv0 S2 (nI r)) rfl (by unfold giv0; simp [va_up]; exact a7)
      exact this
    exact ⟨nI v, nI r, _, giv0 S2 (nI r), ρ', nv', nc', w', toC _ _ a1, toR _ S1 _ a2 (a3 _ _ _ _ ld), post K5 S2 _ ρ' nv' nc' w' _ 1 0 a4 (Nat.le_refl _) (by omega) rfl (fun k k1 k2 => by unfold giv0; simp only [cp_up_ne k2, cp_up_ne k1]), Or.inr ⟨v, r, rfl, rfl, a11⟩⟩
  · exact ⟨-1, -1, _, S2, ρ', nv', nc', w', toC _ _ a1, toR _ S1 _ a2 (a3 _ _), post K5 S2 S2 ρ' nv' nc' w' n' 0 0 a4 a5 a6 rfl (fun _ _ _ => rfl), Or.inl ⟨rfl, rfl⟩⟩
end CPCO
