/-! ===== the head of a value, both sides ===== -/
def HDC (f : Nat → Int32) (N u : Nat) (cs : List Nat) (A : List (Nat × Nat)) : Prop := ∀ (K : cp_K) (n : Nat) (L : List Int32), rat K 7 = f → rsz K 7 = N → DN K n → RS K 9 L → L.length ≤ 1290 → ∃ K', KC 9 m_V_writeHead (fun G => [.ref (cp_b G + 6), .int (nI u)]) K (fun _ => none) K' ∧ DN K' (min (n + cs.length) 101) ∧ WF K K' ∧ (∀ i, i < n → K'.2.1 13 i = K.2.1 13 i) ∧ (∀ i (h : i < cs.length), n + i < 101 → K'.2.1 13 (n + i) = nI cs[i]) ∧ RS K' 9 (A.map (fun q => nI q.1) ++ (if A.length = 0 then L else -1 :: L))
def HDR (a : Nat → Nat → Int32) (s : Nat) (cs : List Nat) : Prop := ∀ (S : cp_S) (m n : Nat), GE S a → S.1 75 = nI m → m ≤ 100 → n ≤ 100 → (S.1 74 = 0 ∨ S.1 74 = 1) → ∃ n' S', MC 0 m_M_drawOne [.int (nI s), .int (nI n)] S (some (.int (nI n'))) S' ∧ (n + cs.length ≤ 100 → n' = n + cs.length) ∧ (100 < n + cs.length → 100 < n') ∧ n' ≤ 112 ∧ DRO S S' s n m cs
theorem RS.wp {K K' : cp_K} {r : Nat} {L : List Int32} (h : RS K r L) (e : K'.2.2.2 = K.2.2.2) : RS K' r L := by
  have e1 : rsz K' r = rsz K r := by unfold rsz; rw [e]
  have e2 : rat K' r = rat K r := by unfold rat; rw [e]
  unfold RS
  rw [e1, e2]
  exact h
section CPDR
variable {f : Nat → Int32} {N : Nat} {a : Nat → Nat → Int32} {nv nc C : Nat} {ρ : Nat → Nat → Prop} {hl : List Nat}
theorem HDC.leaf {u : Nat} {cs : List Nat} (hc : ∀ c ∈ cs, c < 128) (hk : ∀ (K : cp_K) (n : Nat), rat K 7 = f → rsz K 7 = N → DN K n → KC 9 m_V_writeHead (fun G => [.ref (cp_b G + 6), .int (nI u)]) K (fun _ => none) (wputs K cs)) : HDC f N u cs [] := fun K n L e1 e2 hd hR hL => by
  obtain ⟨a1, a2, a3, a4, a5⟩ := puts_all cs K n hd hc
  exact ⟨wputs K cs, hk K n e1 e2 hd, a1, a2, a3, a4, hR.wp a5⟩
theorem wcon_push {u : Nat} {A : List (Nat × Nat)} {L : List Int32} (hu : u + 3 + A.length ≤ N) (hN : N ≤ 1048576) (hA : ∀ i (hi : i < A.length), f (u + 3 + i) = nI A[i].1) (hA1 : A.length ≤ 6) : ∀ (j : Nat) (K : cp_K), j ≤ A.length → rat K 7 = f → rsz K 7 = N → RS K 9 ((A.drop j).map (fun q => nI q.1) ++ L) → L.length ≤ 1300 →
    ∃ K1, KF [9] K K1 ∧ RS K1 9 (A.map (fun q => nI q.1) ++ L) ∧ JC 8 m_V_writeConstant (fun _ => .inl none) K1 41 (fun G => [(0, .ref (cp_b G + 6)), (1, .int (nI u)), (2, .int (nI j - 1))]) (fun _ => []) K
  | 0, K, _, _, _, hR, _ => ⟨K, KF.refl, hR, b_V_writeConstant_41 (D := 0) ⟨fun _ => ⟨rfl, rfl⟩, fun hn => absurd (show nI 0 - 1 < 0 by decide) hn⟩⟩
  | j + 1, K, hj, e1, e2, hR, hL => by
    have hs : rsz K 7 < 2 ^ 31 := by omega
    have hsz : rsz K 9 < 2000 := by
      rw [hR.1, List.length_append, List.length_map, List.length_drop]
      omega
    have eA : nI u + 3 + nI j = nI (u + 3 + j) := by rw [show (3 : Int32) = nI 3 from rfl, nI_add, nI_add]
    have hget : rget K 7 (nI u + 3 + nI j) = nI A[j].1 := by rw [eA, rget_of (by omega) hs, e1]; exact hA j (by omega)
    have hd : A.drop j = A[j] :: A.drop (j + 1) := List.drop_eq_getElem_cons (by omega)
    have kf : KF [9] K (kpush K 9 (nI A[j].1)) := KF.push (by decide)
    obtain ⟨K1, g1, g2, g3⟩ := wcon_push hu hN hA hA1 j (kpush K 9 (nI A[j].1)) (by omega) (by rw [(kf.2.2.1 7 (by decide)).2]; exact e1) (by rw [(kf.2.2.1 7 (by decide)).1]; exact e2) (by rw [hd]; exact hR.push) hL
    refine ⟨K1, kf.trans g1, g2, b_V_writeConstant_41 (D := 0) ?_⟩
    unfold wp_V_writeConstant_41
    rw [nI_pred, hget]
    refine ⟨fun hn => absurd hn (nI_pos (by omega)), fun _ => ⟨by show rsz K 9 < 16384; omega, ?_⟩⟩
    rw [show nI j + (-1) = nI j - 1 from (Int32.sub_eq_add_neg _ _).symm]
    exact g3
/-- the class: a letter and its arguments -/
theorem HDC.con {u l : Nat} {A : List (Nat × Nat)} (hl : l < 26) (hu : u + 3 + A.length ≤ N) (hN : N ≤ 1048576) (hA : ∀ i (hi : i < A.length), f (u + 3 + i) = nI A[i].1) (hA1 : A.length ≤ 6) (f0 : f u = 6) (f1 : f (u + 1) = nI (65 + l)) (f2 : f (u + 2) = nI A.length) : HDC f N u (if A.length = 0 then [65 + l] else [65 + l, 40]) A := fun K n L e1 e2 hd hR hL => by
  have g : ∀ (K : cp_K) j, rat K 7 = f → rsz K 7 = N → j < 3 → rget K 7 (nI u + nI j) = f (u + j) := fun K j e1 e2 hj => by
    rw [nI_add, rget_of (by omega) (by omega), e1]
  have g0 : rget K 7 (nI u) = 6 := by rw [rget_of (by omega) (by omega), e1]; exact f0
  have g1 : ∀ K : cp_K, rat K 7 = f → rsz K 7 = N → rget K 7 (nI u + 1) = nI (65 + l) := fun K e1 e2 => (g K 1 e1 e2 (by decide)).trans f1
  have g2 : ∀ K : cp_K, rat K 7 = f → rsz K 7 = N → rget K 7 (nI u + 2) = nI A.length := fun K e1 e2 => (g K 2 e1 e2 (by decide)).trans f2
  have head : ∀ K', KC 8 m_V_writeConstant (fun G => [.ref (cp_b G + 6), .int (nI u)]) K (fun _ => none) K' → KC 9 m_V_writeHead (fun G => [.ref (cp_b G + 6), .int (nI u)]) K (fun _ => none) K' := fun K' w => c_V_writeHead (D := 1) (by
    unfold wp_V_writeHead_0
    rw [g0]
    exact ⟨fun e => absurd e (by decide), fun e => absurd e (by decide), fun e => absurd e (by decide), fun e => absurd e (by decide), fun e => absurd e (by decide), fun _ => ⟨K', w, rfl, rfl⟩, fun e => absurd rfl (e 6 (by decide))⟩)
  have hc0 : (Int32.toUInt32 (nI (65 + l)) % 65536).toInt32 = nI (65 + l) := (nar_ch _ (by omega)).2
  by_cases hA0 : A.length = 0
  · have hnil : A = [] := List.length_eq_zero_iff.mp hA0
    subst hnil
    have pa := puts_all [65 + l] K n hd (fun c hc => by rw [List.mem_singleton] at hc; omega)
    obtain ⟨a1, a2, a3, a4, a5⟩ := pa
    refine ⟨wputs K [65 + l], head _ (c_V_writeConstant (D := 0) ?_), a1, a2, a3, a4, hR.wp a5⟩
    have e7 := a2.2.2.1 7 (by decide)
    unfold wp_V_writeConstant_0
    rw [g1 K e1 e2, hc0]
    have e2' : rget (wput K (nI (65 + l))) 7 (nI u + 2) = 0 := g2 (wputs K [65 + l]) (e7.2.trans e1) (e7.1.trans e2)
    exact ⟨hd.n0, fun q => absurd e2' q, fun _ => ⟨rfl, rfl⟩⟩
  · rw [if_neg hA0, if_neg hA0]
    obtain ⟨a1, a2, a3, a4, a5⟩ := puts_all [65 + l, 40] K n hd (fun c hc => by
      rcases List.mem_cons.mp hc with h | h
      · omega
      · rw [List.mem_singleton] at h; omega)
    obtain ⟨b1, b2, -, -, -⟩ := puts_all [65 + l] K n hd (fun c hc => by rw [List.mem_singleton] at hc; omega)
    have kf : KF [9] (wputs K [65 + l, 40]) (kpush (wputs K [65 + l, 40]) 9 (-1)) := KF.push (by decide)
    have e7 := a2.2.2.1 7 (by decide)
    have e7b := b2.2.2.1 7 (by decide)
    have k7 := kf.2.2.1 7 (by decide)
    have hR1 : RS (kpush (wputs K [65 + l, 40]) 9 (-1)) 9 (-1 :: L) := (hR.wp a5).push
    obtain ⟨K1, c1, c2, c3⟩ := wcon_push (L := -1 :: L) hu hN hA hA1 A.length (kpush (wputs K [65 + l, 40]) 9 (-1)) (Nat.le_refl _) (k7.2.trans (e7.2.trans e1)) (k7.1.trans (e7.1.trans e2)) (by rw [List.drop_length]; exact hR1) (by rw [List.length_cons]; omega)
    have wf : WF K K1 := (a2.trans (WF.of kf)).trans (WF.of c1)
    have i13 : K1.2.1 = (wputs K [65 + l, 40]).2.1 := c1.1.trans kf.1
    refine ⟨K1, head _ (c_V_writeConstant (D := 0) ?_), ⟨by rw [i13]; exact a1.1, a1.2⟩, wf, fun i hi => by rw [i13]; exact a3 i hi, fun i hi h => by rw [i13]; exact a4 i hi h, c2⟩
    unfold wp_V_writeConstant_0
    rw [g1 K e1 e2, hc0]
    have q1 : rget (wput K (nI (65 + l))) 7 (nI u + 2) = nI A.length := g2 (wputs K [65 + l]) (e7b.2.trans e1) (e7b.1.trans e2)
    have q2 : rget (kpush (wput (wput K (nI (65 + l))) 40) 9 (-1)) 7 (nI u + 2) = nI A.length := g2 (kpush (wputs K [65 + l, 40]) 9 (-1)) (k7.2.trans (e7.2.trans e1)) (k7.1.trans (e7.1.trans e2))
    rw [q1, q2]
    refine ⟨hd.n0, fun _ => ⟨DN.n0 (K := wputs K [65 + l]) b1, ?_, c3⟩, fun q => absurd q (nI_ne0 (by omega) (by omega))⟩
    show rsz (wputs K [65 + l, 40]) 9 < 16384
    have := (hR.wp a5).1
    omega
/-- both sides -/
theorem head_m (V : VI f N a nv nc ρ hl C) (h5 : ∀ v r, ρ v r → ¬ f v = 5) {u s : Nat} (h : ρ u s) (hs : stl f u) : ∃ (cs : List Nat) (t : Nat) (A : List (Nat × Nat)), (1 ≤ cs.length ∧ (∀ c ∈ cs, c < 128) ∧ (95 ∈ cs ↔ f u = 4) ∧ (0 < A.length → f u = 6 ∧ cs.length = 2)) ∧ (A.length ≤ 6 ∧ f (u + 2) = nI A.length ∧ a 55 s = nI A.length ∧ (0 < A.length → a 54 s = nI t ∧ t + A.length ≤ 6000) ∧ u + 3 + A.length ≤ N ∧ (∀ q ∈ A, ρ q.1 q.2) ∧ (∀ i (hi : i < A.length), f (u + 3 + i) = nI A[i].1) ∧ (∀ i (hi : i < A.length), a 56 (t + i) = nI A[i].2)) ∧ HDC f N u cs A ∧ HDR a s cs := by
  obtain ⟨t, A, a1, a2, a3, a4, a5, a6, a7, a8⟩ := args_of V h
  have hN := V.2.2.2.2.2.2.2
  obtain ⟨b1, b2, b3⟩ := V.1.1 u s h
  have hs6 : s < 6000 := by have := V.2.2.2.2.2.1; omega
  have ge : ∀ (S : cp_S) p x, GE S a → 52 ≤ p → p ≤ 56 → S.2 p x = a p x := fun S p x g p1 p2 => by rw [g p p1 p2]
  have arg := (⟨a1, a2, a3, a4, a5, a6, a7, ws_at A t a8⟩ : A.length ≤ 6 ∧ f (u + 2) = nI A.length ∧ a 55 s = nI A.length ∧ (0 < A.length → a 54 s = nI t ∧ t + A.length ≤ 6000) ∧ u + 3 + A.length ≤ N ∧ (∀ q ∈ A, ρ q.1 q.2) ∧ (∀ i (hi : i < A.length), f (u + 3 + i) = nI A[i].1) ∧ (∀ i (hi : i < A.length), a 56 (t + i) = nI A[i].2))
  have nil : f (u + 2) = 0 → A = [] := fun e => by
    rw [a2] at e
    exact List.length_eq_zero_iff.mp ((nI_eq (b := 0) (by omega) (by omega)).mp e)
  have lett : ∀ c, c < 128 → ((a 52 s = 1 ∧ c = 35) ∨ (a 52 s = 2 ∧ c = 95) ∨ (a 52 s = 3 ∧ 65 ≤ c ∧ a 53 s = nI (c - 65))) → HDR a s (if A.length = 0 then [c] else [c, 40]) := fun c hc hx S m n g h75 hm hn h74 => by
    obtain ⟨n', S', m1, m2, m3⟩ := d1_let (c := c) (k := A.length) h75 hm hs6 hn h74 (by rw [ge S 55 s g (by omega) (by omega)]; exact a3) a1 (by rw [ge S 52 s g (by omega) (by omega), ge S 53 s g (by omega) (by omega)]; exact hx) hc
    have : (if A.length = 0 then [c] else [c, 40] : List Nat).length ≤ 2 := by split <;> simp
    exact ⟨n', S', m1, fun _ => m2, fun _ => by omega, by omega, m3⟩
  have rg : ∀ K : cp_K, rat K 7 = f → rsz K 7 = N → rget K 7 (nI u) = f u := fun K e1 e2 => by rw [rget_of (by omega) (by omega), e1]
  rcases b3 with q | q | q | q | q
  · -- a number
    obtain ⟨q1, q2, q3, q4, -⟩ := q
    have hA := nil q4
    subst hA
    obtain ⟨cs, c1, c2, c3, c4, c5⟩ := d1_num (z := f (u + 1))
    refine ⟨cs, t, [], ⟨c1, fun c hc => (c3 c hc).1, ⟨fun e => absurd rfl (c3 95 e).2, fun e => absurd (q1.symm.trans e) (by decide)⟩, fun e => absurd e (by decide)⟩, arg, HDC.leaf (fun c hc => (c3 c hc).1) (fun K n e1 e2 hd => c_V_writeHead (D := 1) ?_), fun S m n g h75 hm hn h74 => c5 S m s n h75 hm hs6 hn h74 (by rw [ge S 52 s g (by omega) (by omega)]; exact q2) (by rw [ge S 53 s g (by omega) (by omega)]; exact q3.symm)⟩
    have g1 : rget K 7 (nI u + 1) = f (u + 1) := by
      have : rget K 7 (nI u + nI 1) = f (u + 1) := by rw [nI_add, rget_of (by omega) (by omega), e1]
      exact this
    unfold wp_V_writeHead_0
    rw [rg K e1 e2, q1, g1]
    exact ⟨fun _ => ⟨_, c4 K n hd, rfl, rfl⟩, fun e => absurd e (by decide), fun e => absurd e (by decide), fun e => absurd e (by decide), fun e => absurd e (by decide), fun e => absurd e (by decide), fun e => absurd rfl (e 1 (by decide))⟩
  · obtain ⟨q1, q2, -, -, q4, -⟩ := q
    have hA := nil q4
    subst hA
    refine ⟨[35], t, [], ⟨by decide, by decide, ⟨fun e => absurd e (by decide), fun e => absurd (q1.symm.trans e) (by decide)⟩, fun e => absurd e (by decide)⟩, arg, HDC.leaf (by decide) (fun K n e1 e2 hd => c_V_writeHead (D := 1) ?_), lett 35 (by decide) (Or.inl ⟨q2, rfl⟩)⟩
    unfold wp_V_writeHead_0
    rw [rg K e1 e2, q1]
    exact ⟨fun e => absurd e (by decide), fun _ => ⟨hd.n0, rfl, rfl⟩, fun e => absurd e (by decide), fun e => absurd e (by decide), fun e => absurd e (by decide), fun e => absurd e (by decide), fun e => absurd rfl (e 2 (by decide))⟩
  · exact absurd q.1 (h5 u s h)
  · obtain ⟨q1, q2, q4, -⟩ := q
    have hA := nil q4
    subst hA
    refine ⟨[95], t, [], ⟨by decide, by decide, ⟨fun _ => q1, fun _ => by decide⟩, fun e => absurd e (by decide)⟩, arg, HDC.leaf (by decide) (fun K n e1 e2 hd => c_V_writeHead (D := 1) ?_), lett 95 (by decide) (Or.inr (Or.inl ⟨q2, rfl⟩))⟩
    unfold wp_V_writeHead_0
    rw [rg K e1 e2, q1]
    exact ⟨fun e => absurd e (by decide), fun e => absurd e (by decide), fun e => absurd e (by decide), fun _ => ⟨hd.n0, rfl, rfl⟩, fun e => absurd e (by decide), fun e => absurd e (by decide), fun e => absurd rfl (e 4 (by decide))⟩
  · obtain ⟨q1, q2, l, m, t', l1, m1, f1, w1, f2, w2, w3, w4, w5, w6⟩ := q
    refine ⟨if A.length = 0 then [65 + l] else [65 + l, 40], t, A, ⟨by split <;> simp, fun c hc => ?_, ⟨fun e => ?_, fun e => absurd (q1.symm.trans e) (by decide)⟩, fun e => ⟨q1, by rw [if_neg (by omega)]; rfl⟩⟩, arg, HDC.con l1 a5 hN a7 a1 q1 f1 a2, lett (65 + l) (by omega) (Or.inr (Or.inr ⟨q2, by omega, by rw [w1, show 65 + l - 65 = l by omega]⟩))⟩
    · split at hc
      · rw [List.mem_singleton] at hc; omega
      · rcases List.mem_cons.mp hc with h | h
        · omega
        · rw [List.mem_singleton] at h; omega
    · split at e
      · rw [List.mem_singleton] at e; omega
      · rcases List.mem_cons.mp e with h | h
        · omega
        · rw [List.mem_singleton] at h; omega
end CPDR
