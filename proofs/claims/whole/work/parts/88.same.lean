/-! ===== making two values the same, both sides at once ===== -/
abbrev cp_Q : Type := (Nat × Nat) × (Nat × Nat)
/-- the class's stack of pairs, top first -/
def fl : List cp_Q → List Int32
  | [] => []
  | q :: L => nI q.2.1 :: nI q.1.1 :: fl L
theorem fl_app : ∀ (L M : List cp_Q), fl (L ++ M) = fl L ++ fl M
  | [], _ => rfl
  | q :: L, M => by
    show nI q.2.1 :: nI q.1.1 :: fl (L ++ M) = nI q.2.1 :: nI q.1.1 :: (fl L ++ fl M)
    rw [fl_app L M]
theorem fl_len : ∀ L : List cp_Q, (fl L).length = 2 * L.length
  | [] => rfl
  | q :: L => by
    show (fl L).length + 1 + 1 = 2 * (L.length + 1)
    rw [fl_len L]; omega
def rfs (L : List cp_Q) : List (Int32 × Int32) := L.map (fun q => (nI q.1.2, nI q.2.2))
theorem ws2_eq {b : Nat → Int32} : ∀ (A A' : List (Nat × Nat)) (t t' : Nat), A'.length = A.length → ws b t A.length = A.map (fun q => nI q.2) → ws b t' A.length = A'.map (fun q => nI q.2) → ws2 b t t' A.length = rfs (A.zip A')
  | [], [], _, _, _, _, _ => rfl
  | [], _ :: _, _, _, h, _, _ => by cases h
  | _ :: _, [], _, _, h, _, _ => by cases h
  | q :: A, q' :: A', t, t', h, e1, e2 => by
    obtain ⟨i1, i2⟩ := List.cons.inj (show b t :: ws b (t + 1) A.length = nI q.2 :: A.map (fun q => nI q.2) from e1)
    obtain ⟨j1, j2⟩ := List.cons.inj (show b t' :: ws b (t' + 1) A.length = nI q'.2 :: A'.map (fun q => nI q.2) from e2)
    show (b t, b t') :: ws2 b (t + 1) (t' + 1) A.length = (nI q.2, nI q'.2) :: rfs (A.zip A')
    rw [i1, j1, ws2_eq A A' (t + 1) (t' + 1) (by simpa using h) i2 j2]
def PPH (f : Nat → Int32) (N : Nat) (a0 : Nat → Nat → Int32) (ρ : Nat → Nat → Prop) (a : Nat → Nat → Int32) : Nat → List cp_Q → Prop
  | 0, L => L = []
  | d + 1, L => ∃ q L', L = q :: L' ∧ a 58 d = nI (lk f N a0 ρ q.1.1 q.1.2).2 ∧ a 59 d = nI (lk f N a0 ρ q.2.1 q.2.2).2 ∧ a 60 d = 0 ∧ PP a d (rfs L')
theorem GE.fp {S S' : cp_S} {a : Nat → Nat → Int32} (h : GE S a) (w : FP S S') : GE S' a := fun p h1 h2 => (w.2 p (by omega) (by omega) (by omega)).trans (h p h1 h2)
def QR (ρ : Nat → Nat → Prop) (L : List cp_Q) : Prop := ∀ q ∈ L, ρ q.1.1 q.1.2 ∧ ρ q.2.1 q.2.2
section CPSA
variable {N nv nc : Nat} {ρ : Nat → Nat → Prop} {hl : List Nat}
theorem np_H {f : Nat → Int32} {a : Nat → Nat → Int32} {C : Nat} (V : VI f N a nv nc ρ hl C) {S : cp_S} (hS : GE S a) {d : Nat} {L : List cp_Q} (hP : PP S.2 d (rfs L)) (hL : QR ρ L) (hd : d ≤ 1000) : ∃ d' S', MC 1 m_M_nextPair [.int (nI d)] S (some (.int (nI d'))) S' ∧ FP S S' ∧ PPH f N a ρ S'.2 d' L ∧ d' ≤ d + 1 := by
  obtain ⟨f1, f2⟩ := nxt (x := nI d) d _ hP hd
  cases L with
  | nil => exact ⟨0, S, c_M_nextPair (b_M_nextPair_0 (f1 rfl)), FP.refl, rfl, by omega⟩
  | cons q L =>
    obtain ⟨h1, h2⟩ := hL q List.mem_cons_self
    have l1 := lk_spec V h1
    have l2 := lk_spec V h2
    have s52 : S.2 52 = a 52 := hS 52 (by omega) (by omega)
    have s53 : S.2 53 = a 53 := hS 53 (by omega) (by omega)
    obtain ⟨e, S', g1, g2, g3, g4, g5, g6, g7⟩ := f2 _ _ _ _ _ rfl (fun T t1 t2 => l1.2.2.2 T (t1.trans s52) (t2.trans s53)) (fun T t1 t2 => l2.2.2.2 T (t1.trans s52) (t2.trans s53))
    exact ⟨e + 1, S', c_M_nextPair (b_M_nextPair_0 g2), g3, ⟨q, L, rfl, g4, g5, g6, g7⟩, by omega⟩
/-- the class lays pairs of arguments on its stack -/
theorem pap {f : Nat → Int32} {u u' : Nat} {A A' : List (Nat × Nat)} {L : List Int32} (hlen : A'.length = A.length) (hu : u + 3 + A.length ≤ N) (hu' : u' + 3 + A.length ≤ N) (hN : N ≤ 1048576) (hA : ∀ i (hi : i < A.length), f (u + 3 + i) = nI A[i].1) (hA' : ∀ i (hi : i < A'.length), f (u' + 3 + i) = nI A'[i].1) (hA1 : A.length ≤ 6) (hL : L.length ≤ 13000) : ∀ (j : Nat) (K : cp_K), j ≤ A.length → rat K 7 = f → rsz K 7 = N → RS K 11 (fl ((A.zip A').drop j) ++ L) →
    ∃ K1, KF [11] K K1 ∧ RS K1 11 (fl (A.zip A') ++ L) ∧ JC 6 m_V_pushArgumentPairs (fun _ => .inl none) K1 15 (fun G => [(0, .ref (cp_b G + 6)), (1, .int (nI u)), (2, .int (nI u')), (3, .int (nI (2 + j)))]) (fun _ => []) K
  | 0, K, _, _, _, hR => ⟨K, KF.refl, hR, b_V_pushArgumentPairs_15 (D := 0) ⟨fun _ => ⟨rfl, rfl⟩, fun hn => absurd (show nI (2 + 0) < 3 by decide) hn⟩⟩
  | j + 1, K, hj, e1, e2, hR => by
    have hs : rsz K 7 < 2 ^ 31 := by omega
    have hz : (A.zip A').length = A.length := by rw [List.length_zip, hlen]; omega
    have hsz : rsz K 11 < 14000 := by
      rw [hR.1, List.length_append, fl_len, List.length_drop, hz]
      omega
    have hd : (A.zip A').drop j = (A[j], A'[j]) :: (A.zip A').drop (j + 1) := by
      rw [List.drop_eq_getElem_cons (by omega), List.getElem_zip]
    have eu : nI u + nI (2 + (j + 1)) = nI (u + 3 + j) := by rw [nI_add]; congr 1; omega
    have eu' : nI u' + nI (2 + (j + 1)) = nI (u' + 3 + j) := by rw [nI_add]; congr 1; omega
    have g1 : rget K 7 (nI u + nI (2 + (j + 1))) = nI A[j].1 := by rw [eu, rget_of (by omega) hs, e1]; exact hA j (by omega)
    have kf : KF [11] K (kpush K 11 (nI A[j].1)) := KF.push (by decide)
    have k7 := kf.2.2.1 7 (by decide)
    have g2 : rget (kpush K 11 (nI A[j].1)) 7 (nI u' + nI (2 + (j + 1))) = nI A'[j].1 := by rw [eu', rget_of (by rw [k7.1]; omega) (by rw [k7.1]; exact hs), k7.2, e1]; exact hA' j (by omega)
    have kf2 : KF [11] K (kpush (kpush K 11 (nI A[j].1)) 11 (nI A'[j].1)) := kf.trans (KF.push (by decide))
    obtain ⟨K1, w1, w2, w3⟩ := pap hlen hu hu' hN hA hA' hA1 hL j (kpush (kpush K 11 (nI A[j].1)) 11 (nI A'[j].1)) (by omega) (by rw [(kf2.2.2.1 7 (by decide)).2]; exact e1) (by rw [(kf2.2.2.1 7 (by decide)).1]; exact e2) (by rw [hd]; exact hR.push.push)
    refine ⟨K1, kf2.trans w1, w2, b_V_pushArgumentPairs_15 (D := 0) ⟨fun hn => absurd hn (nI_nlt (a := 2 + (j + 1)) (b := 3) (by omega) (by omega)), fun _ => ?_⟩⟩
    rw [g1, g2]
    refine ⟨by show rsz K 11 < 16384; omega, by rw [kpush_sz, if_pos rfl]; show rsz K 11 + 1 < 16384; omega, ?_⟩
    rw [show 2 + (j + 1) = 2 + j + 1 by omega, pk_m1]
    exact w3
def FM (S S' : cp_S) : Prop := (∀ k, k ≠ 42 → k ≠ 44 → S'.1 k = S.1 k) ∧ ∀ p, p ≠ 53 → (p < 58 ∨ 62 < p) → S'.2 p = S.2 p
theorem FM.refl {S : cp_S} : FM S S := ⟨fun _ _ _ => rfl, fun _ _ _ => rfl⟩
theorem FM.trans {S S1 S2 : cp_S} (h : FM S S1) (g : FM S1 S2) : FM S S2 := ⟨fun k h1 h2 => (g.1 k h1 h2).trans (h.1 k h1 h2), fun p h1 h2 => (g.2 p h1 h2).trans (h.2 p h1 h2)⟩
theorem FP.fm {S S' : cp_S} (h : FP S S') : FM S S' := ⟨fun k _ _ => by rw [h.1], fun p h1 h2 => h.2 p (by omega) (by omega) (by omega)⟩
def MSP (N nv nc : Nat) (ρ : Nat → Nat → Prop) (hl : List Nat) (f : Nat → Int32) (a : Nat → Nat → Int32) (C : Nat) (K : cp_K) (S : cp_S) (f' : Nat → Int32) (a' : Nat → Nat → Int32) (C' : Nat) (K' : cp_K) (S' : cp_S) : Prop :=
  VI f' N a' nv nc ρ hl C' ∧ KF [7, 9, 11] K K' ∧ rat K' 7 = f' ∧ rsz K' 7 = N ∧ rsz K' 9 < 16000 ∧ rsz K' 11 < 16000 ∧ (∀ j, (∀ h ∈ hl, j ≠ h + 1) → f' j = f j) ∧ GE S' a' ∧ FM S S' ∧ C ≤ C' ∧ (C' = C → f' = f ∧ a' = a) ∧ ∀ F, S.1 42 = nI F → S'.1 42 = nI (F + (C' - C))
theorem MSP.trans {f f1 f2 : Nat → Int32} {a a1 a2 : Nat → Nat → Int32} {C C1 C2 : Nat} {K K1 K2 : cp_K} {S S1 S2 : cp_S} (h : MSP N nv nc ρ hl f a C K S f1 a1 C1 K1 S1) (g : MSP N nv nc ρ hl f1 a1 C1 K1 S1 f2 a2 C2 K2 S2) : MSP N nv nc ρ hl f a C K S f2 a2 C2 K2 S2 := by
  obtain ⟨h1, h2, h3, h4, h5, h6, h7, h8, h9, h10, h11, h12⟩ := h
  obtain ⟨g1, g2, g3, g4, g5, g6, g7, g8, g9, g10, g11, g12⟩ := g
  refine ⟨g1, h2.trans g2, g3, g4, g5, g6, fun j hj => (g7 j hj).trans (h7 j hj), g8, h9.trans g9, by omega, fun e => ?_, fun F hF => ?_⟩
  · obtain ⟨e1, e2⟩ := h11 (by omega)
    obtain ⟨e3, e4⟩ := g11 (by omega)
    exact ⟨e3.trans e1, e4.trans e2⟩
  · rw [g12 _ (h12 F hF)]
    congr 1
    omega
theorem HST.msp {f f' : Nat → Int32} {a a' : Nat → Nat → Int32} {C C' : Nat} {K K' : cp_K} {S S' : cp_S} (h : HST f N a nv nc ρ hl C K S f' a' C' K' S') (h11 : rsz K 11 < 16000) : MSP N nv nc ρ hl f a C K S f' a' C' K' S' := by
  obtain ⟨h1, h2, h3, h4, h5, h6, h7, h8, h9⟩ := h
  refine ⟨h1, h2.sub (by decide), h3, h4, h5, by rw [(h2.2.2.1 11 (by decide)).1]; exact h11, h6, h7, ⟨fun k k1 k2 => ?_, fun p p1 p2 => h8 p p1 (by omega) (by omega)⟩, ?_, ?_, ?_⟩
  · rcases h9 with ⟨-, -, -, e⟩ | ⟨-, e⟩
    · rw [e]
    · rw [e, cp_up_ne k1]
  · rcases h9 with ⟨e, -⟩ | ⟨e, -⟩ <;> omega
  · intro e0
    rcases h9 with ⟨e, e1, e2, -⟩ | ⟨e, -⟩
    · exact ⟨e1, e2⟩
    · omega
  · intro F hF
    rcases h9 with ⟨e, -, -, e4⟩ | ⟨e, e4⟩
    · rw [e4, hF, e, Nat.sub_self]; rfl
    · rw [e4, va_up_at, hF, nI_1, e]
      congr 1
      omega
end CPSA
