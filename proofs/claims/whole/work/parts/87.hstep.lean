/-! ===== one step of making the same, at a hole ===== -/
section CPHT
variable {f : Nat → Int32} {N : Nat} {a : Nat → Nat → Int32} {nv nc C : Nat} {ρ : Nat → Nat → Prop} {hl : List Nat}
/-- what a step at a hole leaves -/
def HST (f : Nat → Int32) (N : Nat) (a : Nat → Nat → Int32) (nv nc : Nat) (ρ : Nat → Nat → Prop) (hl : List Nat) (C : Nat) (K : cp_K) (S : cp_S) (f' : Nat → Int32) (a' : Nat → Nat → Int32) (C' : Nat) (K1 : cp_K) (S1 : cp_S) : Prop :=
  VI f' N a' nv nc ρ hl C' ∧ KF [7, 9] K K1 ∧ rat K1 7 = f' ∧ rsz K1 7 = N ∧ rsz K1 9 < 16000 ∧ (∀ j, (∀ h ∈ hl, j ≠ h + 1) → f' j = f j) ∧ GE S1 a' ∧ (∀ p, p ≠ 53 → p ≠ 61 → p ≠ 62 → S1.2 p = S.2 p) ∧ ((C' = C ∧ f' = f ∧ a' = a ∧ S1.1 = S.1) ∨ (C' = C + 1 ∧ S1.1 = va_up S.1 42 (S.1 42 + 1)))
theorem HST.fill (V : VI f N a nv nc ρ hl C) {K K1 : cp_K} {S T : cp_S} (kf : KF [9] K K1) (eK : rat K 7 = f) (eN : rsz K 7 = N) (h9 : rsz K1 9 < 16000) (hS : GE S a) (fw : FW S T) {h rh x rx : Nat} (ph : ρ h rh) (px : ρ x rx) (h4 : f h = 4) (th : stl f h) (tx : stl f x) (hne : x ≠ h) :
    HST f N a nv nc ρ hl C K S (va_up f (h + 1) (nI x)) (va_up a 53 (upd (a 53) rh (nI rx))) (C + 1) (kset K1 7 (nI h + 1) (nI x)) (va_up T.1 42 (T.1 42 + 1), va_up T.2 53 (upd (T.2 53) rh (nI rx))) := by
  have ho : f (h + 1) = -1 := by
    by_cases hh : f (h + 1) = -1
    · exact hh
    · exact absurd ⟨h4, hh⟩ th
  have hb := (V.1.1 h rh ph).1
  have hN := V.2.2.2.2.2.2.2
  have hhl := V.2.2.1.1 h rh ph h4 ho
  have e7 : rat K1 7 = f := by rw [(kf.2.2.1 7 (by decide)).2]; exact eK
  have n7 : rsz K1 7 = N := by rw [(kf.2.2.1 7 (by decide)).1]; exact eN
  refine ⟨V.fill ph px h4 ho tx hne, (kf.sub (by decide)).trans (KF.set.sub (by decide)), ?_, by rw [kset_sz]; exact n7, by rw [kset_sz]; exact h9, fun j hj => cp_up_ne (hj h hhl), fun p p1 p2 => ?_, fun p p1 p2 p3 => ?_, Or.inr ⟨rfl, ?_⟩⟩
  · rw [nI_1, kset_at (by omega) (by omega), if_pos rfl, e7]
  · by_cases hp : p = 53
    · subst hp
      simp only [va_up_at]
      rw [fw.2 53 (by decide) (by decide), hS 53 (by omega) (by omega)]
    · simp only [cp_up_ne hp]
      rw [fw.2 p (by omega) (by omega)]
      exact hS p p1 p2
  · simp only [cp_up_ne p1]
    exact fw.2 p p2 p3
  · simp only [fw.1]
theorem HST.none (V : VI f N a nv nc ρ hl C) {K K1 : cp_K} {S T : cp_S} (kf : KF [9] K K1) (eK : rat K 7 = f) (eN : rsz K 7 = N) (h9 : rsz K1 9 < 16000) (hS : GE S a) (fw : FW S T) : HST f N a nv nc ρ hl C K S f a C K1 T :=
  ⟨V, kf.sub (by decide), by rw [(kf.2.2.1 7 (by decide)).2]; exact eK, by rw [(kf.2.2.1 7 (by decide)).1]; exact eN, h9, fun _ _ => rfl, hS.fw fw, fun p _ p2 p3 => fw.2 p p2 p3, Or.inl ⟨rfl, rfl, rfl, fw.1⟩⟩
theorem hstep (V : VI f N a nv nc ρ hl C) {K : cp_K} {S : cp_S} (eK : rat K 7 = f) (eN : rsz K 7 = N) (h9 : rsz K 9 < 16000) (hS : GE S a) {u1 s1 u2 s2 : Nat} (p1 : ρ u1 s1) (p2 : ρ u2 s2) (t1 : stl f u1) (t2 : stl f u2) (ho : f u1 = 4 ∨ f u2 = 4) :
    ∃ (ok : Bool) (f' : Nat → Int32) (a' : Nat → Nat → Int32) (C' : Nat) (K1 : cp_K) (S1 : cp_S), HST f N a nv nc ρ hl C K S f' a' C' K1 S1 ∧
      KC 9 m_V_fillOneOf (fun G => [.ref (cp_b G + 6), .int (nI u1), .int (nI u2)]) K (fun _ => some (.int (if ok then 1 else 0))) K1 ∧
      (∀ x1 x2 x3 : Int32, (ok = true → ∀ o S', J193 o S' x1 x2 (x3 + (-1)) s1 s2 S1 → J75 o S' x1 x2 x3 s1 s2 S) ∧ (ok = false → J75 (some (.int 0)) S1 x1 x2 x3 s1 s2 S)) := by
  have hN := V.2.2.2.2.2.2.2
  have hnv := V.2.2.2.2.2.1
  obtain ⟨b1, r1, -⟩ := V.1.1 u1 s1 p1
  obtain ⟨b2, r2, -⟩ := V.1.1 u2 s2 p2
  have g1 : rget K 7 (nI u1) = f u1 := by rw [rget_of (by omega) (by omega), eK]
  have g2 : rget K 7 (nI u2) = f u2 := by rw [rget_of (by omega) (by omega), eK]
  have e52 : S.2 52 = a 52 := hS 52 (by omega) (by omega)
  by_cases h4 : f u1 = 4
  · have hs1 : S.2 52 s1 = 2 := by rw [e52]; exact (V.h4 p1).mp h4
    by_cases he : u2 = u1
    · -- the same hole
      have hse : s2 = s1 := (V.inj p1 h4 u2 s2 p2).mp he
      refine ⟨true, f, a, C, K, S, HST.none V KF.refl eK eN h9 hS FW.refl, foA_same (by rw [g1]; exact h4) (by rw [he]), fun x1 x2 x3 => ⟨fun _ o S' w => ?_, fun h => by cases h⟩⟩
      refine rfA_set (by omega) (by omega) hs1 (by rw [hse, hs1]; decide) (r148_eq hse.symm w)
    · have hne : ¬ nI u2 = nI u1 := fun h => he ((nI_eq (by omega) (by omega)).mp h)
      have hsne : s1 ≠ s2 := fun h => he ((V.inj p1 h4 u2 s2 p2).mpr h.symm)
      by_cases h6 : f u2 = 6
      · have hs2 : S.2 52 s2 = 3 := by rw [e52]; exact (V.h6 p2).mp h6
        obtain ⟨big, hit, cA, cB, cC, -⟩ := small_m V p2 (V.injI p1 h4)
        obtain ⟨K1, k1, k2, k3⟩ := cA K eK eN h9
        obtain ⟨T5, w1, w2⟩ := cB S hS
        cases big with
        | true =>
          refine ⟨false, f, a, C, K1, T5, HST.none V k1 eK eN (by omega) hS w1, foA_big (by rw [g1]; exact h4) hne (by rw [g2]; exact h6) k3, fun x1 x2 x3 => ⟨fun h => Bool.noConfusion h, fun _ => ?_⟩⟩
          exact rfA_con (by omega) (by omega) hs1 hs2 ⟨1, T5, w2, fun _ => ⟨rfl, rfl⟩, fun h => absurd h (by decide)⟩
        | false =>
          obtain ⟨T8, w3, w4⟩ := cC rfl T5 (hS.fw w1)
          cases hit with
          | true =>
            refine ⟨false, f, a, C, K1, T8, HST.none V k1 eK eN (by omega) hS (w1.trans w3), foA_big (by rw [g1]; exact h4) hne (by rw [g2]; exact h6) k3, fun x1 x2 x3 => ⟨fun h => Bool.noConfusion h, fun _ => ?_⟩⟩
            exact rfA_con (by omega) (by omega) hs1 hs2 ⟨0, T5, w2, fun h => absurd rfl h, fun _ => ⟨1, T8, w4, fun h => absurd h (by decide), fun _ => ⟨rfl, rfl⟩⟩⟩
          | false =>
            refine ⟨true, _, _, C + 1, kset K1 7 (nI u1 + 1) (nI u2), _, HST.fill V k1 eK eN (by omega) hS (w1.trans w3) p1 p2 h4 t1 t2 he, foA_sml (by rw [g1]; exact h4) hne (by rw [g2]; exact h6) k3, fun x1 x2 x3 => ⟨fun _ o S' w => ?_, fun h => by cases h⟩⟩
            exact rfA_con (by omega) (by omega) hs1 hs2 ⟨0, T5, w2, fun h => absurd rfl h, fun _ => ⟨0, T8, w4, fun _ => r148_ne (by omega) (by omega) (by omega) hsne w, fun h => absurd rfl h⟩⟩
      · have hs2 : ¬ S.2 52 s2 = 3 := by rw [e52]; exact fun h => h6 ((V.h6 p2).mpr h)
        refine ⟨true, _, _, C + 1, kset K 7 (nI u1 + 1) (nI u2), _, HST.fill V KF.refl eK eN h9 hS FW.refl p1 p2 h4 t1 t2 he, foA_set (by rw [g1]; exact h4) hne (by rw [g2]; exact h6), fun x1 x2 x3 => ⟨fun _ o S' w => ?_, fun h => by cases h⟩⟩
        exact rfA_set (by omega) (by omega) hs1 hs2 (r148_ne (by omega) (by omega) (by omega) hsne w)
  · have h4' : f u2 = 4 := ho.resolve_left h4
    have hs1 : ¬ S.2 52 s1 = 2 := by rw [e52]; exact fun h => h4 ((V.h4 p1).mpr h)
    have he : u1 ≠ u2 := fun h => h4 (by rw [h]; exact h4')
    have hne : ¬ nI u2 = nI u1 := fun h => he ((nI_eq (by omega) (by omega)).mp h).symm
    have hsne : s1 ≠ s2 := fun h => he ((V.inj p2 h4' u1 s1 p1).mpr h)
    by_cases h6 : f u1 = 6
    · have hs3 : S.2 52 s1 = 3 := by rw [e52]; exact (V.h6 p1).mp h6
      obtain ⟨big, hit, cA, cB, cC, -⟩ := small_m V p1 (V.injI p2 h4')
      obtain ⟨K1, k1, k2, k3⟩ := cA K eK eN h9
      obtain ⟨T5, w1, w2⟩ := cB S hS
      cases big with
      | true =>
        refine ⟨false, f, a, C, K1, T5, HST.none V k1 eK eN (by omega) hS w1, foB_big (by rw [g1]; exact h4) hne (by rw [g1]; exact h6) k3, fun x1 x2 x3 => ⟨fun h => Bool.noConfusion h, fun _ => ?_⟩⟩
        exact rfB_con (by omega) (by omega) hs1 hs3 ⟨1, T5, w2, fun _ => ⟨rfl, rfl⟩, fun h => absurd h (by decide)⟩
      | false =>
        obtain ⟨T8, w3, w4⟩ := cC rfl T5 (hS.fw w1)
        cases hit with
        | true =>
          refine ⟨false, f, a, C, K1, T8, HST.none V k1 eK eN (by omega) hS (w1.trans w3), foB_big (by rw [g1]; exact h4) hne (by rw [g1]; exact h6) k3, fun x1 x2 x3 => ⟨fun h => Bool.noConfusion h, fun _ => ?_⟩⟩
          exact rfB_con (by omega) (by omega) hs1 hs3 ⟨0, T5, w2, fun h => absurd rfl h, fun _ => ⟨1, T8, w4, fun h => absurd h (by decide), fun _ => ⟨rfl, rfl⟩⟩⟩
        | false =>
          refine ⟨true, _, _, C + 1, kset K1 7 (nI u2 + 1) (nI u1), _, HST.fill V k1 eK eN (by omega) hS (w1.trans w3) p2 p1 h4' t2 t1 he, foB_sml (by rw [g1]; exact h4) hne (by rw [g1]; exact h6) k3, fun x1 x2 x3 => ⟨fun _ o S' w => ?_, fun h => by cases h⟩⟩
          exact rfB_con (by omega) (by omega) hs1 hs3 ⟨0, T5, w2, fun h => absurd rfl h, fun _ => ⟨0, T8, w4, fun _ => r148_ne (by omega) (by omega) (by omega) hsne w, fun h => absurd rfl h⟩⟩
    · have hs3 : ¬ S.2 52 s1 = 3 := by rw [e52]; exact fun h => h6 ((V.h6 p1).mpr h)
      refine ⟨true, _, _, C + 1, kset K 7 (nI u2 + 1) (nI u1), _, HST.fill V KF.refl eK eN h9 hS FW.refl p2 p1 h4' t2 t1 he, foB_set (by rw [g1]; exact h4) hne (by rw [g1]; exact h6), fun x1 x2 x3 => ⟨fun _ o S' w => ?_, fun h => by cases h⟩⟩
      exact rfB_set (by omega) (by omega) hs1 hs3 (r148_ne (by omega) (by omega) (by omega) hsne w)
end CPHT
