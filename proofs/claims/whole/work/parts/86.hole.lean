/-! ===== one of two is a hole without a value ===== -/
section CPHS
variable {K T : cp_K} {x1 x2 : Int32}
theorem one_ne : ¬ ((if (4 : Int32) = 4 then 1 else 0 : Int32) = 0) := by decide
theorem foA_same (h1 : rget K 7 x1 = 4) (e : x2 = x1) : KC 9 m_V_fillOneOf (fun G => [.ref (cp_b G + 6), .int x1, .int x2]) K (fun _ => some (.int 1)) K := by
  refine c_V_fillOneOf (D := 1) ?_
  unfold wp_V_fillOneOf_0
  rw [h1]
  exact ⟨fun hn => absurd hn (by decide), fun _ => ⟨fun hn => absurd rfl hn, fun _ => ⟨fun hn => absurd e hn, fun _ => ⟨rfl, rfl⟩⟩⟩⟩
theorem foA_set (h1 : rget K 7 x1 = 4) (e : ¬ x2 = x1) (h6 : ¬ rget K 7 x2 = 6) : KC 9 m_V_fillOneOf (fun G => [.ref (cp_b G + 6), .int x1, .int x2]) K (fun _ => some (.int 1)) (kset K 7 (x1 + 1) x2) := by
  refine c_V_fillOneOf (D := 1) ?_
  unfold wp_V_fillOneOf_0
  rw [h1]
  exact ⟨fun hn => absurd hn (by decide), fun _ => ⟨fun hn => absurd rfl hn, fun _ => ⟨fun _ => ⟨fun _ => b_V_fillOneOf_57 (D := 1) ⟨rfl, rfl⟩, fun hn => absurd hn h6⟩, fun hn => absurd hn e⟩⟩⟩
theorem foA_big (h1 : rget K 7 x1 = 4) (e : ¬ x2 = x1) (h6 : rget K 7 x2 = 6) (m : KC 8 m_V_isSmallWithout (fun G => [.ref (cp_b G + 6), .int x2, .int x1]) K (fun _ => some (.int 0)) T) : KC 9 m_V_fillOneOf (fun G => [.ref (cp_b G + 6), .int x1, .int x2]) K (fun _ => some (.int 0)) T := by
  refine c_V_fillOneOf (D := 1) ?_
  unfold wp_V_fillOneOf_0
  rw [h1]
  exact ⟨fun hn => absurd hn (by decide), fun _ => ⟨fun hn => absurd rfl hn, fun _ => ⟨fun _ => ⟨fun hn => absurd h6 hn, fun _ => ⟨0, T, m, fun hn => absurd rfl hn, fun _ => ⟨rfl, rfl⟩⟩⟩, fun hn => absurd hn e⟩⟩⟩
theorem foA_sml (h1 : rget K 7 x1 = 4) (e : ¬ x2 = x1) (h6 : rget K 7 x2 = 6) (m : KC 8 m_V_isSmallWithout (fun G => [.ref (cp_b G + 6), .int x2, .int x1]) K (fun _ => some (.int 1)) T) : KC 9 m_V_fillOneOf (fun G => [.ref (cp_b G + 6), .int x1, .int x2]) K (fun _ => some (.int 1)) (kset T 7 (x1 + 1) x2) := by
  refine c_V_fillOneOf (D := 1) ?_
  unfold wp_V_fillOneOf_0
  rw [h1]
  exact ⟨fun hn => absurd hn (by decide), fun _ => ⟨fun hn => absurd rfl hn, fun _ => ⟨fun _ => ⟨fun hn => absurd h6 hn, fun _ => ⟨1, T, m, fun _ => b_V_fillOneOf_57 (D := 1) ⟨rfl, rfl⟩, fun hn => absurd hn (by decide)⟩⟩, fun hn => absurd hn e⟩⟩⟩
theorem foB_set (h1 : ¬ rget K 7 x1 = 4) (e : ¬ x2 = x1) (h6 : ¬ rget K 7 x1 = 6) : KC 9 m_V_fillOneOf (fun G => [.ref (cp_b G + 6), .int x1, .int x2]) K (fun _ => some (.int 1)) (kset K 7 (x2 + 1) x1) := by
  refine c_V_fillOneOf (D := 1) ?_
  unfold wp_V_fillOneOf_0
  rw [if_neg h1]
  exact ⟨fun _ => ⟨fun _ => ⟨fun _ => ⟨fun _ => b_V_fillOneOf_57 (D := 1) ⟨rfl, rfl⟩, fun hn => absurd hn h6⟩, fun hn => absurd hn.symm e⟩, fun hn => absurd hn e⟩, fun hn => absurd rfl hn⟩
theorem foB_big (h1 : ¬ rget K 7 x1 = 4) (e : ¬ x2 = x1) (h6 : rget K 7 x1 = 6) (m : KC 8 m_V_isSmallWithout (fun G => [.ref (cp_b G + 6), .int x1, .int x2]) K (fun _ => some (.int 0)) T) : KC 9 m_V_fillOneOf (fun G => [.ref (cp_b G + 6), .int x1, .int x2]) K (fun _ => some (.int 0)) T := by
  refine c_V_fillOneOf (D := 1) ?_
  unfold wp_V_fillOneOf_0
  rw [if_neg h1]
  exact ⟨fun _ => ⟨fun _ => ⟨fun _ => ⟨fun hn => absurd h6 hn, fun _ => ⟨0, T, m, fun hn => absurd rfl hn, fun _ => ⟨rfl, rfl⟩⟩⟩, fun hn => absurd hn.symm e⟩, fun hn => absurd hn e⟩, fun hn => absurd rfl hn⟩
theorem foB_sml (h1 : ¬ rget K 7 x1 = 4) (e : ¬ x2 = x1) (h6 : rget K 7 x1 = 6) (m : KC 8 m_V_isSmallWithout (fun G => [.ref (cp_b G + 6), .int x1, .int x2]) K (fun _ => some (.int 1)) T) : KC 9 m_V_fillOneOf (fun G => [.ref (cp_b G + 6), .int x1, .int x2]) K (fun _ => some (.int 1)) (kset T 7 (x2 + 1) x1) := by
  refine c_V_fillOneOf (D := 1) ?_
  unfold wp_V_fillOneOf_0
  rw [if_neg h1]
  exact ⟨fun _ => ⟨fun _ => ⟨fun _ => ⟨fun hn => absurd h6 hn, fun _ => ⟨1, T, m, fun _ => b_V_fillOneOf_57 (D := 1) ⟨rfl, rfl⟩, fun hn => absurd hn (by decide)⟩⟩, fun hn => absurd hn.symm e⟩, fun hn => absurd hn e⟩, fun hn => absurd rfl hn⟩
end CPHS
section CPHR
variable {S T5 T8 S' : cp_S} {o : Option Value} {x1 x2 x3 : Int32} {s1 s2 : Nat}
abbrev J75 (o : Option Value) (S' : cp_S) (x1 x2 x3 : Int32) (s1 s2 : Nat) (S : cp_S) : Prop := JJ 3 m_M_makeSame o S' 75 [(1, .int x1), (2, .int x2), (3, .int x3), (4, .int (nI s1)), (5, .int (nI s2))] S
abbrev J148 (o : Option Value) (S' : cp_S) (x1 x2 x3 : Int32) (s1 s2 h x : Nat) (S : cp_S) : Prop := JJ 3 m_M_makeSame o S' 148 [(1, .int x1), (2, .int x2), (3, .int x3), (4, .int (nI s1)), (5, .int (nI s2)), (6, .int (nI h)), (7, .int (nI x))] S
theorem rfA_set (b1 : s1 < 6000) (b2 : s2 < 6000) (h1 : S.2 52 s1 = 2) (h3 : ¬ S.2 52 s2 = 3) (w : J148 o S' x1 x2 x3 s1 s2 s1 s2 S) : J75 o S' x1 x2 x3 s1 s2 S := by
  refine b_M_makeSame_75 ?_
  unfold wp_M_makeSame_75
  rw [nI_clamp (show s1 < 2 ^ 31 by omega), nI_clamp (show s2 < 2 ^ 31 by omega)]
  have v1 : vp_in (nI s1) (cp_ml 52) := vp_in_nI (show s1 < 6000 by omega) (by decide)
  have v2 : vp_in (nI s2) (cp_ml 52) := vp_in_nI (show s2 < 6000 by omega) (by decide)
  exact ⟨v1, fun hn => absurd h1 hn, fun _ => ⟨v1, fun hn => absurd h1 hn, fun _ => ⟨v2, fun _ => w, fun hn => absurd hn h3⟩⟩⟩
theorem rfA_con (b1 : s1 < 6000) (b2 : s2 < 6000) (h1 : S.2 52 s1 = 2) (h3 : S.2 52 s2 = 3) (w : ∃ r T, MC 2 m_M_isLarge [.int (nI s2)] S (some (.int r)) T ∧ (¬ r = 0 → o = some (.int 0) ∧ S' = T) ∧ (r = 0 → ∃ r2 T2, MC 2 m_M_lies [.int (nI s1), .int (nI s2)] T (some (.int r2)) T2 ∧ (r2 = 0 → J148 o S' x1 x2 x3 s1 s2 s1 s2 T2) ∧ (¬ r2 = 0 → o = some (.int 0) ∧ S' = T2))) : J75 o S' x1 x2 x3 s1 s2 S := by
  refine b_M_makeSame_75 ?_
  unfold wp_M_makeSame_75
  rw [nI_clamp (show s1 < 2 ^ 31 by omega), nI_clamp (show s2 < 2 ^ 31 by omega)]
  have v1 : vp_in (nI s1) (cp_ml 52) := vp_in_nI (show s1 < 6000 by omega) (by decide)
  have v2 : vp_in (nI s2) (cp_ml 52) := vp_in_nI (show s2 < 6000 by omega) (by decide)
  obtain ⟨r, T, m, w1, w2⟩ := w
  refine ⟨v1, fun hn => absurd h1 hn, fun _ => ⟨v1, fun hn => absurd h1 hn, fun _ => ⟨v2, fun hn => absurd h3 hn, fun _ => ⟨r, T, m, fun hr => ⟨(w1 hr).1, (w1 hr).2, rfl⟩, fun hr => ?_⟩⟩⟩⟩
  obtain ⟨r2, T2, m2, w3, w4⟩ := w2 hr
  exact ⟨r2, T2, m2, w3, fun h => ⟨(w4 h).1, (w4 h).2, rfl⟩⟩
theorem rfB_set (b1 : s1 < 6000) (b2 : s2 < 6000) (h1 : ¬ S.2 52 s1 = 2) (h3 : ¬ S.2 52 s1 = 3) (w : J148 o S' x1 x2 x3 s1 s2 s2 s1 S) : J75 o S' x1 x2 x3 s1 s2 S := by
  refine b_M_makeSame_75 ?_
  unfold wp_M_makeSame_75
  rw [nI_clamp (show s1 < 2 ^ 31 by omega), nI_clamp (show s2 < 2 ^ 31 by omega)]
  have v1 : vp_in (nI s1) (cp_ml 52) := vp_in_nI (show s1 < 6000 by omega) (by decide)
  exact ⟨v1, fun _ => ⟨v1, fun _ => ⟨v1, fun _ => w, fun hn => absurd hn h3⟩, fun hn => absurd hn h1⟩, fun hn => absurd hn h1⟩
theorem rfB_con (b1 : s1 < 6000) (b2 : s2 < 6000) (h1 : ¬ S.2 52 s1 = 2) (h3 : S.2 52 s1 = 3) (w : ∃ r T, MC 2 m_M_isLarge [.int (nI s1)] S (some (.int r)) T ∧ (¬ r = 0 → o = some (.int 0) ∧ S' = T) ∧ (r = 0 → ∃ r2 T2, MC 2 m_M_lies [.int (nI s2), .int (nI s1)] T (some (.int r2)) T2 ∧ (r2 = 0 → J148 o S' x1 x2 x3 s1 s2 s2 s1 T2) ∧ (¬ r2 = 0 → o = some (.int 0) ∧ S' = T2))) : J75 o S' x1 x2 x3 s1 s2 S := by
  refine b_M_makeSame_75 ?_
  unfold wp_M_makeSame_75
  rw [nI_clamp (show s1 < 2 ^ 31 by omega), nI_clamp (show s2 < 2 ^ 31 by omega)]
  have v1 : vp_in (nI s1) (cp_ml 52) := vp_in_nI (show s1 < 6000 by omega) (by decide)
  obtain ⟨r, T, m, w1, w2⟩ := w
  refine ⟨v1, fun _ => ⟨v1, fun _ => ⟨v1, fun hn => absurd h3 hn, fun _ => ⟨r, T, m, fun hr => ⟨(w1 hr).1, (w1 hr).2, rfl⟩, fun hr => ?_⟩⟩, fun hn => absurd hn h1⟩, fun hn => absurd hn h1⟩
  obtain ⟨r2, T2, m2, w3, w4⟩ := w2 hr
  exact ⟨r2, T2, m2, w3, fun h => ⟨(w4 h).1, (w4 h).2, rfl⟩⟩
abbrev J193 (o : Option Value) (S' : cp_S) (x1 x2 x3 : Int32) (s1 s2 : Nat) (S : cp_S) : Prop := JJ 3 m_M_makeSame o S' 193 [(1, .int x1), (2, .int x2), (3, .int x3), (4, .int (nI s1)), (5, .int (nI s2))] S
theorem r148_eq {h x : Nat} (e : s1 = s2) (w : J193 o S' x1 x2 (x3 + (-1)) s1 s2 S) : J148 o S' x1 x2 x3 s1 s2 h x S :=
  b_M_makeSame_148 ⟨fun _ => b_M_makeSame_174 w, fun hn => absurd (congrArg nI e) hn⟩
theorem r148_ne {h x : Nat} (b1 : s1 < 6000) (b2 : s2 < 6000) (hh : h < 6000) (e : s1 ≠ s2) (w : J193 o S' x1 x2 (x3 + (-1)) s1 s2 (va_up S.1 42 (S.1 42 + 1), va_up S.2 53 (upd (S.2 53) h (nI x)))) : J148 o S' x1 x2 x3 s1 s2 h x S := by
  refine b_M_makeSame_148 ⟨fun hn => absurd ((nI_eq (by omega) (by omega)).mp hn) e, fun _ => ⟨vp_in_nI (show h < 6000 by omega) (by decide), ?_⟩⟩
  rw [nI_clamp (by omega)]
  exact b_M_makeSame_174 w
end CPHR
