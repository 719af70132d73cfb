/-! ===== reading: a piece is added; conditions' terms ===== -/
theorem LST.ge {R : Nat → Nat → Nat → Nat → Prop} {K : cp_K} (hR : ∀ q i j a, R q i j a → i < j ∧ q < a) : ∀ (m q e i j a a1 : Nat), LST K m q e → RCH R K m q i j a a1 → a ≤ e ∧ e < a1
  | 0, _, _, _, _, _, _, h, _ => h.elim
  | 1, q, e, i, j, a, a1, h, hc => by
    obtain ⟨rfl, i', a', h1, h2, h3, h4⟩ := hc
    have e' : q = e := h
    have := hR _ _ _ _ h1
    omega
  | m + 2, q, e, i, j, a, a1, h, hc => by
    obtain ⟨rfl, i', a', h1, h2⟩ := hc
    have := LST.ge hR (m + 1) _ e i' j a' a1 h h2
    have := hR _ _ _ _ h1
    omega
theorem RCH.snoc {K K2 : cp_K} {b b2 : Nat → Nat → Int32} {rf k qe j j2 a1 a2 : Nat} (hn : K.1.1 ≤ K2.1.1) (hnew : RTR K2 b2 rf k a1 j j2 a2) (h6 : K2.2.2.1 a1 6 = 0) (he : K2.2.2.1 qe 6 = a1) : ∀ (m q i a : Nat), RCH (RTR K b rf k) K m q i j a a1 → LST K m q qe → (∀ x, a ≤ x → x < a1 → (∀ f, K2.2.1 x f = K.2.1 x f) ∧ K2.1.2 x = K.1.2 x ∧ K2.2.2.1 x 4 = K.2.2.1 x 4 ∧ (x ≠ qe → K2.2.2.1 x 6 = K.2.2.1 x 6)) → (∀ x, i ≤ x → x < j → b2 39 x = b 39 x ∧ b2 40 x = b 40 x ∧ b2 41 x = b 41 x ∧ b2 42 (x - rf) = b 42 (x - rf)) → RCH (RTR K2 b2 rf k) K2 (m + 1) q i j2 a a2 ∧ LST K2 (m + 1) q a1
  | 0, _, _, _, _, h, _, _ => h.elim
  | 1, q, i, a, hc, hl, hK, hb => by
    obtain ⟨rfl, i', a', h1, h2, rfl, rfl⟩ := hc
    have e' : q = qe := hl
    subst e'
    refine ⟨⟨rfl, i', a', RTR.loc hn k _ _ _ _ h1 (fun x x1 x2 => ?_) hb, ?_⟩, ?_⟩
    · obtain ⟨e1, e2, e3, e4⟩ := hK x x1 x2
      exact ⟨e1, e2, e3, e4⟩
    · rw [he]
      exact ⟨rfl, j2, a2, hnew, h6, rfl, rfl⟩
    · show LST K2 1 (K2.2.2.1 q 6) a'
      rw [he]; rfl
  | m + 2, q, i, a, hc, hl, hK, hb => by
    obtain ⟨rfl, i', a', h1, h2⟩ := hc
    have l1 := RTR.lt _ _ _ _ _ h1
    have l2 := RCH.le (RTR.lt k) _ _ _ _ _ _ h2
    have l3 := LST.ge (RTR.lt k) (m + 1) _ qe _ _ _ _ hl h2
    obtain ⟨g1, g2⟩ := RCH.snoc hn hnew h6 he (m + 1) _ i' a' h2 hl (fun x x1 x2 => hK x (by omega) x2) (fun x x1 x2 => hb x (by omega) x2)
    have e6 : K2.2.2.1 q 6 = K.2.2.1 q 6 := (hK q (Nat.le_refl _) (by omega)).2.2.2 (by omega)
    refine ⟨⟨rfl, i', a', RTR.loc hn k _ _ _ _ h1 (fun x x1 x2 => ?_) (fun x x1 x2 => hb x x1 (by omega)), by rw [e6]; exact g1⟩, ?_⟩
    · obtain ⟨e1, e2, e3, e4⟩ := hK x x1 (by omega)
      exact ⟨e1, e2, e3, fun _ => e4 (by omega)⟩
    · show LST K2 (m + 2) (K2.2.2.1 q 6) a1
      rw [e6]; exact g2
section CPWP
variable {X : Int32 × Int32 × Int32} {tx : Nat → Nat} {n rf : Nat}
theorem withP_end {K : cp_K} {S : cp_S} {l : List cp_I} {n1 q0 d : Nat} (rj : RJ tx n rf K S l n n1) : KC 9 m_Q_withPiece (fun G => [.ref (cp_b G + 21), va_rf (kr G q0), .int 2, .int (nI d)]) K (fun G => some (va_rf (kr G 0))) K := c_Q_withPiece (D := 1) ⟨fun _ => ⟨0, K, piece_end (o := 0) (by omega) rj, fun h => absurd rfl h, fun _ => ⟨rfl, rfl⟩⟩, fun _ => ⟨rfl, rfl⟩⟩
/-- a closed term is read into q0 -/
theorem withP (hP : PJ X tx n rf 8) {K : cp_K} {S : cp_S} {l : List cp_I} {p n1 q0 ql : Nat} (rj : RJ tx n rf K S l p n1) (hp : p < n) (hl : l.length ≤ 28) (hq0 : nd K q0 9) (hlast : (K.2.2.1 q0 5 = 0 ∧ ql = K.1.1) ∨ (K.2.2.1 q0 5 = ql ∧ q0 < ql ∧ nd K ql 9)) :
    (∃ (K' : cp_K) (S' : cp_S) (p' : Nat), KC 43 m_Q_withPiece (fun G => [.ref (cp_b G + 21), va_rf (kr G q0), .int 2, .int 1]) K (fun G => some (va_rf (kr G 0))) K' ∧ K'.2.1 21 2 = nI p' ∧ (p ≤ p' ∧ p' ≤ n) ∧ BTK X n (some (.int (nI p'))) S' S p 2 ∧ KRX K.1.1 K.1.1 K K' ∧ RFX rf n1 l.length n1 S S' ∧ K'.1.1 ≤ K.1.1 + (p' - p)) ∨
    ∃ (K2 : cp_K) (S' : cp_S) (p' n1' : Nat) (jk : List cp_I), KC 43 m_Q_withPiece (fun G => [.ref (cp_b G + 21), va_rf (kr G q0), .int 2, .int 1]) K (fun G => some (va_rf (kr G q0))) K2 ∧ (∀ r Sx, RD X n r Sx p' S' → BTK X n r Sx S p 2) ∧ RJ tx n rf K2 S' (jk ++ l) p' n1' ∧ (jk.length ≤ 1 ∧ ∀ j ∈ jk, may j ∧ (p' < n → SKP (nI (tx p')) j)) ∧ RTR K2 S'.2 rf 8 K.1.1 n1 n1' K2.1.1 ∧ K2.2.2.1 K.1.1 6 = 0 ∧ (K2.2.1 q0 3 = K.2.1 q0 3 + 1 ∧ K2.2.2.1 q0 5 = K.1.1 ∧ (K.2.2.1 q0 5 = 0 → K2.2.2.1 q0 4 = K.1.1) ∧ (¬ K.2.2.1 q0 5 = 0 → K2.2.2.1 q0 4 = K.2.2.1 q0 4 ∧ K2.2.2.1 ql 6 = K.1.1)) ∧ KRX q0 ql K K2 ∧ RFX rf n1 l.length n1 S S' ∧ TW S'.2 0 p p' n1 n1' ∧ K2.1.1 ≤ K.1.1 + (p' - p) ∧ p < p' := by
  obtain ⟨⟨r1, r2, r3, r4⟩, ps, ⟨r5, r6, r7, r8, r9⟩, r10, r11⟩ := id rj
  have q0lt := hq0.2.1
  have q086 := hq0.1
  rcases hP 1 0 K S l p n1 (by omega) (by omega) (by omega) rj hp (by omega) with ⟨K1, S1, p1, a1, a2, a3, a4, a5, a6, a7⟩ | ⟨K1, S1, p1, n11, jk, a1, a2, a3, a4, a5, a6, a7, a8, a9, a10, a11⟩
  · exact Or.inl ⟨K1, S1, p1, c_Q_withPiece (D := 35) ⟨fun _ => ⟨0, K1, a1, fun h => absurd rfl h, fun _ => ⟨rfl, rfl⟩⟩, fun h => absurd h (by omega)⟩, a2, a3, a4, a5, a6, a7⟩
  · obtain ⟨⟨b1, b2, b3, b4⟩, ps1, ⟨b5, b6, b7, b8, b9⟩, b10, b11⟩ := id a3
    obtain ⟨lt1, lt2⟩ := RTR.lt _ _ _ _ _ a5
    have e5 : K1.2.2.1 q0 5 = K.2.2.1 q0 5 := a7.2.2.2.2.2.1 q0 q0lt 5 (Or.inl (by omega)) (Or.inl (by omega))
    have e4 : K1.2.2.1 q0 4 = K.2.2.1 q0 4 := a7.2.2.2.2.2.1 q0 q0lt 4 (Or.inl (by omega)) (Or.inl (by omega))
    have e3 : K1.2.1 q0 3 = K.2.1 q0 3 := a7.2.2.2.1 q0 q0lt (by omega) 3 (Or.inl (by omega))
    have nq1 : nd K1 q0 9 := a7.nd hq0
    have nql1 : ¬ K1.2.2.1 q0 5 = 0 → nd K1 (K1.2.2.1 q0 5) 9 := fun h => by
      rw [e5] at h ⊢
      rcases hlast with ⟨h', -⟩ | ⟨h', -, h''⟩
      · exact absurd h' h
      · rw [h']; exact a7.nd h''
    obtain ⟨K2, hK2⟩ : ∃ K2 : cp_K, K2 = nadd K1 q0 K.1.1 := ⟨_, rfl⟩
    obtain ⟨qx, hqx, hqx2, hqx3⟩ : ∃ qx, (qx = ql ∨ K.1.1 ≤ qx) ∧ (qx < K.1.1 ∨ K1.1.1 ≤ qx) ∧ (K1.2.2.1 q0 5 = 0 ∨ (K1.2.2.1 q0 5 = qx ∧ qx ≠ q0)) := by
      rcases hlast with ⟨h, -⟩ | ⟨h, h', h''⟩
      · exact ⟨K1.1.1, Or.inr (by omega), Or.inr (Nat.le_refl _), Or.inl (e5.trans h)⟩
      · exact ⟨ql, Or.inl rfl, Or.inl h''.2.1, Or.inr ⟨e5.trans h, by omega⟩⟩
    have kx2 : KRX q0 qx K1 K2 := by rw [hK2]; exact KRX_nadd nq1 hqx3
    have n2 : K2.1.1 = K1.1.1 := by rw [hK2, na_n]
    have k02 : KRX q0 ql K K2 := (KRX.trans (KRX.refl (q0 := q0) (ql := ql)) a7 (Or.inr (Nat.le_refl _)) (Or.inr (Nat.le_refl _))).trans kx2 (Or.inl rfl) hqx
    have hor : K1.2.2.1 q0 5 ≠ q0 ∨ K1.2.2.1 q0 5 = 0 := by
      rcases hqx3 with h | h
      · exact Or.inr h
      · exact Or.inl (by rw [h.1]; exact h.2)
    refine Or.inr ⟨K2, S1, p1, n11, jk, c_Q_withPiece (D := 35) ⟨fun _ => ⟨K.1.1, K1, a1, fun _ => ⟨nq1, nql1, rfl, hK2⟩, fun h => absurd h (by omega)⟩, fun h => absurd h (by omega)⟩, a2, a3.mvz kx2 rfl ps1 (by rw [hK2, na_i (by omega)]; exact b1) b6 ⟨b7, b8⟩ b11 (by omega), a4, ?_, ?_, ⟨?_, ?_, fun h => ?_, fun h => ?_⟩, k02, a8, a9, by omega, a11⟩
    · rw [n2]
      refine RTR.loc (K := K1) (b := S1.2) (by omega) _ _ _ _ _ a5 (fun x x1 x2 => ⟨fun g => kx2.2.2.2.1 x (by omega) (by omega) g (Or.inl (by omega)), kx2.2.1 x (by omega), kx2.2.2.2.2.2.1 x (by omega) 4 (Or.inl (by omega)) (Or.inr (by decide)), fun hx => kx2.2.2.2.2.2.1 x (by omega) 6 (Or.inl (by omega)) (Or.inl (by omega))⟩) (fun _ _ _ => ⟨rfl, rfl, rfl, rfl⟩)
    · rw [kx2.2.2.2.2.2.1 K.1.1 (by omega) 6 (Or.inl (by omega)) (Or.inl (by omega))]; exact a6
    · rw [hK2, na_ip, if_pos rfl, e3]
    · rw [hK2, na_rp hor, if_pos rfl]
    · rw [hK2, na_rp hor, if_neg (by decide), if_pos rfl, if_pos (e5.trans h)]
    · have hne : ¬ K1.2.2.1 q0 5 = 0 := by rw [e5]; exact h
      refine ⟨by rw [hK2, na_rp hor, if_neg (by decide), if_pos rfl, if_neg hne, e4], ?_⟩
      rcases hlast with ⟨h', -⟩ | ⟨h', h'', -⟩
      · exact absurd h' h
      · have := na_rl (K := K1) (p := q0) (r := K.1.1) (f := 6) hne (by rw [e5, h']; omega)
        rw [if_pos rfl, e5, h'] at this
        rw [hK2]; exact this
/-- a character that must stand there -/
theorem rd_chr {S : cp_S} {l : List cp_I} {p n1 wc : Nat} {x y : Int32} (h : PS S ((nI wc, x, y) :: l) n1 rf) (hl : l.length < 400) (hw : wc < 200) (hp : p < n) (hn : n ≤ 80) (hc : S.2 27 p = nI (tx p)) (ht : tx p < 200) : (tx p = wc → ∀ o Sx, RD X n o Sx (p + 1) (popS S l.length) → RD X n o Sx p S) ∧ (¬ tx p = wc → RD X n (some (.int (nI p))) (popS S l.length) p S) := by
  have hi : ¬ (200 : Int32) ≤ (nI wc, x, y).1 := fun q => by
    have := (nI_leq (a := 200) (b := wc) (by omega) (by omega)).mp q
    omega
  refine ⟨fun e o Sx w => rd_step hp hn hc (tk_char (o := some (.int 1)) h hl hi ⟨fun _ => ⟨rfl, rfl⟩, fun q => absurd (by rw [e]) q⟩) (fun _ => w) (fun q => absurd q (by decide)), fun e => rd_step hp hn hc (tk_char (o := some (.int 0)) h hl hi ⟨fun q => absurd ((nI_ch (by omega) (by omega)).mp q) e, fun _ => ⟨rfl, rfl⟩⟩) (fun q => absurd rfl q) (fun _ => ⟨rfl, rfl⟩)⟩
end CPWP
section CPCN
variable {S T : cp_S} {x2 x3 x4 x5 r : Int32}
theorem td_208c (h : x4 = 41) : MC 3 m_M_takeDeclared [.int 208, .int x2, .int x3, .int x4, .int x5] S (some (.int 1)) S := c_M_takeDeclared (b_M_takeDeclared_0 ⟨fun q => absurd q (by decide), fun q => absurd q (by decide), fun q => absurd q (by decide), fun q => absurd q (by decide), fun q => absurd q (by decide), fun q => absurd q (by decide), fun q => absurd q (by decide), fun q => absurd q (by decide), fun _ => ⟨fun q => absurd h q, fun _ => ⟨rfl, rfl, rfl⟩⟩⟩)
theorem td_208f (h : ¬ x4 = 41) (v : vp_in x2 (cp_ml 47)) (h6 : S.2 47 (Int32.toNatClampNeg x2) = 6) : MC 3 m_M_takeDeclared [.int 208, .int x2, .int x3, .int x4, .int x5] S (some (.int 0)) S := c_M_takeDeclared (b_M_takeDeclared_0 ⟨fun q => absurd q (by decide), fun q => absurd q (by decide), fun q => absurd q (by decide), fun q => absurd q (by decide), fun q => absurd q (by decide), fun q => absurd q (by decide), fun q => absurd q (by decide), fun q => absurd q (by decide), fun _ => ⟨fun _ => ⟨v, fun q => absurd h6 q, fun _ => ⟨rfl, rfl, rfl⟩⟩, fun q => absurd q h⟩⟩)
theorem td_208n {T43 : cp_S} (h : ¬ x4 = 41) (v : vp_in x2 (cp_ml 47)) (h6 : ¬ S.2 47 (Int32.toNatClampNeg x2) = 6) (w1 : MC 0 m_M_push [.int 208, .int x2, .int 0] (S.1, (va_up S.2 47 (upd (S.2 47) (Int32.toNatClampNeg x2) (((S.2 47) (Int32.toNatClampNeg x2)) + 1)))) none T43) (w2 : MC 1 m_M_beginTerm [.int x4, .int x5, .int 2] T43 (some (.int r)) T) (hr : r = 0 ∨ r = 1) : MC 3 m_M_takeDeclared [.int 208, .int x2, .int x3, .int x4, .int x5] S (some (.int r)) T := c_M_takeDeclared (b_M_takeDeclared_0 ⟨fun q => absurd q (by decide), fun q => absurd q (by decide), fun q => absurd q (by decide), fun q => absurd q (by decide), fun q => absurd q (by decide), fun q => absurd q (by decide), fun q => absurd q (by decide), fun q => absurd q (by decide), fun _ => ⟨fun _ => ⟨v, fun _ => ⟨v, v, T43, w1, r, T, w2, rfl, rfl, nb hr⟩, fun q => absurd q h6⟩, fun q => absurd q h⟩⟩)
theorem td_207 (v1 : vp_in x2 (cp_ml 45)) (v2 : vp_in x2 (cp_ml 48)) (hs : SC m_M_isLetter [.int x4] (some (.int r))) (hr : r = 0 ∨ r = 1) : MC 3 m_M_takeDeclared [.int 207, .int x2, .int x3, .int x4, .int x5] S (some (.int r)) (S.1, (va_up (va_up S.2 45 (upd (S.2 45) (Int32.toNatClampNeg x2) (x4 - 65))) 48 (upd (S.2 48) (Int32.toNatClampNeg x2) x5))) := c_M_takeDeclared (b_M_takeDeclared_0 ⟨fun q => absurd q (by decide), fun q => absurd q (by decide), fun q => absurd q (by decide), fun q => absurd q (by decide), fun q => absurd q (by decide), fun q => absurd q (by decide), fun q => absurd q (by decide), fun _ => ⟨v1, v2, r, hs, rfl, rfl, nb hr⟩, fun q => absurd rfl (q 207 (by decide))⟩)
end CPCN
section CPCG
variable {X : Int32 × Int32 × Int32} {tx : Nat → Nat} {n rf pk : Nat} {l : List cp_I}
abbrev itC (pk : Nat) (_ : Nat) : cp_I := (208, nI pk, 0)
def cnC (pk t : Nat) (S : cp_S) : Prop := S.2 47 pk = nI t
theorem nsC {c : Int32} {t : Nat} : ¬ SKP c (itC pk t) := nsk (by show ¬ (208 : Int32) = 201; decide) (by show ¬ (208 : Int32) = 211; decide) (by show ¬ (208 : Int32) = 215; decide)
theorem gl_cond (hl : l.length ≤ 20) (hpk : pk < 180) : GL X tx n rf pk l 41 (itC pk) (cnC pk) 0 := by
  have pj8 : PJ X tx n rf 8 := pj_all 7
  have vpk : ∀ a, cp_ml a = 180 → vp_in (nI pk) (cp_ml a) := fun a ha => by rw [ha]; exact vp_in_nI (by omega) (by decide)
  have step : ∀ t, t ≤ 5 → (t < 5 → GL X tx n rf pk l 41 (itC pk) (cnC pk) (t + 1)) → GL X tx n rf pk l 41 (itC pk) (cnC pk) t := fun t ht ih => by
    refine gl_step pj8 hl (Or.inl rfl) (fun S jk p n1 t a1 a2 a3 a4 a5 a6 a7 a8 a9 a10 => ?_) (fun S jk p n1 a1 a2 a3 a4 a5 a6 a7 a8 a9 => ?_) (fun _ S jk p n1 t a1 a2 a3 a4 a5 a6 => ?_) (fun _ t => ?_) (fun t S S' n1 len hf hc => ?_) (fun t S T hs hc => ?_) ht ih
    · -- another term
      obtain ⟨T, t1, t2, t3⟩ := tk_jk (p := p) jk S a1 a2 a8
      have hl2 : l.length < 400 := by omega
      have c10 : S.2 47 pk = nI t := a10
      obtain ⟨U, hU⟩ : ∃ U : cp_S, U = ((popS T l.length).1, va_up (popS T l.length).2 47 (upd ((popS T l.length).2 47) pk (nI (t + 1)))) := ⟨_, rfl⟩
      have u2 : ∀ q, q ≠ 47 → U.2 q = S.2 q := fun q hq => by rw [hU]; show va_up T.2 47 _ q = _; rw [cp_up_ne hq, t2.2]
      have u47 : ∀ x, U.2 47 x = if x = pk then nI (t + 1) else S.2 47 x := fun x => by
        rw [hU]
        show va_up T.2 47 (upd (T.2 47) pk (nI (t + 1))) 47 x = _
        rw [va_up_at]
        by_cases hx : x = pk
        · rw [if_pos hx, hx, pk_us]
        · rw [if_neg hx, pk_un hx, t2.2]
      have psp := PS.pop t1
      have psU : PS U l n1 rf := by
        refine ⟨by rw [hU]; exact psp.1, STK.mv l psp.2.1 (fun q q1 q2 x _ => by rw [u2 q (by omega), pop_2, t2.2]), by rw [hU]; exact psp.2.2.1, by rw [hU]; exact psp.2.2.2⟩
      have fU : RFZ rf n1 l.length pk S U := by
        refine ⟨fun k k1 k2 k3 => by rw [hU]; show (popS T l.length).1 k = _; rw [pop_1 k2]; exact t2.1 k k2, fun q hq => u2 q (by omega), fun q q1 q2 x _ => by rw [u2 q (by omega)], fun x _ => by rw [u2 42 (by decide)], fun q q1 q2 x hx => ?_, fun q q1 q2 x _ => by rw [u2 q (by omega)]⟩
        by_cases e : q = 47
        · subst e
          rw [u47, if_neg (by rcases hx with w | w; exact w; exact absurd rfl w)]
        · rw [u2 q e]
      refine ⟨pshS U l.length 208 (nI pk) 0, psU.push, fU.trans ((psh_rfx (m := n1) (i0 := n1) (Nat.le_refl _)).z) (Nat.le_refl _) (Nat.le_refl _), ?_, fun o Sx w => ?_⟩
      · show (pshS U l.length 208 (nI pk) 0).2 47 pk = nI (t + 1)
        rw [psh_2 (by omega), u47, if_pos rfl]
      · obtain ⟨r, T', w1, w2, w3, w4⟩ := w
        refine rd_step a3 a4 a5 (t3 _ _ (tk_decl (r := r) t1 hl2 nsC (by show (200 : Int32) ≤ 208; decide) (by show ¬ (209 : Int32) ≤ 208; decide) w2 (td_208n (T43 := pshS U l.length 208 (nI pk) 0) (nI_cc (a := 41) a6 (by omega) (a7 rfl)) (vpk 47 rfl) ?_ ?_ ?_ w2))) w4 w3
        · show ¬ T.2 47 (Int32.toNatClampNeg (nI pk)) = 6
          rw [nI_clamp (by omega), t2.2, c10]
          exact nI_cc (a := 6) (by omega) (by omega) (by omega)
        · show MC 0 m_M_push [.int 208, .int (nI pk), .int 0] ((popS T l.length).1, va_up (popS T l.length).2 47 (upd ((popS T l.length).2 47) (Int32.toNatClampNeg (nI pk)) ((popS T l.length).2 47 (Int32.toNatClampNeg (nI pk)) + 1))) none _
          rw [nI_clamp (show pk < 2 ^ 31 by omega), show (popS T l.length).2 47 pk = nI t by rw [pop_2, t2.2]; exact c10, nI_1, ← hU]
          exact MC_push psU hl2
        · rw [show (pshS U l.length 208 (nI pk) 0).2 27 p = nI (tx p) by rw [psh_2 (by omega), u2 27 (by decide)]; exact a5] at w1
          exact w1
    · obtain ⟨T, t1, t2, t3⟩ := tk_jk (p := p) jk S a1 a2 a8
      have c9 : S.2 47 pk = nI 6 := a9
      refine ⟨popS T l.length, t2.trans pop_spo, rd_step a3 a4 a5 (t3 _ _ (tk_decl (r := 0) t1 (by omega) nsC (by show (200 : Int32) ≤ 208; decide) (by show ¬ (209 : Int32) ≤ 208; decide) (Or.inl rfl) (td_208f (nI_cc (a := 41) a6 (by omega) (a7 rfl)) (vpk 47 rfl) ?_))) (fun q => absurd rfl q) (fun _ => ⟨rfl, rfl⟩)⟩
      show T.2 47 (Int32.toNatClampNeg (nI pk)) = 6
      rw [nI_clamp (by omega), t2.2, c9]; rfl
    · obtain ⟨T, t1, t2, t3⟩ := tk_jk (p := p) jk S a1 a2 a6
      exact ⟨popS T l.length, PS.pop t1, t2.trans pop_spo, fun o Sx w => rd_step a3 a4 a5 (t3 _ _ (tk_decl (r := 1) t1 (by omega) nsC (by show (200 : Int32) ≤ 208; decide) (by show ¬ (209 : Int32) ≤ 208; decide) (Or.inr rfl) (td_208c rfl))) (fun _ => w) (fun q => absurd q (by decide))⟩
    · rintro (h | h | h | ⟨h, -⟩)
      · exact absurd (show (208 : Int32) = 201 from h) (by decide)
      · exact absurd (show (208 : Int32) = 211 from h) (by decide)
      · exact absurd (show (208 : Int32) = 215 from h) (by decide)
      · exact absurd (show (208 : Int32) = 218 from h) (by decide)
    · show S'.2 47 pk = nI t
      rw [hf.2.1 47 (by omega)]; exact hc
    · show T.2 47 pk = nI t
      rw [hs.2]; exact hc
  exact step 0 (by omega) (fun _ => step 1 (by omega) (fun _ => step 2 (by omega) (fun _ => step 3 (by omega) (fun _ => step 4 (by omega) (fun _ => step 5 (by omega) (fun q => absurd q (by omega)))))))
end CPCG
