/-! deeds by call -/
theorem z60 (p : Nat) : 6 * 0 + p = p := by omega
theorem z120 (p : Nat) : 12 * 0 + p = p := by omega
theorem NOWs.c {W B M M' W3 : S32} {np nt nr : Nat} {dr : Int64} (h : NOWs W B (pj M) W3 np nt nr dr) (e : ∀ r, 50 ≤ r → r ≤ 59 → M' r = M r) : NOWs W B (pj M') W3 np nt nr dr := by
  obtain ⟨g1, g2, g3, hst, hnb⟩ := h
  refine ⟨g1.c (fun r h1 h2 => pj_w (e r (by omega) h2)), g2, g3, fun t ht => ?_, hnb⟩
  rw [pj_w (e 50 (by omega) (by omega))]
  exact hst t ht
theorem NOWs.th {W B M W3 : S32} {np nt nr : Nat} {dr : Int64} (h : NOWs W B (pj M) W3 np nt nr dr) (hnt : nt ≤ 12) {t p : Nat} (ht : t < nt) (hp : p < np) (hs : W 11 t = 1) : NOWs (up2 W 12 t (nI p)) B (pj (up2 M 51 t (nI p))) W3 np nt nr dr := by
  obtain ⟨⟨g1, g2, g3⟩, ⟨i1, i2, i3, i4, w, i5, i6⟩, ⟨k1, k2⟩, hst, hnb, hbit⟩ := h
  have z : ∀ r, r ≠ 12 → (up2 W 12 t (nI p)) r = W r := fun r h => up2_n _ _ _ h
  have y : ∀ r, r ≠ 51 → pj (up2 M 51 t (nI p)) r = pj M r := fun r h => pj_row _ _ h
  refine ⟨⟨fun p' hp' => ?_, fun t' ht' => ?_, ?_⟩, ⟨?_, ?_, ?_, ?_, w, i5, ?_⟩, ⟨?_, ?_⟩, ?_, ?_, ?_⟩
  · rw [z 5 (by decide), z 7 (by decide), z 8 (by decide), z 9 (by decide), z 10 (by decide), y 53 (by decide), y 54 (by decide), y 55 (by decide), y 56 (by decide), y 57 (by decide)]
    exact g1 p' hp'
  · rw [z 13 (by decide), y 52 (by decide)]
    refine ⟨?_, (g2 t' ht').2⟩
    rw [z120]
    by_cases e : t' = t
    · subst e
      rw [up2_e, pj_e _ _ (rl12 (by simp) (by omega))]
    · have g := (g2 t' ht').1
      rw [z120] at g
      rw [up2_i _ _ _ e, pj_i _ _ e, g]
  · rw [z 0 (by decide), y 58 (by decide), y 59 (by decide)]
    exact g3
  · intro p' hp'
    rw [z 5 (by decide), z 9 (by decide), z 10 (by decide)]
    exact i1 p' hp'
  · intro t' ht'
    rw [z 11 (by decide)]
    by_cases e : t' = t
    · subst e
      rw [up2_e]
      exact Or.inl ⟨hs, p, hp, rfl⟩
    · rw [up2_i _ _ _ e]
      exact i2 t' ht'
  · rw [z 13 (by decide)]; exact i3
  · rw [z 0 (by decide)]; exact i4
  · unfold wkOK
    rw [z 0 (by decide), z 7 (by decide), z 8 (by decide)]
    exact i6
  · rw [z 6 (by decide)]; exact k1
  · rw [z 14 (by decide), z 15 (by decide)]; exact k2
  · rw [z 11 (by decide), y 50 (by decide)]; exact hst
  · unfold nbOK
    rw [z 0 (by decide)]
    exact hnb
  · unfold bitOK
    rw [z 0 (by decide)]
    exact hbit
theorem NOWs.ro {W B M W3 : S32} {np nt nr : Nat} {dr : Int64} (h : NOWs W B (pj M) W3 np nt nr dr) (hnp : np ≤ 6) {p x : Nat} (hp : p < np) (hx : x < nr) : NOWs (up2 W 10 p (nI x)) B (pj (up2 M 57 p (nI x))) W3 np nt nr dr := by
  obtain ⟨⟨g1, g2, g3⟩, ⟨i1, i2, i3, i4, w, i5, i6⟩, ⟨k1, k2⟩, hst, hnb, hbit⟩ := h
  have z : ∀ r, r ≠ 10 → (up2 W 10 p (nI x)) r = W r := fun r h => up2_n _ _ _ h
  have y : ∀ r, r ≠ 57 → pj (up2 M 57 p (nI x)) r = pj M r := fun r h => pj_row _ _ h
  refine ⟨⟨fun p' hp' => ?_, fun t' ht' => ?_, ?_⟩, ⟨?_, ?_, ?_, ?_, w, i5, ?_⟩, ⟨?_, ?_⟩, ?_, ?_, ?_⟩
  · rw [z 5 (by decide), z 7 (by decide), z 8 (by decide), z 9 (by decide), y 53 (by decide), y 54 (by decide), y 55 (by decide), y 56 (by decide)]
    obtain ⟨a1, a2, a3, a4, a5⟩ := g1 p' hp'
    refine ⟨a1, a2, a3, a4, ?_⟩
    rw [z60] at a5 ⊢
    by_cases e : p' = p
    · subst e
      rw [up2_e, pj_e _ _ (rl6 (by simp) (by omega))]
    · rw [up2_i _ _ _ e, pj_i _ _ e, a5]
  · rw [z 12 (by decide), z 13 (by decide), y 51 (by decide), y 52 (by decide)]
    exact g2 t' ht'
  · rw [z 0 (by decide), y 58 (by decide), y 59 (by decide)]
    exact g3
  · intro p' hp'
    rw [z 5 (by decide), z 9 (by decide)]
    obtain ⟨a1, a2, a3⟩ := i1 p' hp'
    refine ⟨a1, a2, ?_⟩
    by_cases e : p' = p
    · subst e
      rw [up2_e]
      exact Or.inr ⟨x, hx, rfl⟩
    · rw [up2_i _ _ _ e]
      exact a3
  · intro t' ht'
    rw [z 11 (by decide), z 12 (by decide)]
    exact i2 t' ht'
  · rw [z 13 (by decide)]; exact i3
  · rw [z 0 (by decide)]; exact i4
  · unfold wkOK
    rw [z 0 (by decide), z 7 (by decide), z 8 (by decide)]
    exact i6
  · rw [z 6 (by decide)]; exact k1
  · rw [z 14 (by decide), z 15 (by decide)]; exact k2
  · rw [z 11 (by decide), y 50 (by decide)]; exact hst
  · unfold nbOK
    rw [z 0 (by decide)]
    exact hnb
  · unfold bitOK
    rw [z 0 (by decide)]
    exact hbit
theorem NOWs.ra {W B M W3 : S32} {np nt nr : Nat} {dr : Int64} (h : NOWs W B (pj M) W3 np nt nr dr) {x : Nat} (hx : x ≤ 100) : NOWs (up2 W 0 2 (nI x)) B (pj (up2 M 58 0 (nI x))) W3 np nt nr dr := by
  obtain ⟨⟨g1, g2, g3⟩, ⟨i1, i2, i3, i4, w, i5, i6⟩, ⟨k1, k2⟩, hst, hnb, hbit⟩ := h
  have z : ∀ r, r ≠ 0 → (up2 W 0 2 (nI x)) r = W r := fun r h => up2_n _ _ _ h
  have y : ∀ r, r ≠ 58 → pj (up2 M 58 0 (nI x)) r = pj M r := fun r h => pj_row _ _ h
  have z0 : ∀ i, i ≠ 2 → (up2 W 0 2 (nI x)) 0 i = W 0 i := fun i h => up2_i _ _ _ h
  refine ⟨⟨fun p' hp' => ?_, fun t' ht' => ?_, ?_⟩, ⟨?_, ?_, ?_, ?_, w, i5, ?_⟩, ⟨?_, ?_⟩, ?_, ?_, ?_⟩
  · rw [z 5 (by decide), z 7 (by decide), z 8 (by decide), z 9 (by decide), z 10 (by decide), y 53 (by decide), y 54 (by decide), y 55 (by decide), y 56 (by decide), y 57 (by decide)]
    exact g1 p' hp'
  · rw [z 12 (by decide), z 13 (by decide), y 51 (by decide), y 52 (by decide)]
    exact g2 t' ht'
  · rw [z0 1 (by decide), up2_e, y 59 (by decide), pj_e _ _ (by decide)]
    exact ⟨rfl, g3.2⟩
  · intro p' hp'
    rw [z 5 (by decide), z 9 (by decide), z 10 (by decide)]
    exact i1 p' hp'
  · intro t' ht'
    rw [z 11 (by decide), z 12 (by decide)]
    exact i2 t' ht'
  · rw [z 13 (by decide)]; exact i3
  · rw [up2_e]; exact ⟨x, hx, rfl⟩
  · unfold wkOK
    rw [z0 1 (by decide), z 7 (by decide), z 8 (by decide)]
    exact i6
  · rw [z 6 (by decide)]; exact k1
  · rw [z 14 (by decide), z 15 (by decide)]; exact k2
  · rw [z 11 (by decide), y 50 (by decide)]; exact hst
  · unfold nbOK
    rw [z0 3 (by decide)]
    exact hnb
  · unfold bitOK
    rw [z0 15 (by decide)]
    exact hbit
theorem NOWs.by {W B M W3 : S32} {np nt nr : Nat} {dr : Int64} (h : NOWs W B (pj M) W3 np nt nr dr) (hnp : np ≤ 6) {p a b : Nat} (hp : p < np) (ha : a ≤ 999) (hb : b ≤ 9) : NOWs (up2 (up2 W 5 p (nI a)) 9 p (nI b)) B (pj (up2 (up2 M 53 p (nI a)) 56 p (nI b))) W3 np nt nr dr := by
  obtain ⟨⟨g1, g2, g3⟩, ⟨i1, i2, i3, i4, w, i5, i6⟩, ⟨k1, k2⟩, hst, hnb, hbit⟩ := h
  have z : ∀ r, r ≠ 9 → r ≠ 5 → (up2 (up2 W 5 p (nI a)) 9 p (nI b)) r = W r := fun r h1 h2 => by rw [up2_n _ _ _ h1, up2_n _ _ _ h2]
  have y : ∀ r, r ≠ 56 → r ≠ 53 → pj (up2 (up2 M 53 p (nI a)) 56 p (nI b)) r = pj M r := fun r h1 h2 => by rw [pj_row _ _ h1, pj_row _ _ h2]
  have z5 : (up2 (up2 W 5 p (nI a)) 9 p (nI b)) 5 = (up2 W 5 p (nI a)) 5 := up2_n _ _ _ (by decide)
  have y53 : pj (up2 (up2 M 53 p (nI a)) 56 p (nI b)) 53 = pj (up2 M 53 p (nI a)) 53 := pj_row _ _ (by decide)
  refine ⟨⟨fun p' hp' => ?_, fun t' ht' => ?_, ?_⟩, ⟨?_, ?_, ?_, ?_, w, i5, ?_⟩, ⟨?_, ?_⟩, ?_, ?_, ?_⟩
  · rw [z5, y53, z 7 (by decide) (by decide), z 8 (by decide) (by decide), z 10 (by decide) (by decide), y 54 (by decide) (by decide), y 55 (by decide) (by decide), y 57 (by decide) (by decide)]
    obtain ⟨a1, a2, a3, a4, a5⟩ := g1 p' hp'
    rw [z60] at a1 a2 a3 a4 a5 ⊢
    by_cases e : p' = p
    · subst e
      rw [up2_e, up2_e, pj_e _ _ (rl6 (by simp) (by omega)), pj_e _ _ (rl6 (by simp) (by omega))]
      exact ⟨rfl, a2, a3, rfl, a5⟩
    · rw [up2_i _ _ _ e, up2_i _ _ _ e, up2_n _ _ _ (by decide), pj_i _ _ e, pj_i _ _ e, pj_row _ _ (by decide)]
      exact ⟨a1, a2, a3, a4, a5⟩
  · rw [z 12 (by decide) (by decide), z 13 (by decide) (by decide), y 51 (by decide) (by decide), y 52 (by decide) (by decide)]
    exact g2 t' ht'
  · rw [z 0 (by decide) (by decide), y 58 (by decide) (by decide), y 59 (by decide) (by decide)]
    exact g3
  · intro p' hp'
    obtain ⟨a1, a2, a3⟩ := i1 p' hp'
    rw [z5, z 10 (by decide) (by decide)]
    by_cases e : p' = p
    · subst e
      rw [up2_e, up2_e]
      exact ⟨⟨a, ha, rfl⟩, ⟨b, hb, rfl⟩, a3⟩
    · rw [up2_i _ _ _ e, up2_i _ _ _ e, up2_n _ _ _ (by decide)]
      exact ⟨a1, a2, a3⟩
  · intro t' ht'
    rw [z 11 (by decide) (by decide), z 12 (by decide) (by decide)]
    exact i2 t' ht'
  · rw [z 13 (by decide) (by decide)]; exact i3
  · rw [z 0 (by decide) (by decide)]; exact i4
  · unfold wkOK
    rw [z 0 (by decide) (by decide), z 7 (by decide) (by decide), z 8 (by decide) (by decide)]
    exact i6
  · rw [z 6 (by decide) (by decide)]; exact k1
  · rw [z 14 (by decide) (by decide), z 15 (by decide) (by decide)]; exact k2
  · rw [z 11 (by decide) (by decide), y 50 (by decide) (by decide)]; exact hst
  · unfold nbOK
    rw [z 0 (by decide) (by decide)]
    exact hnb
  · unfold bitOK
    rw [z 0 (by decide) (by decide)]
    exact hbit
theorem sp8 (fu : Nat) (hf : 1000 ≤ fu) : SP8 RR fu := by
  intro k q U V y1 y2 hR
  obtain ⟨np, nt, nr, h1, h2, h3, h4, h5, h6⟩ := id hR
  obtain ⟨⟨hnp, hnt, hnr⟩, ⟨b1, m1⟩, ⟨b5, m5⟩, ⟨b10, m10⟩, hbp, hbt, hbr, hb0, hwp, hwt, hwr, hw0, hbi, hwi⟩ := RX_PL h1.1 h1.2.1 h2.1 h2.2.1 h2.2.2.1 h2.2.2.2.1
  have bad : ∃ (r : Int32) (zu_W : S32) (zu_D : S32) (zu_M : S32), (some ((0 : Int32), U 1, U 5) : Option (Int32 × S32 × S32)) = some (r, zu_W, zu_D) ∧ (some ((0 : Int32), up2 (U 19) 0 2 0) : Option (Int32 × S32)) = some (r, zu_M) ∧ RR k q (va_up (va_up (va_up U 1 zu_W) 5 zu_D) 19 zu_M) V := ⟨_, _, _, _, rfl, rfl, RR_0 hR⟩
  unfold f_X11_hide f_X12_hide
  rw [tx_let_q]
  rcases t_thought fu (U 2) (up2 (U 19) 0 2 0) (V 19) b5 m5 hnt y1 with ⟨t, ht, rfl, e1, e2⟩ | ⟨e1, e2⟩
  rotate_left
  · have e3 : f_X10_isHeld fu (U 1) (U 2) y1 = some 0 := by
      unfold f_X10_isHeld
      rw [e1, tx_b1_q, if_pos rfl]
    rw [e2, e3]
    exact bad
  have ck := fun k : Option (Int32 × S32) => tx_ck_q (j := t) (n := 24) (by omega) (by omega) k
  have dk := fun k : Option (Int32 × S32 × S32) => tx_ck_q (j := t) (n := 12) (by omega) (by omega) k
  rw [e2, tx_b1_q, if_neg one_ne, c_held fu b5 hnt b1 hnp hwi ht, tx_b1_q, ck, nI_clamp (n := t) (by omega), ← (hwt t ht).1]
  by_cases hs : U 1 11 t = 1
  rotate_left
  · rw [if_neg hs, if_pos rfl, if_neg hs]
    exact bad
  rw [if_pos hs, if_neg one_ne, if_pos hs]
  rcases t_man fu (U 2) (up2 (U 19) 0 2 0) (V 19) b1 m1 hnp y2 with ⟨p, hp, rfl, e3, e4⟩ | ⟨e3, e4⟩
  rotate_left
  · rw [e3, e4]
    exact bad
  rw [e3, e4, tx_b1_q, tx_b1_q, if_neg one_ne, if_neg one_ne, ck, dk, ← (hwt t ht).2.1]
  by_cases hh : U 1 12 t = nI p
  · rw [if_pos hh, if_pos hh]
    exact bad
  obtain ⟨D', M2, c1, c2, c3, c4⟩ := RR_deed fu hf h1 h2 h3 h4 h5 h6 0 (nI t) (U 1 12 t)
  rw [if_neg hh, if_neg hh, dk, c1, c2, tx_b1_q, tx_b1_q, ck, dk, tx_let_q, tx_let_q]
  refine ⟨_, _, _, _, rfl, rfl, c4 _ _ (fun r hr => up2_n _ _ _ (by omega)) (Or.inl ⟨rfl, t, ht, rfl⟩) ?_ ?_⟩
  · rw [if_pos rfl, nI_clamp (n := t) (by omega), up2_up2, up2_self _ rfl]
  · have g : NOWs (U 1) (U 2) (pj (U 19)) (U 7) np nt nr (V 19 0 59) := h2
    exact (g.c (fun r a b => c3 r (by omega) (by omega))).th hnt ht hp hs
theorem sp10 (fu : Nat) (hf : 1000 ≤ fu) : SP10 RR fu := by
  intro k q U V y1 y2 hR
  obtain ⟨np, nt, nr, h1, h2, h3, h4, h5, h6⟩ := id hR
  obtain ⟨⟨hnp, hnt, hnr⟩, ⟨b1, m1⟩, ⟨b5, m5⟩, ⟨b10, m10⟩, hbp, hbt, hbr, hb0, hwp, hwt, hwr, hw0, hbi, hwi⟩ := RX_PL h1.1 h1.2.1 h2.1 h2.2.1 h2.2.2.1 h2.2.2.2.1
  have bad : ∃ (r : Int32) (zu_W : S32) (zu_D : S32) (zu_M : S32), (some ((0 : Int32), U 1, U 5) : Option (Int32 × S32 × S32)) = some (r, zu_W, zu_D) ∧ (some ((0 : Int32), up2 (U 19) 0 2 0) : Option (Int32 × S32)) = some (r, zu_M) ∧ RR k q (va_up (va_up (va_up U 1 zu_W) 5 zu_D) 19 zu_M) V := ⟨_, _, _, _, rfl, rfl, RR_0 hR⟩
  unfold f_X11_round f_X12_round
  rw [tx_let_q]
  rcases t_man fu (U 2) (up2 (U 19) 0 2 0) (V 19) b1 m1 hnp y1 with ⟨p, hp, rfl, e1, e2⟩ | ⟨e1, e2⟩
  rotate_left
  · rw [e1, e2]
    exact bad
  rw [e1, e2, tx_b1_q, tx_b1_q, if_neg one_ne, if_neg one_ne]
  rcases t_reader fu (U 2) (up2 (U 19) 0 2 0) (V 19) b10 m10 hnr y2 with ⟨x, hx, rfl, e3, e4⟩ | ⟨e3, e4⟩
  rotate_left
  · rw [e3, e4]
    exact bad
  have ck := fun k : Option (Int32 × S32) => tx_ck_q (j := p) (n := 12) (by omega) (by omega) k
  have dk := fun k : Option (Int32 × S32 × S32) => tx_ck_q (j := p) (n := 6) (by omega) (by omega) k
  rw [e3, e4, tx_b1_q, tx_b1_q, if_neg one_ne, if_neg one_ne, ck, dk, nI_clamp (n := p) (by omega), ← (hwp p hp).2.2.2.2.1]
  by_cases hh : U 1 10 p = nI x
  · rw [if_pos hh, if_pos hh]
    exact bad
  obtain ⟨D', M2, c1, c2, c3, c4⟩ := RR_deed fu hf h1 h2 h3 h4 h5 h6 2 (nI p) (U 1 10 p)
  rw [if_neg hh, if_neg hh, dk, c1, c2, tx_b1_q, tx_b1_q, ck, dk, tx_let_q, tx_let_q]
  refine ⟨_, _, _, _, rfl, rfl, c4 _ _ (fun r hr => up2_n _ _ _ (by omega)) (Or.inr (Or.inr (Or.inl ⟨rfl, p, hp, rfl⟩))) ?_ ?_⟩
  · rw [if_neg (by decide), if_neg (by decide), if_pos rfl, nI_clamp (n := p) (by omega), up2_up2, up2_self _ rfl]
  · have g : NOWs (U 1) (U 2) (pj (U 19)) (U 7) np nt nr (V 19 0 59) := h2
    exact (g.c (fun r a b => c3 r (by omega) (by omega))).ro hnp hp hx
theorem sp11 (fu : Nat) (hf : 1000 ≤ fu) : SP11 RR fu := by
  intro k q U V y1 hR
  obtain ⟨np, nt, nr, h1, h2, h3, h4, h5, h6⟩ := id hR
  obtain ⟨⟨hnp, hnt, hnr⟩, ⟨b1, m1⟩, ⟨b5, m5⟩, ⟨b10, m10⟩, hbp, hbt, hbr, hb0, hwp, hwt, hwr, hw0, hbi, hwi⟩ := RX_PL h1.1 h1.2.1 h2.1 h2.2.1 h2.2.2.1 h2.2.2.2.1
  have bad : ∃ (r : Int32) (zu_W : S32) (zu_D : S32) (zu_M : S32), (some ((0 : Int32), U 1, U 5) : Option (Int32 × S32 × S32)) = some (r, zu_W, zu_D) ∧ (some ((0 : Int32), up2 (U 19) 0 2 0) : Option (Int32 × S32)) = some (r, zu_M) ∧ RR k q (va_up (va_up (va_up U 1 zu_W) 5 zu_D) 19 zu_M) V := ⟨_, _, _, _, rfl, rfl, RR_0 hR⟩
  unfold f_X11_rate f_X12_rate
  rw [tx_let_q]
  by_cases a1 : y1 < 0
  · rw [if_pos a1, isIn_f fu (Or.inl a1)]; exact bad
  rw [if_neg a1]
  by_cases a2 : 100 < y1
  · rw [if_pos a2, isIn_f fu (Or.inr a2)]; exact bad
  have e58 : (up2 (U 19) 0 2 0) 58 ((0 : Int32).toNatClampNeg) = U 1 0 2 := hw0.1.symm
  rw [if_neg a2, isIn_t fu a1 a2, tx_b1_q, if_neg one_ne, e58]
  by_cases hh : U 1 0 2 = y1
  · rw [if_pos hh, if_pos hh]; exact bad
  obtain ⟨x, hx, rfl⟩ := nI_of2 (M := 100) (n := 100) rfl a1 (Int32.not_lt.mp a2)
  obtain ⟨D', M2, c1, c2, c3, c4⟩ := RR_deed fu hf h1 h2 h3 h4 h5 h6 3 0 (U 1 0 2)
  rw [if_neg hh, if_neg hh, c1, c2, tx_b1_q, tx_b1_q, tx_let_q, tx_let_q]
  refine ⟨_, _, _, _, rfl, rfl, c4 _ _ (fun r hr => up2_n _ _ _ (by omega)) (Or.inr (Or.inr (Or.inr rfl))) ?_ ?_⟩
  · rw [if_neg (by decide), if_neg (by decide), if_neg (by decide), up2_up2, up2_self _ rfl]
  · have g : NOWs (U 1) (U 2) (pj (U 19)) (U 7) np nt nr (V 19 0 59) := h2
    exact (g.c (fun r a b => c3 r (by omega) (by omega))).ra hx
theorem sp9 (fu : Nat) (hf : 1000 ≤ fu) : SP9 RR fu := by
  intro k q U V y1 y2 hR
  obtain ⟨np, nt, nr, h1, h2, h3, h4, h5, h6⟩ := id hR
  obtain ⟨⟨hnp, hnt, hnr⟩, ⟨b1, m1⟩, ⟨b5, m5⟩, ⟨b10, m10⟩, hbp, hbt, hbr, hb0, hwp, hwt, hwr, hw0, hbi, hwi⟩ := RX_PL h1.1 h1.2.1 h2.1 h2.2.1 h2.2.2.1 h2.2.2.2.1
  have bad : ∀ z : Int32, ∃ (r : Int32) (zu_W : S32) (zu_D : S32) (zu_M : S32), (some (z, U 1, U 5) : Option (Int32 × S32 × S32)) = some (r, zu_W, zu_D) ∧ (some (z, up2 (U 19) 0 2 0) : Option (Int32 × S32)) = some (r, zu_M) ∧ RR k q (va_up (va_up (va_up U 1 zu_W) 5 zu_D) 19 zu_M) V := fun z => ⟨_, _, _, _, rfl, rfl, RR_0 hR⟩
  unfold f_X11_buy f_X12_buy
  rw [tx_let_q (up2 (U 19) 0 2 0)]
  rcases t_man fu (U 2) (up2 (U 19) 0 2 0) (V 19) b1 m1 hnp y1 with ⟨p, hp, rfl, e1, e2⟩ | ⟨e1, e2⟩
  rotate_left
  · rw [e1, e2]
    exact bad _
  rw [e1, e2, tx_b1_q, tx_b1_q, if_neg one_ne, if_neg one_ne]
  by_cases a1 : y2 < 1
  · rw [if_pos a1, isIn_f fu (Or.inl a1)]; exact bad _
  rw [if_neg a1]
  by_cases a2 : 9 < y2
  · rw [if_pos a2, isIn_f fu (Or.inr a2)]; exact bad _
  rw [if_neg a2, isIn_t fu a1 a2, tx_b1_q, if_neg one_ne]
  have a0 : ¬ y2 < 0 := fun z => a1 (Int32.lt_trans z (by decide))
  obtain ⟨m, hm, rfl⟩ := nI_of2 (M := 9) (n := 9) rfl a0 (Int32.not_lt.mp a2)
  have ck := fun k : Option (Int32 × S32) => tx_ck_q (j := p) (n := 12) (by omega) (by omega) k
  have dk := fun k : Option (Int32 × S32 × S32) => tx_ck_q (j := p) (n := 6) (by omega) (by omega) k
  have e22 : (up2 (U 19) 0 2 0) 22 ((1 : Int32).toNatClampNeg) = U 2 0 15 := hb0.2.1.symm
  obtain ⟨⟨a, ha, q5⟩, ⟨b, hb, q9⟩, -⟩ := hwi.1 p hp
  obtain ⟨d, hd1, hd2, q15⟩ := hbi.2.2.2.2.1
  have hmd : m * d ≤ 9 * 99 := Nat.mul_le_mul hm hd2
  rw [ck, dk, nI_clamp (n := p) (by omega), ← (hwp p hp).2.2.2.1, e22, ← (hwp p hp).1, q9, q5, nI_add]
  by_cases a3 : nI (b + m) ≤ (9 : Int32)
  rotate_left
  · rw [if_neg a3, if_neg a3]; exact bad _
  have hbm : b + m ≤ 9 := (nI_leI (b := 9) (by omega) (by omega)).mp a3
  rw [if_pos a3, if_pos a3, tx_let_q, ck, dk, q15, pk_mul]
  by_cases a4 : nI (m * d) ≤ nI a
  rotate_left
  · rw [if_neg a4, if_neg a4]; exact bad _
  have hmda : m * d ≤ a := (nI_leI (by omega) (by omega)).mp a4
  obtain ⟨D', M2, c1, c2, c3, c4⟩ := RR_deed fu hf h1 h2 h3 h4 h5 h6 1 (nI p) (nI m)
  have g : NOWs (U 1) (U 2) (pj (U 19)) (U 7) np nt nr (V 19 0 59) := h2
  have g' := (g.c (M' := M2) (fun r a b => c3 r (by omega) (by omega))).by hnp hp (a := a - m * d) (b := b + m) (by omega) hbm
  have r53 : M2 53 p = nI a := by
    rw [c3 53 (by decide) (by decide)]
    have w := (hwp p hp).1
    rw [up_r _ (by decide), q5] at w
    exact w.symm
  have r56 : M2 56 p = nI b := by
    rw [c3 56 (by decide) (by decide)]
    have w := (hwp p hp).2.2.2.1
    rw [up_r _ (by decide), q9] at w
    exact w.symm
  have r22 : M2 22 ((1 : Int32).toNatClampNeg) = nI d := by
    rw [c3 22 (by decide) (by decide)]
    have w := hb0.2.1
    rw [up_r _ (by decide), q15] at w
    exact w.symm
  have n53 : (up2 M2 53 p (nI (a - m * d))) 56 p = nI b := by rw [up2_n _ _ _ (by decide)]; exact r56
  have n5 : (up2 (U 1) 5 p (nI (a - m * d))) 9 p = nI b := by rw [up2_n _ _ _ (by decide)]; exact q9
  rw [if_pos a4, if_pos a4, c1, c2, tx_b1_q, tx_b1_q, dk, dk, tx_let_q, ck, ck, tx_let_q, pk_sub hmda, r53, r22, pk_mul, pk_sub hmda, dk, dk, tx_let_q, ck, ck, tx_let_q, n53, n5, nI_add, dk, ck, up2_e, up2_e]
  refine ⟨_, _, _, _, rfl, rfl, c4 _ _ (fun r hr => by rw [up2_n _ _ _ (by omega), up2_n _ _ _ (by omega)]) (Or.inr (Or.inl ⟨rfl, p, hp, rfl⟩)) ?_ g'⟩
  rw [if_neg (by decide), if_pos rfl, nI_clamp (n := p) (by omega), up2_e, up2_up2, up2_n _ _ _ (show (5 : Nat) ≠ 9 by decide), up2_e, pk_sub (by omega), q15, pk_mul, nI_add, show b + m - m = b by omega, show a - m * d + m * d = a by omega]
  funext r i
  rw [up2_a, up2_a, up2_a]
  by_cases e5 : r = 5 ∧ i = p
  · rw [if_pos e5, e5.1, e5.2, q5]
  · rw [if_neg e5]
    by_cases e9 : r = 9 ∧ i = p
    · rw [if_pos e9, e9.1, e9.2, q9]
    · rw [if_neg e9, if_neg e5]
