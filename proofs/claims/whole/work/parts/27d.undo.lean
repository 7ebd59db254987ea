/-! undone, kept, back -/
theorem unD_r (D B W : S32) (i : Nat) {r : Nat} (h0 : r ≠ 0) (h5 : r ≠ 5) (h9 : r ≠ 9) (h10 : r ≠ 10) (h12 : r ≠ 12) : unD D B W i r = W r := by
  unfold unD
  by_cases a : D 1 i = 0
  · rw [if_pos a, up2_n _ _ _ h12]
  rw [if_neg a]
  by_cases b : D 1 i = 1
  · rw [if_pos b, up2_n _ _ _ h5, up2_n _ _ _ h9]
  rw [if_neg b]
  by_cases c : D 1 i = 2
  · rw [if_pos c, up2_n _ _ _ h10]
  · rw [if_neg c, up2_n _ _ _ h0]
theorem unD_0 (D B W : S32) (i : Nat) {j : Nat} (h : j ≠ 2) : unD D B W i 0 j = W 0 j := by
  unfold unD
  by_cases a : D 1 i = 0
  · rw [if_pos a, up2_n _ _ _ (by decide)]
  rw [if_neg a]
  by_cases b : D 1 i = 1
  · rw [if_pos b, up2_n _ _ _ (by decide), up2_n _ _ _ (by decide)]
  rw [if_neg b]
  by_cases c : D 1 i = 2
  · rw [if_pos c, up2_n _ _ _ (by decide)]
  · rw [if_neg c, up2_i _ _ _ h]
theorem unL (fu : Nat) {B D : S32} (W : S32) {m np nt : Nat} (hm : m < 20) (hD : D 0 3 = nI (m + 1)) (b1 : B 0 1 = nI np) (hnp : np ≤ 6) (b5 : B 0 5 = nI nt) (hnt : nt ≤ 12) (hd : deedOK D m np nt) : f_X1_undoLatest fu B D W = some (up2 D 0 3 (nI m), unD D B W m) := by
  unfold f_X1_undoLatest unD
  have ck := fun k : Option (S32 × S32) => tx_ck_q (j := m) (n := 20) hm (by omega) k
  rw [hD, if_neg (nI_nle (n := m + 1) (by omega) (by omega)), if_pos (show nI (m + 1) ≤ (20 : Int32) from nI_le (b := 20) (by omega) (by omega)), nI_pred, tx_let_q, up2_e, ck, tx_let_q, ck, tx_let_q, ck, nI_clamp (n := m) (by omega), up2_n _ _ _ (show (1 : Nat) ≠ 0 by decide), up2_n _ _ _ (show (2 : Nat) ≠ 0 by decide), up2_n _ _ _ (show (3 : Nat) ≠ 0 by decide)]
  rcases hd with ⟨e1, t, ht, e2⟩ | ⟨e1, p, hp, e2⟩ | ⟨e1, p, hp, e2⟩ | e1
  · rw [if_pos e1, if_pos e1, e2]
    unfold f_X1_unhide
    rw [c_isT fu b5 hnt ht, tx_b1_q, if_neg one_ne, tx_ck_q (by omega) (by omega), tx_let_q, tx_b1_q]
  · have n0 : ¬ D 1 m = 0 := by rw [e1]; decide
    rw [if_neg n0, if_neg n0, if_pos e1, if_pos e1, e2]
    unfold f_X1_unbuy
    have dk := fun k : Option S32 => tx_ck_q (j := p) (n := 6) (by omega) (by omega) k
    rw [c_isM fu b1 hnp hp, tx_b1_q, if_neg one_ne, dk, dk, tx_let_q, dk, dk, tx_let_q, tx_b1_q, up2_n _ _ _ (show (5 : Nat) ≠ 9 by decide)]
  · have n0 : ¬ D 1 m = 0 := by rw [e1]; decide
    have n1 : ¬ D 1 m = 1 := by rw [e1]; decide
    rw [if_neg n0, if_neg n0, if_neg n1, if_neg n1, if_pos e1, if_pos e1, e2]
    unfold f_X1_unround
    rw [c_isM fu b1 hnp hp, tx_b1_q, if_neg one_ne, tx_ck_q (by omega) (by omega), tx_let_q, tx_b1_q]
  · have n0 : ¬ D 1 m = 0 := by rw [e1]; decide
    have n1 : ¬ D 1 m = 1 := by rw [e1]; decide
    have n2 : ¬ D 1 m = 2 := by rw [e1]; decide
    rw [if_neg n0, if_neg n0, if_neg n1, if_neg n1, if_neg n2, if_neg n2, tx_let_q]
theorem sp39 (fu : Nat) (hf : 1000 ≤ fu) : SP39 RR fu := by
  intro k q U V hR
  obtain ⟨np, nt, nr, h1, h2, h3, h4, h5, n, hn, d3, m75, hu⟩ := id hR
  have hnp := h1.1.1.1
  have hnt := h1.1.1.2.1
  have m75' : (up2 (U 19) 0 2 0) 0 75 = nI n := by
    rw [up_t _ (by decide)]
    exact m75
  unfold f_X11_undo f_X12_undo
  rw [tx_let_q, d3, m75']
  rcases Nat.eq_zero_or_pos n with e | e
  · subst e
    rw [if_pos nI_0, if_pos nI_0]
    exact ⟨_, _, _, _, rfl, rfl, RR_0 hR⟩
  obtain ⟨m, rfl⟩ := pos_ex e
  obtain ⟨hd, hs, hi, hu'⟩ := hu
  rw [if_neg (nI_ne0 e (by omega)), if_neg (nI_ne0 e (by omega)), unL fu (U 1) (by omega) d3 h1.1.2.1.1 hnp h1.1.2.2.1.1 hnt hd, tx_b2_q, nI_pred, tx_let_q, up2_e, up2_e]
  have e31 : (31 : Int32) * nI m = nI (31 * m) := pk_mul 31 m
  obtain ⟨M', c1, c2, c3, c4, c5⟩ := take_77 fu hf (V 19) (o := 31 * m) (by omega) (up2 (up2 (U 19) 0 2 0) 0 75 (nI m))
  have z : ∀ r, r ≠ 0 → (up2 (up2 (U 19) 0 2 0) 0 75 (nI m)) r = U 19 r := fun r h => by rw [up2_n _ _ _ h, up2_n _ _ _ h]
  have f : ∀ r, r ≠ 0 → r ≠ 51 → r ≠ 53 → r ≠ 56 → r ≠ 57 → r ≠ 58 → M' r = U 19 r := fun r h0 a b c d e => (c2 r a b c d e).trans (z r h0)
  have f0 : M' 0 = (up2 (up2 (U 19) 0 2 0) 0 75 (nI m)) 0 := c2 0 (by decide) (by decide) (by decide) (by decide) (by decide)
  have m0 : M' 0 75 = nI m := by rw [f0, up2_e]
  rw [z 77 (by decide)] at c3 c4 c5
  rw [e31, c1, tx_b1_q, m0]
  refine ⟨_, _, _, _, rfl, rfl, ?_⟩
  have hw := h2.1
  have key := RR_D (k := k) (q := q) (U := U) (V := V) (V' := V) (W' := unD (U 5) (U 2) (U 1) m) (D' := up2 (U 5) 0 3 (nI m)) (M' := M') h1 h3 h4 h5 (fun r a b c => pj_w (f r a (by omega) (by omega) (by omega) (by omega) (by omega))) (fun i hi => by
    have : M' 0 i = (up2 (U 19) 0 2 0) 0 i := by rw [f0, up2_i _ _ _ hi]
    rw [pj_c this, pj_thrown]) rfl ?_ ?_
  · exact key
  · obtain ⟨g1, g2, g3⟩ := hs
    refine ⟨⟨fun p hp => ?_, fun t ht => ?_, ?_⟩, hi, ⟨?_, ?_⟩, ?_, ?_, ?_⟩
    · obtain ⟨a1, a2, a3⟩ := g2 p hp
      obtain ⟨b1, b2, b3⟩ := c4 p (by omega)
      obtain ⟨-, w7, w8, -, -⟩ := hw.1 p hp
      rw [pj_in (rl77 _)] at a1 a2 a3
      rw [z60] at w7 w8 ⊢
      refine ⟨?_, ?_, ?_, ?_, ?_⟩
      · rw [a1, pj_in (rl6 (by simp) (by omega)), b1]
      · rw [unD_r _ _ _ _ (by decide) (by decide) (by decide) (by decide) (by decide), w7]
        exact (congrFun (pj_w (f 54 (by decide) (by decide) (by decide) (by decide) (by decide) (by decide))) p).symm
      · rw [unD_r _ _ _ _ (by decide) (by decide) (by decide) (by decide) (by decide), w8]
        exact (congrFun (pj_w (f 55 (by decide) (by decide) (by decide) (by decide) (by decide) (by decide))) p).symm
      · rw [a2, pj_in (rl6 (by simp) (by omega)), b2]
      · rw [a3, pj_in (rl6 (by simp) (by omega)), b3]
    · have a1 := g1 t ht
      rw [pj_in (rl77 _)] at a1
      obtain ⟨-, w13⟩ := hw.2.1 t ht
      rw [z120] at w13 ⊢
      refine ⟨?_, ?_⟩
      · rw [a1, pj_in (rl12 (by simp) (by omega)), c5 t (by omega)]
      · rw [unD_r _ _ _ _ (by decide) (by decide) (by decide) (by decide) (by decide), w13]
        exact (congrFun (pj_w (f 52 (by decide) (by decide) (by decide) (by decide) (by decide) (by decide))) t).symm
    · rw [pj_in (rl77 _)] at g3
      refine ⟨?_, ?_⟩
      · rw [g3, pj_in (by decide), c3]
      · rw [unD_0 _ _ _ _ (by decide), hw.2.2.2]
        exact (congrFun (pj_w (f 59 (by decide) (by decide) (by decide) (by decide) (by decide) (by decide))) 0).symm
    · rw [unD_r _ _ _ _ (by decide) (by decide) (by decide) (by decide) (by decide)]
      exact h2.2.2.1.1
    · rw [unD_r _ _ _ _ (by decide) (by decide) (by decide) (by decide) (by decide), unD_r _ _ _ _ (by decide) (by decide) (by decide) (by decide) (by decide)]
      exact h2.2.2.1.2
    · intro t ht
      rw [unD_r _ _ _ _ (by decide) (by decide) (by decide) (by decide) (by decide), h2.2.2.2.1 t ht]
      exact (congrFun (pj_w (f 50 (by decide) (by decide) (by decide) (by decide) (by decide) (by decide))) t).symm
    · unfold nbOK
      rw [unD_0 _ _ _ _ (by decide)]
      exact h2.2.2.2.2.1
    · unfold bitOK
      rw [unD_0 _ _ _ _ (by decide)]
      exact h2.2.2.2.2.2
  · refine ⟨m, by omega, up2_e _ _ _ _, by rw [pj_in (by decide)]; exact m0, ?_⟩
    refine udN.sh (D := U 5) (M := pj (U 19)) (s := 0) hnp hnt m _ (fun r i a b _ => by rw [up2_n _ _ _ (by omega), Nat.add_zero]) (fun i _ => by rw [pj_w (f 77 (by decide) (by decide) (by decide) (by decide) (by decide) (by decide)), Nat.mul_zero, Nat.add_zero]) hu'
theorem wdIn.e {W W' : S32} {np nt nr : Nat} (h : wdIn W np nt nr) (hp : ∀ p, p < np → W' 5 p = W 5 p ∧ W' 7 p = W 7 p ∧ W' 8 p = W 8 p ∧ W' 9 p = W 9 p ∧ W' 10 p = W 10 p) (ht : ∀ t, t < nt → W' 11 t = W 11 t ∧ W' 12 t = W 12 t ∧ W' 13 t = W 13 t) (h1 : W' 0 1 = W 0 1) (h2 : W' 0 2 = W 0 2) : wdIn W' np nt nr := by
  obtain ⟨i1, i2, i3, i4, w, i5, i6, i7⟩ := h
  refine ⟨fun p hp' => ?_, fun t ht' => ?_, fun t ht' => ?_, ?_, w, i5, ?_, fun p hp' => ?_⟩
  · obtain ⟨a, -, -, b, c⟩ := hp p hp'
    rw [a, b, c]
    exact i1 p hp'
  · obtain ⟨a, b, -⟩ := ht t ht'
    rw [a, b]
    exact i2 t ht'
  · rw [(ht t ht').2.2]
    exact i3 t ht'
  · rw [h2]; exact i4
  · rw [h1]; exact i6
  · obtain ⟨-, a, b, -, -⟩ := hp p hp'
    rw [a, b]
    exact i7 p hp'
