/-! bytes that are fed -/
def shf (k : Nat) : Int32 := (24 : Int32) - 8 * nI k
theorem shf_s (k : Nat) : shf k + (-8) = shf (k + 1) := by
  unfold shf
  rw [← nI_1]
  generalize nI k = x
  grind
theorem shf_p {k : Nat} (h : k < 4) : ¬ shf k < 0 := by
  have : k = 0 ∨ k = 1 ∨ k = 2 ∨ k = 3 := by omega
  rcases this with rfl | rfl | rfl | rfl <;> decide
theorem byte_q (x : Int32) : ∃ a, a ≤ 255 ∧ x &&& 255 = nI a ∧ (x.toInt8.toInt32).toInt8.toInt32 = (nI a).toInt8.toInt32 := by
  refine ⟨x.toBitVec.toNat % 2 ^ 8, by omega, pk_and x 8 rfl, ?_⟩
  rw [Int8.toInt8_toInt32]
  congr 1
  apply Int8.toBitVec.inj
  apply BitVec.eq_of_toNat_eq
  unfold nI
  rw [Int32.toInt8_ofNat', Int32.toBitVec_toInt8, BitVec.signExtend_eq_setWidth_of_le _ (by decide), BitVec.toNat_setWidth, Int8.toBitVec_ofNat', BitVec.toNat_ofNat]
  omega
theorem add_loop (fu : Nat) (x : Int32) (a : Nat) (ha : a + 4 ≤ 700) : ∀ m k n P, k + m = 4 → m < n → P 0 1 = nI (a + k) → ∃ P', f_X6_add_L3 fu n P x (shf k) = some P' ∧ P' 0 1 = nI (a + 4) ∧ (∀ j, j < a + k → P' 1 j = P 1 j) ∧ ∀ i, k ≤ i → i < 4 → P' 1 (a + i) = ((x >>> (shf i &&& 31)).toInt8.toInt32).toInt8.toInt32 := by
  intro m
  induction m with
  | zero =>
    intro k n P hk hn hP
    obtain ⟨n, rfl⟩ := pos_ex hn
    have : k = 4 := by omega
    subst this
    refine ⟨P, ?_, hP, fun _ _ => rfl, fun i h1 h2 => absurd h2 (by omega)⟩
    show f_X6_add_J3 _ _ _ _ _ = _
    unfold f_X6_add_J3
    rw [if_pos (by decide)]
  | succ m ih =>
    intro k n P hk hn hP
    obtain ⟨n, rfl⟩ := pos_ex hn
    obtain ⟨P', e1, e2, e3, e4⟩ := ih (k + 1) n (up2 (up2 P 1 (a + k) ((x >>> (shf k &&& 31)).toInt8.toInt32).toInt8.toInt32) 0 1 (nI (a + k + 1))) (by omega) (by omega) (up2_e _ _ _ _)
    refine ⟨P', ?_, e2, ?_, ?_⟩
    · show f_X6_add_J3 _ _ _ _ _ = _
      unfold f_X6_add_J3 f_X6_add_J47
      have ck := fun k' : Option S32 => tx_ck_q (j := a + k) (n := 700) (by omega) (by omega) k'
      rw [if_neg (shf_p (by omega)), hP, if_neg (nI_pos (n := a + k) (by omega)), if_neg (show ¬ (700 : Int32) ≤ nI (a + k) from nI_ge (b := 700) (by omega) (by omega)), ck, tx_let_q, nI_clamp (n := a + k) (by omega), tx_let_q, up2_n _ _ _ (show (0 : Nat) ≠ 1 by decide), hP, nI_1, tx_let_q, shf_s]
      exact e1
    · intro j hj
      rw [e3 j (by omega), up2_n _ _ _ (by decide), up2_i _ _ _ (by omega)]
    · intro i h1 h2
      by_cases e : i = k
      · subst e
        rw [e3 _ (by omega), up2_n _ _ _ (by decide), up2_e]
      · exact e4 i (by omega) h2
theorem add_q (fu : Nat) (hf : 1000 ≤ fu) (x : Int32) {a : Nat} (ha : a + 4 ≤ 700) {P : S32} (hP : P 0 1 = nI a) : ∃ P', f_X6_add fu P x = some P' ∧ P' 0 1 = nI (a + 4) ∧ (∀ j, j < a → P' 1 j = P 1 j) ∧ ∀ i, i < 4 → P' 1 (a + i) = ((x >>> (shf i &&& 31)).toInt8.toInt32).toInt8.toInt32 := by
  obtain ⟨P', e1, e2, e3, e4⟩ := add_loop fu x a ha 4 0 fu P (by omega) (by omega) hP
  exact ⟨P', e1, e2, e3, fun i hi => e4 i (by omega) hi⟩
def w5 (y1 y2 y3 y4 y5 : Int32) (k : Nat) : Int32 := if k < 4 then y1 else if k < 8 then y2 else if k < 12 then y3 else if k < 16 then y4 else y5
theorem feed_loop (fu : Nat) (v : S64) (y1 y2 y3 y4 y5 : Int32) (a : Nat) (ha : a + 20 ≤ 700) : ∀ m k n M, k + m = 20 → m < n → M 0 1 = nI a → ∃ M', f_X12_feed_L23 fu v n M y1 y2 y3 y4 y5 (nI k) = some (nI (a + 20), M') ∧ M' 0 1 = nI (a + 20) ∧ (∀ r, r ≠ 0 → r ≠ 1 → M' r = M r) ∧ (∀ i, i ≠ 1 → M' 0 i = M 0 i) ∧ (∀ j, j < a + k → M' 1 j = M 1 j) ∧ ∀ i, k ≤ i → i < 20 → M' 1 (a + i) = ((w5 y1 y2 y3 y4 y5 i) >>> (shf (i % 4) &&& 31)) &&& 255 := by
  intro m
  induction m with
  | zero =>
    intro k n M hk hn hM
    obtain ⟨n, rfl⟩ := pos_ex hn
    have : k = 20 := by omega
    subst this
    refine ⟨up2 M 0 1 (nI (a + 20)), ?_, up2_e _ _ _ _, fun r h _ => up2_n _ _ _ h, fun i h => up2_i _ _ _ h, fun j _ => by rw [up2_n _ _ _ (by decide)], fun i h1 h2 => absurd h2 (by omega)⟩
    show f_X12_feed_J23 _ _ _ _ _ _ _ _ _ _ = _
    unfold f_X12_feed_J23
    have e : nI a + (20 : Int32) = nI (a + 20) := nI_add a 20
    rw [if_pos (show (20 : Int32) ≤ nI 20 by decide), tx_let_q, hM, e, up2_e]
  | succ m ih =>
    intro k n M hk hn hM
    obtain ⟨n, rfl⟩ := pos_ex hn
    obtain ⟨M', e1, e2, e3, e4, e5, e6⟩ := ih (k + 1) n (up2 M 1 (a + k) (((w5 y1 y2 y3 y4 y5 k) >>> (shf (k % 4) &&& 31)) &&& 255)) (by omega) (by omega) (by rw [up2_n _ _ _ (by decide)]; exact hM)
    refine ⟨M', ?_, e2, ?_, ?_, ?_, ?_⟩
    · have J : ∀ t0, t0 = w5 y1 y2 y3 y4 y5 k → f_X12_feed_J76 fu v (f_X12_feed_L23 fu v n) M y1 y2 y3 y4 y5 (nI k) t0 = some (nI (a + 20), M') := by
        rintro t0 rfl
        unfold f_X12_feed_J76
        have e : nI k - nI k / 4 * 4 = nI (k % 4) := pk_rem (d := 4) (by omega) (by omega) (by omega)
        rw [hM, nI_add, tx_ck_q (by omega) (by omega), tx_let_q, nI_clamp (n := a + k) (by omega), tx_let_q, nI_1, e]
        exact e1
      show f_X12_feed_J23 _ _ _ _ _ _ _ _ _ _ = _
      unfold f_X12_feed_J23
      rw [if_neg (show ¬ (20 : Int32) ≤ nI k from nI_ge (b := 20) (by omega) (by omega))]
      by_cases h4 : k < 4
      · rw [if_neg (ge4 h4)]
        exact J _ (by unfold w5; rw [if_pos h4])
      rw [if_pos (show (4 : Int32) ≤ nI k from nI_le (a := 4) (by omega) (by omega))]
      by_cases h8 : k < 8
      · rw [if_neg (show ¬ (8 : Int32) ≤ nI k from nI_ge (b := 8) (by omega) (by omega))]
        exact J _ (by unfold w5; rw [if_neg h4, if_pos h8])
      rw [if_pos (show (8 : Int32) ≤ nI k from nI_le (a := 8) (by omega) (by omega))]
      by_cases h12 : k < 12
      · rw [if_neg (ge12 h12)]
        exact J _ (by unfold w5; rw [if_neg h4, if_neg h8, if_pos h12])
      rw [if_pos (show (12 : Int32) ≤ nI k from nI_le (a := 12) (by omega) (by omega))]
      by_cases h16 : k < 16
      · rw [if_neg (show ¬ (16 : Int32) ≤ nI k from nI_ge (b := 16) (by omega) (by omega))]
        exact J _ (by unfold w5; rw [if_neg h4, if_neg h8, if_neg h12, if_pos h16])
      · rw [if_pos (show (16 : Int32) ≤ nI k from nI_le (a := 16) (by omega) (by omega))]
        exact J _ (by unfold w5; rw [if_neg h4, if_neg h8, if_neg h12, if_neg h16])
    · intro r h1 h2
      rw [e3 r h1 h2, up2_n _ _ _ h2]
    · intro i h1
      rw [e4 i h1, up2_n _ _ _ (by decide)]
    · intro j hj
      rw [e5 j (by omega), up2_i _ _ _ (by omega)]
    · intro i h1 h2
      by_cases e : i = k
      · subst e
        rw [e5 _ (by omega), up2_e]
      · exact e6 i (by omega) h2
theorem RR_P {k q : Nat → Nat} {U : Nat → S32} {V : Nat → S64} {P' M' : S32} (hR : RR k q U V) (hr : ∀ r, r ≠ 0 → r ≠ 1 → pj M' r = pj (U 19) r) (h0 : ∀ i, i ≠ 1 → pj M' 0 i = pj (U 19) 0 i) (ht : tpOK P' (pj M')) : RR k q (va_up (va_up U 18 P') 19 M') V := by
  obtain ⟨np, nt, nr, ⟨hb, hbi, hlw⟩, ⟨hw, hwi, hwb, hst, hnb⟩, ⟨-, hz, hwo⟩, hfd, him, hud⟩ := hR
  refine ⟨np, nt, nr, ⟨hb.c (fun r h1 h2 => hr r (by omega) (by omega)) (h0 _ (by decide)) (h0 _ (by decide)) (h0 _ (by decide)), hbi, hlw.c (fun r h1 h2 => hr r (by omega) (by omega)) (h0 _ (by decide))⟩, ⟨hw.c (fun r h1 h2 => hr r (by omega) (by omega)), hwi, hwb, ?_, hnb⟩, ⟨ht, ?_, ?_⟩, hfd.c (h0 _ (by decide)) (h0 _ (by decide)) (hr _ (by decide) (by decide)), him.c (h0 _ (by decide)) (hr _ (by decide) (by decide)) (hr _ (by decide) (by decide)), hud.c (h0 _ (by decide)) (hr _ (by decide) (by decide))⟩
  · intro t h
    show U 1 11 t = pj M' 50 t
    rw [hr 50 (by decide) (by decide)]
    exact hst t h
  · show U 12 0 2 = pj M' 0 4 ∧ U 12 0 3 = pj M' 0 5
    rw [h0 4 (by decide), h0 5 (by decide)]
    exact hz
  · intro j hj
    show pj M' 4 j = _
    rw [hr 4 (by decide) (by decide)]
    exact hwo j hj
theorem rl1 (i : Nat) : rl 1 i = true := by simp [rl]
theorem pj_w {M M' : S32} {r : Nat} (h : M' r = M r) : pj M' r = pj M r := by
  funext i
  unfold pj
  rw [h]
theorem pj_c {M M' : S32} {r i : Nat} (h : M' r i = M r i) : pj M' r i = pj M r i := by
  unfold pj
  rw [h]
theorem sp0 (fu : Nat) (hf : 1000 ≤ fu) : SP0 RR fu := by
  intro k q U V y1 y2 y3 y4 y5 hR
  have htp : tpOK (U 18) (pj (U 19)) := by
    obtain ⟨_, _, _, -, -, ⟨h, -⟩, -⟩ := id hR
    exact h
  obtain ⟨n, hn, p1, m1, hrow⟩ := id htp
  have m1' : (up2 (U 19) 0 2 0) 0 1 = nI n := by
    rw [up_t _ (by decide)]
    exact m1
  have e20 : nI n + (20 : Int32) = nI (n + 20) := nI_add n 20
  unfold f_X11_feed f_X12_feed f_X6_hasRoom
  rw [tx_let_q, p1, m1', e20]
  by_cases hc : n + 20 ≤ 700
  · rw [if_neg (show ¬ (700 : Int32) < nI (n + 20) from nI_nlt (a := 700) hc (by omega)), tx_b1_q, if_neg one_ne, if_pos (show nI (n + 20) ≤ (700 : Int32) from nI_le (b := 700) hc (by omega))]
    obtain ⟨P1, a1, a2, a3, a4⟩ := add_q fu hf y1 (a := n) (by omega) p1
    obtain ⟨P2, b1, b2, b3, b4⟩ := add_q fu hf y2 (a := n + 4) (by omega) a2
    obtain ⟨P3, c1, c2, c3, c4⟩ := add_q fu hf y3 (a := n + 4 + 4) (by omega) b2
    obtain ⟨P4, d1, d2, d3, d4⟩ := add_q fu hf y4 (a := n + 4 + 4 + 4) (by omega) c2
    obtain ⟨P5, e1, e2, e3, e4⟩ := add_q fu hf y5 (a := n + 4 + 4 + 4 + 4) (by omega) d2
    obtain ⟨M', f1, f2, f3, f4, f5, f6⟩ := feed_loop fu (V 19) y1 y2 y3 y4 y5 n hc 20 0 fu (up2 (U 19) 0 2 0) (by omega) (by omega) m1'
    rw [nI_0] at f1
    rw [a1, tx_b1_q, b1, tx_b1_q, c1, tx_b1_q, d1, tx_b1_q, e1, tx_b1_q, f1, e2]
    refine ⟨_, _, _, rfl, rfl, ?_⟩
    refine RR_P hR (fun r h1 h2 => pj_w ((f3 r h1 h2).trans (up2_n _ _ _ h1))) (fun i h1 => ?_) ⟨n + 20, hc, e2, ?_, ?_⟩
    · have : pj M' 0 i = pj (up2 (U 19) 0 2 0) 0 i := pj_c (f4 i h1)
      rw [this, pj_thrown]
    · rw [pj_in (by decide)]
      exact f2
    · intro j hj
      rw [pj_in (rl1 j)]
      by_cases hjn : j < n
      · obtain ⟨a, ha, g1, g2⟩ := hrow j hjn
        refine ⟨a, ha, ?_, ?_⟩
        · rw [f5 j (by omega), up2_n _ _ _ (by decide)]
          rw [pj_in (rl1 j)] at g1
          exact g1
        · rw [e3 j (by omega), d3 j (by omega), c3 j (by omega), b3 j (by omega), a3 j hjn]
          exact g2
      · obtain ⟨i, rfl⟩ : ∃ i, j = n + i := ⟨j - n, by omega⟩
        have hi : i < 20 := by omega
        obtain ⟨a, ha, g1, g2⟩ := byte_q ((w5 y1 y2 y3 y4 y5 i) >>> (shf (i % 4) &&& 31))
        refine ⟨a, ha, (f6 i (by omega) hi).trans g1, ?_⟩
        rw [← g2]
        unfold w5
        by_cases h4 : i < 4
        · rw [if_pos h4, Nat.mod_eq_of_lt h4, e3 _ (by omega), d3 _ (by omega), c3 _ (by omega), b3 _ (by omega)]
          exact a4 i h4
        by_cases h8 : i < 8
        · obtain ⟨l, rfl⟩ : ∃ l, i = 4 + l := ⟨i - 4, by omega⟩
          rw [if_neg h4, if_pos h8, show (4 + l) % 4 = l by omega, show n + (4 + l) = n + 4 + l by omega, e3 _ (by omega), d3 _ (by omega), c3 _ (by omega)]
          exact b4 l (by omega)
        by_cases h12 : i < 12
        · obtain ⟨l, rfl⟩ : ∃ l, i = 8 + l := ⟨i - 8, by omega⟩
          rw [if_neg h4, if_neg h8, if_pos h12, show (8 + l) % 4 = l by omega, show n + (8 + l) = n + 4 + 4 + l by omega, e3 _ (by omega), d3 _ (by omega)]
          exact c4 l (by omega)
        by_cases h16 : i < 16
        · obtain ⟨l, rfl⟩ : ∃ l, i = 12 + l := ⟨i - 12, by omega⟩
          rw [if_neg h4, if_neg h8, if_neg h12, if_pos h16, show (12 + l) % 4 = l by omega, show n + (12 + l) = n + 4 + 4 + 4 + l by omega, e3 _ (by omega)]
          exact d4 l (by omega)
        · obtain ⟨l, rfl⟩ : ∃ l, i = 16 + l := ⟨i - 16, by omega⟩
          rw [if_neg h4, if_neg h8, if_neg h12, if_neg h16, show (16 + l) % 4 = l by omega, show n + (16 + l) = n + 4 + 4 + 4 + 4 + l by omega]
          exact e4 l (by omega)
  · rw [if_pos (show (700 : Int32) < nI (n + 20) from nI_lt (a := 700) (by omega) (by omega)), tx_b1_q, if_pos rfl, if_neg (show ¬ nI (n + 20) ≤ (700 : Int32) from nI_ge (a := 700) (by omega) (by omega))]
    refine ⟨_, _, _, rfl, rfl, ?_⟩
    exact RR_P hR (fun r h1 _ => pj_row _ _ h1) (fun i _ => congrFun (congrFun (pj_thrown (U 19) 0) 0) i) (by rw [pj_thrown]; exact htp)
