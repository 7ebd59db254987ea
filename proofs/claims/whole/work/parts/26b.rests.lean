/-! the game of a street and a reader -/
def tq (S r : Int32) (a b : Nat) : Int32 := ((if a = 1 ∧ b = 0 then S else if a = b then S / 2 else 0) * r) / 100
def sq (S r : Int32) (a b : Nat) : Int32 := (-(tq S r a b)) - (if a = 0 then 5 else 0)
def rq (S r : Int32) (a b : Nat) : Int32 := tq S r a b - (if b = 0 then 3 else 0)
def isq (S r : Int32) (a b : Nat) : Prop := ¬ sq S r a b < sq S r (1 - a) b ∧ ¬ rq S r a b < rq S r a (1 - b)
theorem lt2 {a : Nat} (h : a < 2) : a = 0 ∨ a = 1 := by omega
theorem c_tq (fu : Nat) {G : S32} {S r : Int32} (h2 : G 0 2 = S) (h3 : G 0 3 = r) {a b : Nat} (ha : a < 2) (hb : b < 2) : f_X3_tax fu G (nI a) (nI b) = some (tq S r a b) := by
  unfold f_X3_tax f_X3_tax_J10 f_X3_tax_J20 f_X3_tax_J38 f_X3_tax_J47 f_X3_tax_J57
  rw [h2, h3]
  rcases lt2 ha with rfl | rfl <;> rcases lt2 hb with rfl | rfl <;> rfl
theorem c_sq (fu : Nat) {G : S32} {S r : Int32} (h2 : G 0 2 = S) (h3 : G 0 3 = r) {a b : Nat} (ha : a < 2) (hb : b < 2) : f_X3_streetHas fu G (nI a) (nI b) = some (sq S r a b) := by
  unfold f_X3_streetHas sq
  rw [c_tq fu h2 h3 ha hb, tx_b1_q]
  rcases lt2 ha with rfl | rfl <;> rfl
theorem c_rq (fu : Nat) {G : S32} {S r : Int32} (h2 : G 0 2 = S) (h3 : G 0 3 = r) {a b : Nat} (ha : a < 2) (hb : b < 2) : f_X3_readerHas fu G (nI a) (nI b) = some (rq S r a b) := by
  unfold f_X3_readerHas rq
  rw [c_tq fu h2 h3 ha hb, tx_b1_q]
  rcases lt2 hb with rfl | rfl <;> rfl
theorem one_sub {a : Nat} (ha : a < 2) : (1 : Int32) - nI a = nI (1 - a) := pk_sub (a := 1) (by omega)
theorem c_isq (fu : Nat) {G : S32} {S r : Int32} (h2 : G 0 2 = S) (h3 : G 0 3 = r) {a b : Nat} (ha : a < 2) (hb : b < 2) : (isq S r a b → f_X3_isRest fu G (nI a) (nI b) = some 1) ∧ (¬ isq S r a b → f_X3_isRest fu G (nI a) (nI b) = some 0) := by
  unfold f_X3_isRest
  rw [one_sub ha, one_sub hb, c_sq fu h2 h3 ha hb, c_sq fu h2 h3 (show 1 - a < 2 by omega) hb, c_rq fu h2 h3 ha hb, c_rq fu h2 h3 ha (show 1 - b < 2 by omega), tx_b1_q, tx_b1_q, tx_b1_q, tx_b1_q]
  refine ⟨fun h => ?_, fun h => ?_⟩
  · rw [if_neg h.1, if_neg h.2]
  · by_cases c : sq S r a b < sq S r (1 - a) b
    · rw [if_pos c]
    · rw [if_neg c]
      by_cases d : rq S r a b < rq S r a (1 - b)
      · rw [if_pos d]
      · exact absurd ⟨c, d⟩ h
theorem fl_taxBy {M : S32} {v : S64} {nt : Nat} (fu : Nat) (hM : M 0 13 = nI nt) (hn : nt ≤ 12) {a b : Nat} (ha : a < 2) (hb : b < 2) : ∀ (m t n : Nat) (z : Int32), t + m = nt → m < n → f_X12_taxBy_L5 fu M v n (nI a) (nI b) z (nI t) = some (tq (fd (fun (t : Nat) (z : Int32) => z + if M 50 t = 1 then M 27 t else 0) m t z) (M 58 0) a b) := by
  intro m
  induction m with
  | zero =>
    intro t n z ht hn2
    obtain ⟨n, rfl⟩ := pos_ex hn2
    show f_X12_taxBy_J5 _ _ _ _ _ _ _ _ = _
    unfold f_X12_taxBy_J5 f_X12_taxBy_J75
    rw [hM, if_pos (nI_le (by omega) (by omega)), tx_let_q]
    rcases lt2 ha with rfl | rfl <;> rcases lt2 hb with rfl | rfl <;> rfl
  | succ m ih =>
    intro t n z ht hn2
    obtain ⟨n, rfl⟩ := pos_ex hn2
    show f_X12_taxBy_J5 _ _ _ _ _ _ _ _ = some (tq (fd _ m (t + 1) _) (M 58 0) a b)
    rw [← ih (t + 1) n _ (by omega) (by omega)]
    show _ = f_X12_taxBy_L5 fu M v n (nI a) (nI b) (z + if M 50 t = 1 then M 27 t else 0) (nI (t + 1))
    unfold f_X12_taxBy_J5 f_X12_taxBy_J37
    have ck := fun k : Option Int32 => tx_ck_q (j := t) (n := 24) (by omega) (by omega) k
    rw [hM, if_neg (ge_lit (t := t) (by omega) (by omega)), ck, ck, nI_clamp (n := t) (by omega)]
    by_cases h : M 50 t = 1
    · rw [if_pos h, if_pos h, tx_let_q, tx_let_q, nI_1]
    · rw [if_neg h, if_neg h, tx_let_q, tx_let_q, nI_1]
theorem pl_d {g : Nat} (h : g < 4) : tx_plays g / 10 = nI (g / 2) ∧ tx_plays g - tx_plays g / 10 * 10 = nI (g % 2) ∧ (10 : Int32) * nI (g / 2) + nI (g % 2) = tx_plays g := by
  have : g = 0 ∨ g = 1 ∨ g = 2 ∨ g = 3 := by omega
  rcases this with rfl | rfl | rfl | rfl <;> decide
theorem rs_step (fu : Nat) {M : S32} {v : S64} {S r : Int32} (hs : ∀ a b, a < 2 → b < 2 → f_X12_streetHas fu M v (nI a) (nI b) = some (sq S r a b)) (hr : ∀ a b, a < 2 → b < 2 → f_X12_readerHas fu M v (nI a) (nI b) = some (rq S r a b)) (K : Int32 → Int32 → Int32 → Option Int32) (w1 w2 : Int32) {g : Nat} (hg : g < 4) :
    (isq S r (g / 2) (g % 2) → f_X12_restAt_J4 fu M v K w1 w2 (nI g) = if w2 = w1 then some (tx_plays g) else K w1 (w2 + 1) (nI (g + 1))) ∧ (¬ isq S r (g / 2) (g % 2) → f_X12_restAt_J4 fu M v K w1 w2 (nI g) = K w1 w2 (nI (g + 1))) := by
  have ha : g / 2 < 2 := by omega
  have hb : g % 2 < 2 := by omega
  have e1 : nI g / 2 = nI (g / 2) := pk_div (d := 2) (by omega) (by omega) (by omega)
  have e2 : nI g - nI (g / 2) * 2 = nI (g % 2) := by
    rw [← e1]
    exact pk_rem (d := 2) (by omega) (by omega) (by omega)
  unfold f_X12_restAt_J4 f_X12_restAt_J81
  rw [if_neg (ge4 hg), e1, tx_let_q, e2, tx_let_q, one_sub ha, one_sub hb, hs _ _ (show 1 - g / 2 < 2 by omega) hb, hs _ _ ha hb, hr _ _ ha hb, hr _ _ ha (show 1 - g % 2 < 2 by omega), tx_b1_q, tx_b1_q, tx_b1_q, tx_b1_q, (pl_d hg).2.2, tx_let_q, tx_let_q, nI_1]
  refine ⟨fun h => ?_, fun h => ?_⟩
  · rw [if_neg h.1, if_pos (Int32.not_lt.mp h.2), tx_let_q]
  · by_cases c : sq S r (g / 2) (g % 2) < sq S r (1 - g / 2) (g % 2)
    · rw [if_pos c]
    · rw [if_neg c]
      by_cases d : rq S r (g / 2) (g % 2) < rq S r (g / 2) (1 - g % 2)
      · rw [if_neg (Int32.not_le.mpr d)]
      · exact absurd ⟨c, d⟩ h
theorem re_loop {M : S32} {v : S64} (fu : Nat) {S r : Int32} (hs : ∀ a b, a < 2 → b < 2 → f_X12_streetHas fu M v (nI a) (nI b) = some (sq S r a b)) (hr : ∀ a b, a < 2 → b < 2 → f_X12_readerHas fu M v (nI a) (nI b) = some (rq S r a b)) :
    ∀ m g n n' G c, g + m = 4 → m < n → m < n' → c ≤ g → G 0 1 = nI c → G 0 2 = S → G 0 3 = r → ∃ G' c', f_X3_play_L17 fu n G (nI g) = some G' ∧ c ≤ c' ∧ c' ≤ 4 ∧ G' 0 1 = nI c' ∧ (∀ i, i < c → G' 1 i = G 1 i) ∧ f_X12_restAt_L4 fu M v n' (-1) (nI c) (nI g) = some (nI c') ∧ ∀ k, c ≤ k → k < 2 ^ 31 → f_X12_restAt_L4 fu M v n' (nI k) (nI c) (nI g) = some (if k < c' then G' 1 k else -2) := by
  intro m
  induction m with
  | zero =>
    intro g n n' G c hg h1 h2 hc g1 g2 g3
    obtain ⟨n, rfl⟩ := pos_ex h1
    obtain ⟨n', rfl⟩ := pos_ex h2
    have : g = 4 := by omega
    subst this
    refine ⟨G, c, ?_, Nat.le_refl _, hc, g1, fun _ _ => rfl, ?_, ?_⟩
    · show f_X3_play_J17 _ _ _ _ = _
      unfold f_X3_play_J17
      rw [if_pos (by decide)]
    · show f_X12_restAt_J4 _ _ _ _ _ _ _ = _
      unfold f_X12_restAt_J4
      rw [if_pos (by decide), if_neg (by decide)]
    · intro k hk hk2
      show f_X12_restAt_J4 _ _ _ _ _ _ _ = _
      unfold f_X12_restAt_J4
      rw [if_pos (by decide), if_pos (nI_pos' hk2), if_neg (by omega)]
  | succ m ih =>
    intro g n n' G c hg h1 h2 hc g1 g2 g3
    obtain ⟨n, rfl⟩ := pos_ex h1
    obtain ⟨n', rfl⟩ := pos_ex h2
    have hg4 : g < 4 := by omega
    have rs := fun w1 w2 => rs_step fu hs hr (f_X12_restAt_L4 fu M v n') w1 w2 hg4
    have ci := c_isq fu g2 g3 (show g / 2 < 2 by omega) (show g % 2 < 2 by omega)
    show ∃ G' c', f_X3_play_J17 fu (f_X3_play_L17 fu n) G (nI g) = some G' ∧ c ≤ c' ∧ c' ≤ 4 ∧ G' 0 1 = nI c' ∧ (∀ i, i < c → G' 1 i = G 1 i) ∧ f_X12_restAt_J4 fu M v (f_X12_restAt_L4 fu M v n') (-1) (nI c) (nI g) = some (nI c') ∧ ∀ k, c ≤ k → k < 2 ^ 31 → f_X12_restAt_J4 fu M v (f_X12_restAt_L4 fu M v n') (nI k) (nI c) (nI g) = some (if k < c' then G' 1 k else -2)
    unfold f_X3_play_J17 f_X3_play_J91
    have ck := fun k : Option S32 => tx_ck_q (j := g) (n := 4) (by omega) (by omega) k
    have dk := fun k : Option S32 => tx_ck_q (j := c) (n := 4) (by omega) (by omega) k
    rw [if_neg (ge4 hg4), ck, ck, ck, nI_clamp (n := g) (by omega), (pl_d hg4).2.1, (pl_d hg4).1, g1]
    by_cases hq : isq S r (g / 2) (g % 2)
    · rw [ci.1 hq, tx_b1_q, if_neg one_ne, if_neg (nI_pos (n := c) (by omega)), if_neg (ge4 (t := c) (by omega)), dk, nI_clamp (n := c) (by omega), tx_let_q, tx_let_q, tx_let_q, nI_1, up2_n _ _ _ (show (0 : Nat) ≠ 1 by decide), g1, nI_1]
      obtain ⟨G', c', e1, e2, e3, e4, e5, e6, e7⟩ := ih (g + 1) n n' (up2 (up2 G 1 c (tx_plays g)) 0 1 (nI (c + 1))) (c + 1) (by omega) (by omega) (by omega) (by omega) (up2_e _ _ _ _) (by rw [up2_i _ _ _ (by decide), up2_n _ _ _ (by decide)]; exact g2) (by rw [up2_i _ _ _ (by decide), up2_n _ _ _ (by decide)]; exact g3)
      refine ⟨G', c', e1, by omega, e3, e4, ?_, ?_, ?_⟩
      · intro i hi
        rw [e5 i (by omega), up2_n _ _ _ (by decide), up2_i _ _ _ (by omega)]
      · rw [(rs _ _).1 hq, if_neg (m1_ne (by omega)), nI_1]
        exact e6
      · intro k hk hk2
        rw [(rs _ _).1 hq]
        by_cases ek : c = k
        · subst ek
          rw [if_pos rfl, if_pos (by omega), e5 c (by omega), up2_n _ _ _ (by decide), up2_e]
        · rw [if_neg (fun z => ek ((nI_eq (by omega) hk2).mp z)), nI_1]
          exact e7 k (by omega) hk2
    · rw [ci.2 hq, tx_b1_q, if_pos rfl, tx_let_q, nI_1]
      obtain ⟨G', c', e1, e2, e3, e4, e5, e6, e7⟩ := ih (g + 1) n n' G c (by omega) (by omega) (by omega) (by omega) g1 g2 g3
      refine ⟨G', c', e1, e2, e3, e4, e5, ?_, ?_⟩
      · rw [(rs _ _).2 hq]
        exact e6
      · intro k hk hk2
        rw [(rs _ _).2 hq]
        exact e7 k hk hk2
theorem re_both {k q : Nat → Nat} {U : Nat → S32} {V : Nat → S64} (fu : Nat) (hf : 1000 ≤ fu) (hR : RR k q U V) : ∃ S G' c', f_X10_heldWorth fu (U 1) (U 2) = some S ∧ f_X3_play fu (U 3) S (U 1 0 2) = some G' ∧ c' ≤ 4 ∧ G' 0 1 = nI c' ∧ f_X12_restAt fu (up2 (U 19) 0 2 0) (V 19) (-1) = some (nI c') ∧ ∀ k, k < 2 ^ 31 → f_X12_restAt fu (up2 (U 19) 0 2 0) (V 19) (nI k) = some (if k < c' then G' 1 k else -2) := by
  obtain ⟨np, nt, nr, ⟨hnp, hnt, hnr⟩, ⟨b1, m1⟩, ⟨b5, m5⟩, ⟨b10, m10⟩, hbp, hbt, hbr, hb0, hwp, hwt, hwr, hw0, hbi, hwi⟩ := RR_PL hR
  have e1 : f_X10_heldWorth fu (U 1) (U 2) = _ := fl_heldWorth fu b5 hnt b1 hnp hwi nt 0 fu 0 (by omega) (by omega)
  have e3 := fd_congr (n := nt) (g := fun (t : Nat) (a : Int32) => a + if U 1 11 t = 1 then U 2 8 t else 0) (g' := fun (t : Nat) (a : Int32) => a + if (up2 (U 19) 0 2 0) 50 t = 1 then (up2 (U 19) 0 2 0) 27 t else 0) (fun t ht a => by
    rw [(hwt t ht).1, (hbt t ht).2.1]) nt 0 (0 : Int32) (by omega)
  rw [e3] at e1
  have ht : ∀ a b, a < 2 → b < 2 → f_X12_taxBy fu (up2 (U 19) 0 2 0) (V 19) (nI a) (nI b) = _ := fun a b ha hb => fl_taxBy (v := V 19) fu m5 hnt ha hb nt 0 fu 0 (by omega) (by omega)
  revert e1 ht
  generalize fd (fun (t : Nat) (a : Int32) => a + if (up2 (U 19) 0 2 0) 50 t = 1 then (up2 (U 19) 0 2 0) 27 t else 0) nt 0 0 = S
  intro e1 ht
  rw [← hw0.1] at ht
  have hs : ∀ a b, a < 2 → b < 2 → f_X12_streetHas fu (up2 (U 19) 0 2 0) (V 19) (nI a) (nI b) = some (sq S (U 1 0 2) a b) := by
    intro a b ha hb
    unfold f_X12_streetHas sq
    rw [ht a b ha hb, tx_b1_q]
    rcases lt2 ha with rfl | rfl <;> rfl
  have hr : ∀ a b, a < 2 → b < 2 → f_X12_readerHas fu (up2 (U 19) 0 2 0) (V 19) (nI a) (nI b) = some (rq S (U 1 0 2) a b) := by
    intro a b ha hb
    unfold f_X12_readerHas rq
    rw [ht a b ha hb, tx_b1_q]
    rcases lt2 hb with rfl | rfl <;> rfl
  obtain ⟨G', c', g1, g2, g3, g4, g5, g6, g7⟩ := re_loop (v := V 19) fu hs hr 4 0 fu fu (up2 (up2 (up2 (U 3) 0 2 S) 0 3 (U 1 0 2)) 0 1 0) 0 (by omega) (by omega) (by omega) (by omega) (up2_e _ _ _ _) (by rw [up2_i _ _ _ (by decide), up2_i _ _ _ (by decide), up2_e]) (by rw [up2_i _ _ _ (by decide), up2_e])
  exact ⟨S, G', c', e1, g1, g3, g4, g6, fun k hk => g7 k (by omega) hk⟩
theorem sp21 (fu : Nat) (hf : 1000 ≤ fu) : SP21 RR fu := by
  intro k q U V hR
  obtain ⟨S, G', c', e1, e2, hc, e4, e5, -⟩ := re_both fu hf hR
  unfold f_X11_rests f_X12_rests
  rw [tx_let_q, e1, tx_b1_q, e2, tx_b1_q, e5, tx_b1_q, e4]
  have hR' : RR k q (va_up U 3 G') V := hR
  exact ⟨_, _, _, rfl, rfl, RR_t hR'⟩
theorem sp22 (fu : Nat) (hf : 1000 ≤ fu) : SP22 RR fu := by
  intro k q U V y1 hR
  obtain ⟨S, G', c', e1, e2, hc, e4, -, e6⟩ := re_both fu hf hR
  unfold f_X11_rest f_X12_rest f_X3_restAt
  rw [tx_let_q]
  by_cases h0 : (0 : Int32) ≤ y1
  · rw [if_pos h0, if_pos h0, e1, tx_b1_q, e2, tx_b1_q, e4]
    obtain ⟨j, hj, rfl⟩ := nI_of (Int32.not_lt.mpr h0)
    have hR' : RR k q (va_up U 3 G') V := hR
    rw [e6 j hj, tx_b1_q, if_neg (nI_pos hj)]
    by_cases h1 : j < c'
    · rw [if_pos h1, if_neg (nI_ge h1 (by omega)), if_neg (ge4 (t := j) (by omega)), tx_ck_q (by omega) (by omega), nI_clamp (by omega)]
      exact ⟨_, _, _, rfl, rfl, RR_t hR'⟩
    · rw [if_neg h1, if_pos (nI_le (by omega) hj)]
      exact ⟨_, _, _, rfl, rfl, RR_t hR'⟩
  · rw [if_neg h0, if_neg h0]
    have hR' : RR k q (va_up U 3 (U 3)) V := hR
    exact ⟨_, _, _, rfl, rfl, RR_t hR'⟩
