/-! an image is kept, and brought back -/
theorem kp70 (fu : Nat) (v : S64) : ∀ m p n M, p + m = 6 → m < n → ∃ M', f_X12_keep_L70 fu n M v (nI p) = some (M 59 0, M', up4 v 0 80 (v 0 59)) ∧ (∀ r, r ≠ 80 → M' r = M r) ∧ (∀ i, i < 24 + p ∨ (30 ≤ i ∧ i < 30 + p) → M' 80 i = M 80 i) ∧ (∀ x, p ≤ x → x < 6 → M' 80 (24 + x) = M 54 x ∧ M' 80 (30 + x) = M 55 x) ∧ M' 80 36 = M 59 0 := by
  intro m
  induction m with
  | zero =>
    intro p n M hp hn
    obtain ⟨n, rfl⟩ := pos_ex hn
    have : p = 6 := by omega
    subst this
    refine ⟨up2 M 80 36 (M 59 0), ?_, fun r h => up2_n _ _ _ h, fun i h => up2_i _ _ _ (by omega), fun x h1 h2 => absurd h2 (by omega), up2_e _ _ _ _⟩
    show f_X12_keep_J70 _ _ _ _ _ = _
    unfold f_X12_keep_J70
    rw [if_pos (show (6 : Int32) ≤ nI 6 by decide), tx_let_q, tx_let_q]
    rfl
  | succ m ih =>
    intro p n M hp hn
    obtain ⟨n, rfl⟩ := pos_ex hn
    obtain ⟨M', e1, e2, e3, e4, e5⟩ := ih (p + 1) n (up2 (up2 M 80 (24 + p) (M 54 p)) 80 (30 + p) (M 55 p)) (by omega) (by omega)
    have f : ∀ r, r ≠ 80 → (up2 (up2 M 80 (24 + p) (M 54 p)) 80 (30 + p) (M 55 p)) r = M r := fun r h => by rw [up2_n _ _ _ h, up2_n _ _ _ h]
    rw [f 59 (by decide)] at e1 e5
    rw [f 54 (by decide), f 55 (by decide)] at e4
    refine ⟨M', ?_, fun r h => (e2 r h).trans (f r h), ?_, ?_, e5⟩
    · show f_X12_keep_J70 _ _ _ _ _ = _
      unfold f_X12_keep_J70
      have a1 : (24 : Int32) + nI p = nI (24 + p) := nI_add 24 p
      have a2 : (30 : Int32) + nI p = nI (30 + p) := nI_add 30 p
      have ck := fun k : Option (Int32 × S32 × S64) => tx_ck_q (j := p) (n := 12) (by omega) (by omega) k
      have c1 := fun k : Option (Int32 × S32 × S64) => tx_ck_q (j := 24 + p) (n := 37) (by omega) (by omega) k
      have c2 := fun k : Option (Int32 × S32 × S64) => tx_ck_q (j := 30 + p) (n := 37) (by omega) (by omega) k
      rw [if_neg (ge6 (t := p) (by omega)), ck, a1, a2, c1, tx_let_q, ck, c2, tx_let_q, tx_let_q, nI_clamp (n := p) (by omega), nI_clamp (n := 24 + p) (by omega), nI_clamp (n := 30 + p) (by omega), nI_1]
      exact e1
    · intro i hi
      rw [e3 i (by omega), up2_i _ _ _ (by omega), up2_i _ _ _ (by omega)]
    · intro x h1 h2
      by_cases e : x = p
      · subst e
        refine ⟨?_, ?_⟩
        · rw [e3 _ (by omega), up2_i _ _ _ (by omega), up2_e]
        · rw [e3 _ (by omega), up2_e]
      · exact e4 x (by omega) h2
theorem kp21 (fu : Nat) (hf : 1000 ≤ fu) (v : S64) : ∀ m t n M, t + m = 12 → m < n → ∃ M', f_X12_keep_L21 fu n M v (nI t) = some (M 59 0, M', up4 v 0 80 (v 0 59)) ∧ (∀ r, r ≠ 80 → M' r = M r) ∧ (∀ i, i < t → M' 80 i = M 80 i ∧ M' 80 (12 + i) = M 80 (12 + i)) ∧ (∀ x, t ≤ x → x < 12 → M' 80 x = M 50 x ∧ M' 80 (12 + x) = if M 52 x = 0 then 0 else 1) ∧ (∀ x, x < 6 → M' 80 (24 + x) = M 54 x ∧ M' 80 (30 + x) = M 55 x) ∧ M' 80 36 = M 59 0 := by
  intro m
  induction m with
  | zero =>
    intro t n M ht hn
    obtain ⟨n, rfl⟩ := pos_ex hn
    have : t = 12 := by omega
    subst this
    obtain ⟨M', e1, e2, e3, e4, e5⟩ := kp70 fu v 6 0 fu M (by omega) (by omega)
    refine ⟨M', ?_, e2, fun i hi => ⟨e3 i (by omega), e3 _ (by omega)⟩, fun x h1 h2 => absurd h2 (by omega), fun x hx => e4 x (by omega) hx, e5⟩
    show f_X12_keep_J21 _ _ _ _ _ = _
    unfold f_X12_keep_J21
    rw [if_pos (show (12 : Int32) ≤ nI 12 by decide)]
    exact e1
  | succ m ih =>
    intro t n M ht hn
    obtain ⟨n, rfl⟩ := pos_ex hn
    obtain ⟨M', e1, e2, e3, e4, e5, e6⟩ := ih (t + 1) n (up2 (up2 M 80 t (M 50 t)) 80 (12 + t) (if M 52 t = 0 then 0 else 1)) (by omega) (by omega)
    have f : ∀ r, r ≠ 80 → (up2 (up2 M 80 t (M 50 t)) 80 (12 + t) (if M 52 t = 0 then 0 else 1)) r = M r := fun r h => by rw [up2_n _ _ _ h, up2_n _ _ _ h]
    rw [f 59 (by decide)] at e1 e6
    rw [f 54 (by decide), f 55 (by decide)] at e5
    rw [f 50 (by decide), f 52 (by decide)] at e4
    refine ⟨M', ?_, fun r h => (e2 r h).trans (f r h), ?_, ?_, e5, e6⟩
    · show f_X12_keep_J21 _ _ _ _ _ = _
      unfold f_X12_keep_J21 f_X12_keep_J61
      have a1 : (12 : Int32) + nI t = nI (12 + t) := nI_add 12 t
      have ck := fun k : Option (Int32 × S32 × S64) => tx_ck_q (j := t) (n := 24) (by omega) (by omega) k
      have c1 := fun k : Option (Int32 × S32 × S64) => tx_ck_q (j := t) (n := 37) (by omega) (by omega) k
      have c2 := fun k : Option (Int32 × S32 × S64) => tx_ck_q (j := 12 + t) (n := 37) (by omega) (by omega) k
      rw [if_neg (ge12 (t := t) (by omega)), ck, c1, tx_let_q, ck, nI_clamp (n := t) (by omega), up2_n _ _ _ (show (52 : Nat) ≠ 80 by decide), a1, c2, c2, tx_let_q, tx_let_q, tx_let_q, tx_let_q, nI_clamp (n := 12 + t) (by omega), nI_1]
      by_cases c : M 52 t = 0
      · rw [if_pos c] at e1 ⊢
        exact e1
      · rw [if_neg c] at e1 ⊢
        exact e1
    · intro i hi
      obtain ⟨g1, g2⟩ := e3 i (by omega)
      rw [g1, g2, up2_i _ _ _ (by omega), up2_i _ _ _ (by omega), up2_i _ _ _ (by omega), up2_i _ _ _ (by omega)]
      exact ⟨rfl, rfl⟩
    · intro x h1 h2
      by_cases e : x = t
      · subst e
        obtain ⟨g1, g2⟩ := e3 x (by omega)
        rw [g1, g2, up2_e, up2_i _ _ _ (by omega), up2_e]
        exact ⟨rfl, rfl⟩
      · exact e4 x (by omega) h2
theorem sp40 (fu : Nat) (hf : 1000 ≤ fu) : SP40 RR fu := by
  intro k q U V hR
  obtain ⟨np, nt, nr, ⟨hb, hbi, hlw⟩, ⟨hw, hwi, hwb, hst, hnb, hbit⟩, ⟨ht, hz, hwo⟩, hfd, him, hud⟩ := id hR
  have hnp := hb.1.1
  have hnt := hb.1.2.1
  have hnr := hb.1.2.2
  obtain ⟨Wc, w1, w2, w3, w4, w5, w6, w7, w8⟩ := cp_spec fu (U 1) (U 9)
  obtain ⟨M1, c1, c2, c3, c4, c5, c6⟩ := put_79 fu hf (V 19) (o := 0) (by omega) (up2 (up2 (U 19) 0 2 0) 0 77 1)
  obtain ⟨M', e1, e2, e3, e4, e5, e6⟩ := kp21 fu hf (V 19) 12 0 fu M1 (by omega) (by omega)
  have z : ∀ r, r ≠ 0 → (up2 (up2 (U 19) 0 2 0) 0 77 1) r = U 19 r := fun r h => by rw [up2_n _ _ _ h, up2_n _ _ _ h]
  have g1 : ∀ r, r ≠ 0 → r ≠ 79 → M1 r = U 19 r := fun r a b => (c2 r b).trans (z r a)
  have g : ∀ r, r ≠ 0 → r ≠ 79 → r ≠ 80 → M' r = U 19 r := fun r a b c => (e2 r c).trans (g1 r a b)
  have g0 : M' 0 = (up2 (up2 (U 19) 0 2 0) 0 77 1) 0 := (e2 0 (by decide)).trans (c2 0 (by decide))
  rw [nI_0] at c1 e1
  rw [g1 59 (by decide) (by decide)] at e1 e6
  rw [g1 50 (by decide) (by decide), g1 52 (by decide) (by decide)] at e4
  rw [g1 54 (by decide) (by decide), g1 55 (by decide) (by decide)] at e5
  rw [z 51 (by decide)] at c4
  rw [z 53 (by decide), z 56 (by decide), z 57 (by decide)] at c5
  rw [z 58 (by decide)] at c6
  have h59 : U 19 59 0 = U 1 0 1 := by
    have := hw.2.2.2
    rw [pj_in (by decide)] at this
    exact this.symm
  unfold f_X11_keep f_X12_keep
  rw [w1, tx_b1_q, tx_let_q, tx_let_q, tx_let_q, c1, tx_b1_q, e1, h59]
  refine ⟨_, _, _, _, _, rfl, rfl, ?_⟩
  have hr : ∀ r, r ≠ 0 → r ≠ 79 → r ≠ 80 → pj M' r = pj (U 19) r := fun r a b c => pj_w (g r a b c)
  have h0 : ∀ i, i ≠ 77 → pj M' 0 i = pj (U 19) 0 i := fun i hi => by
    have : M' 0 i = (up2 (U 19) 0 2 0) 0 i := by rw [g0, up2_i _ _ _ hi]
    rw [pj_c this, pj_thrown]
  show RX (k 0) (k 0) (up2 (U 0) 0 10 1) (U 1) (U 2) (U 4) (U 5) Wc (U 12) (U 17) (U 18) (pj M') (up4 (V 19) 0 80 (V 19 0 59) 0 59) (up4 (V 19) 0 80 (V 19 0 59) 0 80) (U 7)
  rw [up4_e, up4_i _ _ _ (by decide)]
  refine ⟨np, nt, nr, ⟨hb.c (fun r h1 h2 => hr r (by omega) (by omega) (by omega)) (h0 _ (by decide)) (h0 _ (by decide)) (h0 _ (by decide)), hbi, hlw.c (fun r h1 h2 => hr r (by omega) (by omega) (by omega)) (h0 _ (by decide))⟩, ⟨hw.c (fun r h1 h2 => hr r (by omega) (by omega) (by omega)), hwi, hwb, fun t h => by rw [hr 50 (by decide) (by decide) (by decide)]; exact hst t h, hnb, hbit⟩, ⟨ht.c (h0 _ (by decide)) (hr _ (by decide) (by decide) (by decide)), ?_, ?_⟩, hfd.c (h0 _ (by decide)) (h0 _ (by decide)) (hr _ (by decide) (by decide) (by decide)), ?_, hud.c (h0 _ (by decide)) (hr _ (by decide) (by decide) (by decide))⟩
  · rw [h0 4 (by decide), h0 5 (by decide)]
    exact hz
  · intro j hj
    rw [hr 4 (by decide) (by decide) (by decide)]
    exact hwo j hj
  · have m79 : ∀ i, pj M' 79 i = M1 79 i := fun i => by rw [pj_in (rl79 i), e2 79 (by decide)]
    have m80 : ∀ i, pj M' 80 i = M' 80 i := fun i => pj_in (rl80 i)
    refine ⟨?_, Or.inr ⟨up2_e _ _ _ _, rfl, ⟨fun t ht => ?_, fun p hp => ?_, ?_⟩, fun t ht => ?_, fun p hp => ?_, ?_, ?_, ?_, ?_, ?_⟩⟩
    · rw [up2_e, pj_in (by decide), g0, up2_e]
    · rw [m79, (w3 t (by omega)).2.1, (wd_t hw hnt ht).1, c4 t (by omega)]
    · obtain ⟨x1, x2, x3⟩ := c5 p (by omega)
      obtain ⟨a5, -, -, a9, a10⟩ := wd_p hw hnp hp
      obtain ⟨b5, -, -, -, b9, b10⟩ := w2 p (by omega)
      rw [m79, m79, m79, x1, x2, x3, b5, b9, b10]
      exact ⟨a5, a9, a10⟩
    · rw [m79, c6, w6, hw.2.2.1, pj_in (by decide)]
    · obtain ⟨x1, x2⟩ := e4 t (by omega) (by omega)
      obtain ⟨b11, -, b13⟩ := w3 t (by omega)
      rw [m80, m80, x1, x2, b11, b13, hst t ht, pj_in (rl12 (by simp) (by omega)), ← (wd_t hw hnt ht).2]
      refine ⟨rfl, ?_⟩
      rcases hwi.2.2.1 t ht with e | e
      · rw [e, if_pos rfl]
      · rw [e, if_neg one_ne]
    · obtain ⟨x1, x2⟩ := e5 p (by omega)
      obtain ⟨-, a7, a8, -, -⟩ := wd_p hw hnp hp
      obtain ⟨-, -, b7, b8, -, -⟩ := w2 p (by omega)
      rw [m80, m80, x1, x2, b7, b8]
      exact ⟨a7, a8⟩
    · rw [m80, e6, w5, h59]
    · unfold nbOK
      rw [w7]
      exact hnb
    · refine hwi.e (fun p hp => ?_) (fun t ht => w3 t (by omega)) w5 w6
      obtain ⟨b5, -, b7, b8, b9, b10⟩ := w2 p (by omega)
      exact ⟨b5, b7, b8, b9, b10⟩
    · intro p hp
      rw [(w2 p (by omega)).2.1]
      exact hwb.1 p hp
    · intro r hr
      rw [(w4 r (by omega)).1, (w4 r (by omega)).2]
      exact hwb.2 r hr
theorem bk75 (fu : Nat) (v : S64) : ∀ m p n M, p + m = 6 → m < n → ∃ M', f_X12_back_L75 fu n M v (nI p) = some (M 80 36, M', up4 v 0 59 (v 0 80)) ∧ (∀ r, r ≠ 0 → r ≠ 54 → r ≠ 55 → r ≠ 59 → M' r = M r) ∧ (∀ i, i ≠ 75 → M' 0 i = M 0 i) ∧ M' 0 75 = 0 ∧ M' 59 0 = M 80 36 ∧ (∀ x, x < p → M' 54 x = M 54 x ∧ M' 55 x = M 55 x) ∧ (∀ x, p ≤ x → x < 6 → M' 54 x = M 80 (24 + x) ∧ M' 55 x = M 80 (30 + x)) := by
  intro m
  induction m with
  | zero =>
    intro p n M hp hn
    obtain ⟨n, rfl⟩ := pos_ex hn
    have : p = 6 := by omega
    subst this
    refine ⟨up2 (up2 M 59 0 (M 80 36)) 0 75 0, ?_, fun r a b c d => by rw [up2_n _ _ _ a, up2_n _ _ _ d], fun i h => by rw [up2_i _ _ _ h, up2_n _ _ _ (by decide)], up2_e _ _ _ _, by rw [up2_n _ _ _ (by decide), up2_e], fun x _ => ⟨by rw [up2_n _ _ _ (by decide), up2_n _ _ _ (by decide)], by rw [up2_n _ _ _ (by decide), up2_n _ _ _ (by decide)]⟩, fun x h1 h2 => absurd h2 (by omega)⟩
    show f_X12_back_J75 _ _ _ _ _ = _
    unfold f_X12_back_J75
    rw [if_pos (show (6 : Int32) ≤ nI 6 by decide), tx_let_q, tx_let_q, tx_let_q]
    rfl
  | succ m ih =>
    intro p n M hp hn
    obtain ⟨n, rfl⟩ := pos_ex hn
    obtain ⟨M', e1, e2, e3, e4, e5, e6, e7⟩ := ih (p + 1) n (up2 (up2 M 54 p (M 80 (24 + p))) 55 p (M 80 (30 + p))) (by omega) (by omega)
    have f : ∀ r, r ≠ 54 → r ≠ 55 → (up2 (up2 M 54 p (M 80 (24 + p))) 55 p (M 80 (30 + p))) r = M r := fun r a b => by rw [up2_n _ _ _ b, up2_n _ _ _ a]
    rw [f 80 (by decide) (by decide)] at e1 e5 e7
    rw [f 0 (by decide) (by decide)] at e3
    refine ⟨M', ?_, fun r a b c d => (e2 r a b c d).trans (f r b c), e3, e4, e5, ?_, ?_⟩
    · show f_X12_back_J75 _ _ _ _ _ = _
      unfold f_X12_back_J75
      have a1 : (24 : Int32) + nI p = nI (24 + p) := nI_add 24 p
      have a2 : (30 : Int32) + nI p = nI (30 + p) := nI_add 30 p
      have ck := fun k : Option (Int32 × S32 × S64) => tx_ck_q (j := p) (n := 12) (by omega) (by omega) k
      have c1 := fun k : Option (Int32 × S32 × S64) => tx_ck_q (j := 24 + p) (n := 37) (by omega) (by omega) k
      have c2 := fun k : Option (Int32 × S32 × S64) => tx_ck_q (j := 30 + p) (n := 37) (by omega) (by omega) k
      rw [if_neg (ge6 (t := p) (by omega)), a1, a2, c1, ck, tx_let_q, c2, ck, tx_let_q, tx_let_q, nI_clamp (n := p) (by omega), nI_clamp (n := 24 + p) (by omega), nI_clamp (n := 30 + p) (by omega), nI_1]
      exact e1
    · intro x hx
      obtain ⟨g1, g2⟩ := e6 x (by omega)
      rw [g1, g2]
      refine ⟨?_, ?_⟩
      · rw [up2_n _ _ _ (by decide), up2_i _ _ _ (by omega)]
      · rw [up2_i _ _ _ (by omega), up2_n _ _ _ (by decide)]
    · intro x h1 h2
      by_cases e : x = p
      · subst e
        obtain ⟨g1, g2⟩ := e6 x (by omega)
        rw [g1, g2]
        refine ⟨?_, ?_⟩
        · rw [up2_n _ _ _ (by decide), up2_e]
        · rw [up2_e]
      · exact e7 x (by omega) h2
theorem bk25 (fu : Nat) (hf : 1000 ≤ fu) (v : S64) : ∀ m t n M, t + m = 12 → m < n → ∃ M', f_X12_back_L25 fu n M v (nI t) = some (M 80 36, M', up4 v 0 59 (v 0 80)) ∧ (∀ r, r ≠ 0 → r ≠ 50 → r ≠ 52 → r ≠ 54 → r ≠ 55 → r ≠ 59 → M' r = M r) ∧ (∀ i, i ≠ 75 → M' 0 i = M 0 i) ∧ M' 0 75 = 0 ∧ M' 59 0 = M 80 36 ∧ (∀ x, x < t → M' 50 x = M 50 x ∧ M' 52 x = M 52 x) ∧ (∀ x, t ≤ x → x < 12 → M' 50 x = M 80 x ∧ M' 52 x = if M 80 (12 + x) = 1 then 1 else 0) ∧ (∀ x, x < 6 → M' 54 x = M 80 (24 + x) ∧ M' 55 x = M 80 (30 + x)) := by
  intro m
  induction m with
  | zero =>
    intro t n M ht hn
    obtain ⟨n, rfl⟩ := pos_ex hn
    have : t = 12 := by omega
    subst this
    obtain ⟨M', e1, e2, e3, e4, e5, e6, e7⟩ := bk75 fu v 6 0 fu M (by omega) (by omega)
    refine ⟨M', ?_, fun r a b c d e f => e2 r a d e f, e3, e4, e5, fun x _ => ⟨by rw [e2 50 (by decide) (by decide) (by decide) (by decide)], by rw [e2 52 (by decide) (by decide) (by decide) (by decide)]⟩, fun x h1 h2 => absurd h2 (by omega), fun x hx => e7 x (by omega) hx⟩
    show f_X12_back_J25 _ _ _ _ _ = _
    unfold f_X12_back_J25
    rw [if_pos (show (12 : Int32) ≤ nI 12 by decide)]
    exact e1
  | succ m ih =>
    intro t n M ht hn
    obtain ⟨n, rfl⟩ := pos_ex hn
    obtain ⟨M', e1, e2, e3, e4, e5, e6, e7, e8⟩ := ih (t + 1) n (up2 (up2 M 50 t (M 80 t)) 52 t (if M 80 (12 + t) = 1 then 1 else 0)) (by omega) (by omega)
    have f : ∀ r, r ≠ 50 → r ≠ 52 → (up2 (up2 M 50 t (M 80 t)) 52 t (if M 80 (12 + t) = 1 then 1 else 0)) r = M r := fun r a b => by rw [up2_n _ _ _ b, up2_n _ _ _ a]
    rw [f 80 (by decide) (by decide)] at e1 e5 e7 e8
    rw [f 0 (by decide) (by decide)] at e3
    refine ⟨M', ?_, fun r a b c d e f' => (e2 r a b c d e f').trans (f r b c), e3, e4, e5, ?_, ?_, e8⟩
    · show f_X12_back_J25 _ _ _ _ _ = _
      unfold f_X12_back_J25 f_X12_back_J66
      have a1 : (12 : Int32) + nI t = nI (12 + t) := nI_add 12 t
      have ck := fun k : Option (Int32 × S32 × S64) => tx_ck_q (j := t) (n := 24) (by omega) (by omega) k
      have c1 := fun k : Option (Int32 × S32 × S64) => tx_ck_q (j := t) (n := 37) (by omega) (by omega) k
      have c2 := fun k : Option (Int32 × S32 × S64) => tx_ck_q (j := 12 + t) (n := 37) (by omega) (by omega) k
      rw [if_neg (ge12 (t := t) (by omega)), c1, ck, tx_let_q, a1, c2, nI_clamp (n := t) (by omega), nI_clamp (n := 12 + t) (by omega), up2_n _ _ _ (show (80 : Nat) ≠ 50 by decide), ck, ck, tx_let_q, tx_let_q, tx_let_q, tx_let_q, nI_1]
      by_cases c : M 80 (12 + t) = 1
      · rw [if_pos c] at e1 ⊢
        exact e1
      · rw [if_neg c] at e1 ⊢
        exact e1
    · intro x hx
      obtain ⟨g1, g2⟩ := e6 x (by omega)
      rw [g1, g2]
      refine ⟨?_, ?_⟩
      · rw [up2_n _ _ _ (by decide), up2_i _ _ _ (by omega)]
      · rw [up2_i _ _ _ (by omega), up2_n _ _ _ (by decide)]
    · intro x h1 h2
      by_cases e : x = t
      · subst e
        obtain ⟨g1, g2⟩ := e6 x (by omega)
        rw [g1, g2]
        refine ⟨?_, ?_⟩
        · rw [up2_n _ _ _ (by decide), up2_e]
        · rw [up2_e]
      · exact e7 x (by omega) h2
theorem sp41 (fu : Nat) (hf : 1000 ≤ fu) : SP41 RR fu := by
  intro k q U V hR
  obtain ⟨np, nt, nr, h1, h2, h3, h4, him, hud⟩ := id hR
  have hnp := h1.1.1.1
  have hnt := h1.1.1.2.1
  have hnr := h1.1.1.2.2
  obtain ⟨t77, him⟩ := id him
  have t77' : (up2 (U 19) 0 2 0) 0 77 = U 0 0 10 := by
    rw [up_t _ (by decide), t77]
    exact (pj_in (by decide)).symm
  unfold f_X11_back f_X12_back
  rw [tx_let_q, t77']
  rcases him with e | ⟨e, hq, ⟨s1, s2, s3⟩, s4, s5, s6, s7, s8, s9⟩
  · rw [if_pos e, if_pos e]
    exact ⟨_, _, _, _, _, _, rfl, rfl, rfl, RR_0 hR⟩
  have e' : ¬ U 0 0 10 = 0 := by rw [e]; decide
  obtain ⟨Wc, w1, w2, w3, w4, w5, w6, w7, w8⟩ := cp_spec fu (U 9) (U 1)
  obtain ⟨M1, c1, c2, c3, c4, c5⟩ := take_79 fu hf (V 19) (o := 0) (by omega) (up2 (U 19) 0 2 0)
  obtain ⟨M', e1, e2, e3, e4, e5, e6, e7, e8⟩ := bk25 fu hf (V 19) 12 0 fu M1 (by omega) (by omega)
  have z : ∀ r, r ≠ 0 → (up2 (U 19) 0 2 0) r = U 19 r := fun r h => up2_n _ _ _ h
  rw [nI_0] at c1 e1
  have m80 : M1 80 = U 19 80 := (c2 80 (by decide) (by decide) (by decide) (by decide) (by decide)).trans (z 80 (by decide))
  rw [m80] at e1 e5 e7 e8
  rw [z 79 (by decide)] at c3 c4 c5
  have g : ∀ r, r ≠ 0 → r < 50 ∨ 59 < r → M' r = U 19 r := fun r a b => (e2 r a (by omega) (by omega) (by omega) (by omega) (by omega)).trans ((c2 r (by omega) (by omega) (by omega) (by omega) (by omega)).trans (z r a))
  have s6' : U 9 0 1 = U 19 80 36 := by
    rw [pj_in (rl80 _)] at s6
    exact s6
  unfold f_X1_clear
  rw [if_neg e', if_neg e', w1, tx_b1_q, tx_let_q, tx_b1_q, c1, tx_b1_q, e1, w5, s6']
  refine ⟨_, _, _, _, _, _, rfl, rfl, hq, ?_⟩
  refine RR_D (k := k) (q := q) (U := U) (V := V) h1 h3 h4 ⟨t77, Or.inr ⟨e, hq, ⟨s1, s2, s3⟩, s4, s5, s6, s7, s8, s9⟩⟩ (fun r a b c => pj_w (g r a b)) (fun i hi => ?_) ?_ ?_ ?_
  · have : M' 0 i = (up2 (U 19) 0 2 0) 0 i := by rw [e3 i hi, c2 0 (by decide) (by decide) (by decide) (by decide) (by decide)]
    rw [pj_c this, pj_thrown]
  · show up4 (V 19) 0 59 (V 19 0 80) 0 80 = V 19 0 80
    exact up4_i _ _ _ (by decide)
  · show NOWs Wc (U 2) (pj M') (U 7) np nt nr (up4 (V 19) 0 59 (V 19 0 80) 0 59)
    rw [up4_e]
    refine ⟨⟨fun p hp => ?_, fun t ht => ?_, ?_⟩, ?_, ⟨?_, ?_⟩, fun t ht => ?_, ?_, ?_⟩
    · obtain ⟨x1, x2, x3⟩ := c4 p (by omega)
      obtain ⟨x4, x5⟩ := e8 p (by omega)
      obtain ⟨b5, -, b7, b8, b9, b10⟩ := w2 p (by omega)
      obtain ⟨a5, a9, a10⟩ := s2 p hp
      obtain ⟨a7, a8⟩ := s5 p hp
      rw [pj_in (rl79 _)] at a5 a9 a10
      rw [pj_in (rl80 _)] at a7 a8
      rw [z60, b5, b7, b8, b9, b10, pj_in (rl6 (by simp) (by omega)), pj_in (rl6 (by simp) (by omega)), pj_in (rl6 (by simp) (by omega)), pj_in (rl6 (by simp) (by omega)), pj_in (rl6 (by simp) (by omega)), e2 53 (by decide) (by decide) (by decide) (by decide) (by decide) (by decide), e2 56 (by decide) (by decide) (by decide) (by decide) (by decide) (by decide), e2 57 (by decide) (by decide) (by decide) (by decide) (by decide) (by decide), x1, x2, x3, x4, x5]
      exact ⟨a5, a7, a8, a9, a10⟩
    · obtain ⟨x1, x2⟩ := e7 t (by omega) (by omega)
      obtain ⟨b11, b12, b13⟩ := w3 t (by omega)
      have a12 := s1 t ht
      obtain ⟨-, a13⟩ := s4 t ht
      rw [pj_in (rl79 _)] at a12
      rw [pj_in (rl80 _)] at a13
      rw [z120, b12, b13, pj_in (rl12 (by simp) (by omega)), pj_in (rl12 (by simp) (by omega)), e2 51 (by decide) (by decide) (by decide) (by decide) (by decide) (by decide), c5 t (by omega), x2, ← a13]
      refine ⟨a12, ?_⟩
      rcases s8.2.2.1 t ht with h | h
      · rw [h, if_neg (by decide)]
      · rw [h, if_pos rfl]
    · rw [pj_in (rl79 _)] at s3
      rw [w5, w6, pj_in (by decide), pj_in (by decide), e2 58 (by decide) (by decide) (by decide) (by decide) (by decide) (by decide), c3, e5]
      exact ⟨s3, s6'⟩
    · refine s8.e (fun p hp => ?_) (fun t ht => w3 t (by omega)) w5 w6
      obtain ⟨b5, -, b7, b8, b9, b10⟩ := w2 p (by omega)
      exact ⟨b5, b7, b8, b9, b10⟩
    · intro p hp
      rw [(w2 p (by omega)).2.1]
      exact s9.1 p hp
    · intro r hr
      rw [(w4 r (by omega)).1, (w4 r (by omega)).2]
      exact s9.2 r hr
    · obtain ⟨x1, -⟩ := e7 t (by omega) (by omega)
      obtain ⟨a11, -⟩ := s4 t ht
      rw [pj_in (rl80 _)] at a11
      rw [(w3 t (by omega)).1, pj_in (rl12 (by simp) (by omega)), x1, a11]
    · unfold nbOK
      rw [w7]
      exact s7
    · have hb := h2.2.2.2.2.2
      unfold bitOK at hb ⊢
      rw [w8]
      exact hb
  · refine ⟨0, by omega, up2_e _ _ _ _, ?_, trivial⟩
    rw [pj_in (by decide), e4]
    rfl
