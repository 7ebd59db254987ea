/-! named, share, chain, first, farthing, debtor -/
theorem pl3 {B M : S32} {v : S64} {np : Nat} (fu : Nat) (hn : np ≤ 6) (h : ∀ p, p < np → B 3 p = M 23 p) (x : Int32) : ∀ m t n n', t + m = np → m < n → m < n' → ∃ r, f_X0_placeOf_oX0r3_L2 fu B n (nI np) x (nI t) = some r ∧ f_X12_seek_oX12r23_L3 fu M v n' 0 (nI np) x (nI t) = some r := by
  intro m
  induction m with
  | zero =>
    intro t n n' ht h1 h2
    obtain ⟨n, rfl⟩ := pos_ex h1
    obtain ⟨n', rfl⟩ := pos_ex h2
    refine ⟨-1, ?_, ?_⟩
    · show f_X0_placeOf_oX0r3_J2 _ _ _ _ _ _ = _
      unfold f_X0_placeOf_oX0r3_J2
      rw [if_pos (nI_le (by omega) (by omega))]
    · show f_X12_seek_oX12r23_J3 _ _ _ _ _ _ _ _ = _
      unfold f_X12_seek_oX12r23_J3
      rw [if_pos (nI_le (by omega) (by omega))]
  | succ m ih =>
    intro t n n' ht h1 h2
    obtain ⟨n, rfl⟩ := pos_ex h1
    obtain ⟨n', rfl⟩ := pos_ex h2
    obtain ⟨r, e1, e2⟩ := ih (t + 1) n n' (by omega) (by omega) (by omega)
    show ∃ r, f_X0_placeOf_oX0r3_J2 fu B (f_X0_placeOf_oX0r3_L2 fu B n) (nI np) x (nI t) = some r ∧ f_X12_seek_oX12r23_J3 fu M v (f_X12_seek_oX12r23_L3 fu M v n') 0 (nI np) x (nI t) = some r
    unfold f_X0_placeOf_oX0r3_J2 f_X12_seek_oX12r23_J3
    rw [if_neg (ge_lit (t := t) (by omega) (by omega)), if_neg (ge6 (t := t) (by omega)), if_neg (ge_lit (t := t) (by omega) (by omega)), Int32.zero_add, tx_ck_q (by omega) (by omega), tx_ck_q (by omega) (by omega), nI_clamp (by omega), h t (by omega)]
    by_cases c : M 23 t = x
    · rw [if_pos c, if_pos c]; exact ⟨_, rfl, rfl⟩
    · rw [if_neg c, if_neg c, tx_let_q, tx_let_q, nI_1]; exact ⟨r, e1, e2⟩
theorem pl12 {B M : S32} {v : S64} {np : Nat} (fu : Nat) (hn : np ≤ 4) (h : ∀ p, p < np → B 12 p = M 30 p) (x : Int32) : ∀ m t n n', t + m = np → m < n → m < n' → ∃ r, f_X0_placeOf_oX0r12_L2 fu B n (nI np) x (nI t) = some r ∧ f_X12_seek_oX12r30_L3 fu M v n' 0 (nI np) x (nI t) = some r := by
  intro m
  induction m with
  | zero =>
    intro t n n' ht h1 h2
    obtain ⟨n, rfl⟩ := pos_ex h1
    obtain ⟨n', rfl⟩ := pos_ex h2
    refine ⟨-1, ?_, ?_⟩
    · show f_X0_placeOf_oX0r12_J2 _ _ _ _ _ _ = _
      unfold f_X0_placeOf_oX0r12_J2
      rw [if_pos (nI_le (by omega) (by omega))]
    · show f_X12_seek_oX12r30_J3 _ _ _ _ _ _ _ _ = _
      unfold f_X12_seek_oX12r30_J3
      rw [if_pos (nI_le (by omega) (by omega))]
  | succ m ih =>
    intro t n n' ht h1 h2
    obtain ⟨n, rfl⟩ := pos_ex h1
    obtain ⟨n', rfl⟩ := pos_ex h2
    obtain ⟨r, e1, e2⟩ := ih (t + 1) n n' (by omega) (by omega) (by omega)
    show ∃ r, f_X0_placeOf_oX0r12_J2 fu B (f_X0_placeOf_oX0r12_L2 fu B n) (nI np) x (nI t) = some r ∧ f_X12_seek_oX12r30_J3 fu M v (f_X12_seek_oX12r30_L3 fu M v n') 0 (nI np) x (nI t) = some r
    unfold f_X0_placeOf_oX0r12_J2 f_X12_seek_oX12r30_J3
    rw [if_neg (ge_lit (t := t) (by omega) (by omega)), if_neg (ge4 (t := t) (by omega)), if_neg (ge_lit (t := t) (by omega) (by omega)), Int32.zero_add, tx_ck_q (by omega) (by omega), tx_ck_q (by omega) (by omega), nI_clamp (by omega), h t (by omega)]
    by_cases c : M 30 t = x
    · rw [if_pos c, if_pos c]; exact ⟨_, rfl, rfl⟩
    · rw [if_neg c, if_neg c, tx_let_q, tx_let_q, nI_1]; exact ⟨r, e1, e2⟩
theorem sp3 (fu : Nat) (hf : 1000 ≤ fu) : SP3 RR fu := by
  intro k q U V y1 y2 hR
  obtain ⟨np, nt, nr, ⟨hnp, hnt, hnr⟩, ⟨b1, m1⟩, ⟨b5, m5⟩, ⟨b10, m10⟩, hbp, hbt, hbr, hb0, hwp, hwt, hwr, hw0, hbi, hwi⟩ := RR_PL hR
  unfold f_X11_named f_X12_named f_X0_manNamed f_X0_readerNamed f_X0_placeOf_oX0r3 f_X0_placeOf_oX0r12 f_X12_seek_oX12r23 f_X12_seek_oX12r30
  rw [tx_let_q, b1, m1, b10, m10]
  by_cases a1 : y1 = 0
  · rw [if_pos a1, if_pos a1]
    obtain ⟨r, e1, e2⟩ := pl3 (B := U 2) (M := up2 (U 19) 0 2 0) (v := V 19) fu hnp (fun p hp => (hbp p hp).1) y2 np 0 fu fu (by omega) (by omega) (by omega)
    rw [nI_0] at e1 e2
    rw [e1, e2]
    exact ⟨_, _, rfl, rfl, RR_t hR⟩
  rw [if_neg a1, if_neg a1]
  by_cases a2 : y1 = 1
  · rw [if_pos a2, if_pos a2]
    obtain ⟨r, e1, e2⟩ := pl12 (B := U 2) (M := up2 (U 19) 0 2 0) (v := V 19) fu hnr (fun p hp => (hbr p hp).1) y2 nr 0 fu fu (by omega) (by omega) (by omega)
    rw [nI_0] at e1 e2
    rw [e1, e2]
    exact ⟨_, _, rfl, rfl, RR_t hR⟩
  · rw [if_neg a2, if_neg a2]
    exact ⟨_, _, rfl, rfl, RR_t hR⟩
theorem sp19 (fu : Nat) (hf : 1000 ≤ fu) : SP19 RR fu := by
  intro k q U V y1 y2 y3 hR
  obtain ⟨np, nt, nr, ⟨hnp, hnt, hnr⟩, ⟨b1, m1⟩, ⟨b5, m5⟩, ⟨b10, m10⟩, hbp, hbt, hbr, hb0, hwp, hwt, hwr, hw0, hbi, hwi⟩ := RR_PL hR
  unfold f_X11_share f_X12_share
  rw [tx_let_q]
  rcases t_thought fu (U 2) (up2 (U 19) 0 2 0) (V 19) b5 m5 hnt y1 with ⟨a, ha, rfl, e1, e2⟩ | ⟨e1, e2⟩
  rotate_left
  · rw [e1, e2]
    exact ⟨_, _, rfl, rfl, RR_t hR⟩
  rw [e1, e2, tx_b1_q, tx_b1_q, if_neg one_ne, if_neg one_ne]
  rcases t_thought fu (U 2) (up2 (U 19) 0 2 0) (V 19) b5 m5 hnt y2 with ⟨b, hb, rfl, e3, e4⟩ | ⟨e3, e4⟩
  rotate_left
  · rw [e3, e4]
    exact ⟨_, _, rfl, rfl, RR_t hR⟩
  rw [e3, e4, tx_b1_q, tx_b1_q, if_neg one_ne, if_neg one_ne]
  have ck := fun k : Option (Int32 × S32) => tx_ck_q (j := a) (n := 24) (by omega) (by omega) k
  have ck' := fun k : Option (Int32 × S32) => tx_ck_q (j := b) (n := 24) (by omega) (by omega) k
  have dk := fun k : Option Int32 => tx_ck_q (j := a) (n := 12) (by omega) (by omega) k
  have dk' := fun k : Option Int32 => tx_ck_q (j := b) (n := 12) (by omega) (by omega) k
  rw [ck, ck', dk, dk', nI_clamp (n := a) (by omega), nI_clamp (n := b) (by omega)]
  obtain ⟨d1, d2, -, -⟩ := hbt a ha
  obtain ⟨d3, d4, -, -⟩ := hbt b hb
  rw [← d1, ← d3]
  by_cases h0 : y3 < 0
  · rw [if_pos h0]
    by_cases h1 : U 2 7 a = U 2 7 b
    · rw [if_pos h1]; exact ⟨_, _, rfl, rfl, RR_t hR⟩
    · rw [if_neg h1, isIn_f fu (Or.inl h0)]; exact ⟨_, _, rfl, rfl, RR_t hR⟩
  rw [if_neg h0]
  by_cases h2 : y3 ≤ 1
  rotate_left
  · rw [if_neg h2]
    by_cases h1 : U 2 7 a = U 2 7 b
    · rw [if_pos h1]; exact ⟨_, _, rfl, rfl, RR_t hR⟩
    · rw [if_neg h1, isIn_f fu (Or.inr (Int32.not_le.mp h2))]; exact ⟨_, _, rfl, rfl, RR_t hR⟩
  rw [if_pos h2]
  by_cases h1 : U 2 7 a = U 2 7 b
  · rw [if_pos h1, if_pos h1]; exact ⟨_, _, rfl, rfl, RR_t hR⟩
  rw [if_neg h1, if_neg h1, isIn_t fu h0 (Int32.not_lt.mpr h2), tx_b1_q, if_neg one_ne, ck, tx_let_q, ck', tx_let_q]
  unfold f_X0_shareOf f_X12_share_J77
  rw [e1, tx_b1_q, if_neg one_ne, e3, tx_b1_q, if_neg one_ne, dk, dk', tx_let_q, dk, dk', tx_let_q, nI_clamp (n := a) (by omega), nI_clamp (n := b) (by omega), ← d2, ← d4]
  obtain ⟨x, x1, x2, ex⟩ := (hbi.2.1 a ha).2.1
  obtain ⟨y, z1, z2, ey⟩ := (hbi.2.1 b hb).2.1
  rw [ex, ey]
  have hw : (up2 (U 19) 0 2 0) 58 ((0 : Int32).toNatClampNeg) = U 1 0 2 := hw0.1.symm
  rw [hw, nI_add, if_neg (nI_nle (n := x + y) (by omega) (by omega)), dk, tx_nz_q (nI_ne0 (n := x + y) (by omega) (by omega))]
  unfold f_X0_shareOf_J76
  have nz := fun k : Option (Int32 × S32) => tx_nz_q (y := nI (x + y)) (nI_ne0 (n := x + y) (by omega) (by omega)) k
  rcases Nat.lt_trichotomy x y with h | h | h
  · rw [if_pos (nI_lt h (by omega)), if_pos (nI_le (by omega) (by omega)), tx_let_q, nz, tx_let_q]
    by_cases c : y3 = 0
    · rw [if_pos c, if_pos c]; exact ⟨_, _, rfl, rfl, RR_t hR⟩
    · rw [if_neg c, if_neg c]; exact ⟨_, _, rfl, rfl, RR_t hR⟩
  · subst h
    rw [if_neg (nI_nlt (Nat.le_refl _) (by omega)), if_pos (nI_le (by omega) (by omega)), tx_let_q, nz, tx_let_q]
    by_cases c : y3 = 0
    · rw [if_pos c, if_pos c]; exact ⟨_, _, rfl, rfl, RR_t hR⟩
    · rw [if_neg c, if_neg c]; exact ⟨_, _, rfl, rfl, RR_t hR⟩
  · rw [if_neg (nI_nlt (by omega) (by omega)), if_neg (nI_ge h (by omega)), tx_let_q, nz, tx_let_q]
    by_cases c : y3 = 0
    · rw [if_pos c, if_pos c]; exact ⟨_, _, rfl, rfl, RR_t hR⟩
    · rw [if_neg c, if_neg c]; exact ⟨_, _, rfl, rfl, RR_t hR⟩
theorem ch_in {B W M : S32} {v : S64} {nr : Nat} (fu : Nat) (hn : nr ≤ 4) (b10 : B 0 10 = nI nr) (m10 : M 0 14 = nI nr) (h : ∀ r, r < nr → W 14 r = M 31 r) (x s : Int32) (K : Int32 → Int32 → Int32 → Option Int32) (K' : S32 → Int32 → Int32 → Int32 → Option (Int32 × S32)) :
    ∀ m r n n' a, r + m = nr → m < n → m < n' → ∃ a', f_X10_chainOf_L14 fu W B K n x a s (nI r) = K x a' (s + 1) ∧ f_X12_chain_L35 fu v K' n' M x a s (nI r) = K' M x a' (s + 1) := by
  intro m
  induction m with
  | zero =>
    intro r n n' a hr h1 h2
    obtain ⟨n, rfl⟩ := pos_ex h1
    obtain ⟨n', rfl⟩ := pos_ex h2
    refine ⟨a, ?_, ?_⟩
    · show f_X10_chainOf_J14 _ _ _ _ _ _ _ _ _ = _
      unfold f_X10_chainOf_J14 f_X10_chainOf_J66
      rw [b10, if_pos (nI_le (by omega) (by omega)), tx_let_q]
    · show f_X12_chain_J35 _ _ _ _ _ _ _ _ _ = _
      unfold f_X12_chain_J35
      rw [m10, if_pos (nI_le (by omega) (by omega)), tx_let_q]
  | succ m ih =>
    intro r n n' a hr h1 h2
    obtain ⟨n, rfl⟩ := pos_ex h1
    obtain ⟨n', rfl⟩ := pos_ex h2
    have ih' := fun a => ih (r + 1) n n' a (by omega) (by omega) (by omega)
    show ∃ a', f_X10_chainOf_J14 fu W B K (f_X10_chainOf_L14 fu W B K n) x a s (nI r) = K x a' (s + 1) ∧ f_X12_chain_J35 fu v K' (f_X12_chain_L35 fu v K' n') M x a s (nI r) = K' M x a' (s + 1)
    unfold f_X10_chainOf_J14 f_X12_chain_J35 f_X12_isOf f_X10_chainOf_J60 f_X12_chain_J73 f_X12_chain_J74
    rw [b10, m10, if_neg (ge_lit (t := r) (by omega) (by omega)), if_neg (ge4 (t := r) (by omega)), if_neg (ge_lit (t := r) (by omega) (by omega))]
    by_cases c : (x >>> (nI r &&& 31)) &&& (1 : Int32) = 1
    · rw [if_pos c, if_pos c, tx_b1_q, if_neg one_ne, tx_ck_q (by omega) (by omega), tx_ck_q (by omega) (by omega), nI_clamp (by omega), h r (by omega)]
      by_cases d : M 31 r = s
      · rw [if_pos d, if_pos d, tx_let_q, tx_let_q, tx_let_q, nI_1]
        exact ih' _
      · rw [if_neg d, if_neg d, tx_let_q, tx_let_q, nI_1]
        exact ih' _
    · rw [if_neg c, if_neg c, tx_b1_q, if_pos rfl, tx_let_q, tx_let_q, nI_1]
      exact ih' _
theorem ch_out {B W M : S32} {v : S64} {nr : Nat} (fu : Nat) (hf : 1000 ≤ fu) (hn : nr ≤ 4) (b10 : B 0 10 = nI nr) (m10 : M 0 14 = nI nr) (h : ∀ r, r < nr → W 14 r = M 31 r) (x : Int32) :
    ∀ m s n n' a, s + m = 10 → m < n → m < n' → ∃ a', f_X10_chainOf_L5 fu W B n x a (nI s) = some a' ∧ f_X12_chain_L26 fu v n' M x a (nI s) = some (a', M) := by
  intro m
  induction m with
  | zero =>
    intro s n n' a hr h1 h2
    obtain ⟨n, rfl⟩ := pos_ex h1
    obtain ⟨n', rfl⟩ := pos_ex h2
    refine ⟨a, ?_, ?_⟩
    · show f_X10_chainOf_J5 _ _ _ _ _ _ _ = _
      unfold f_X10_chainOf_J5
      rw [if_pos (show (9 : Int32) < nI s from nI_lt (a := 9) (by omega) (by omega))]
    · show f_X12_chain_J26 _ _ _ _ _ _ _ = _
      unfold f_X12_chain_J26
      rw [if_pos (show (10 : Int32) ≤ nI s from nI_le (a := 10) (by omega) (by omega))]
  | succ m ih =>
    intro s n n' a hr h1 h2
    obtain ⟨n, rfl⟩ := pos_ex h1
    obtain ⟨n', rfl⟩ := pos_ex h2
    show ∃ a', f_X10_chainOf_J5 fu W B (f_X10_chainOf_L5 fu W B n) x a (nI s) = some a' ∧ f_X12_chain_J26 fu v (f_X12_chain_L26 fu v n') M x a (nI s) = some (a', M)
    unfold f_X10_chainOf_J5 f_X12_chain_J26
    rw [if_neg (show ¬ (9 : Int32) < nI s from nI_nlt (a := 9) (by omega) (by omega)), if_neg (show ¬ (10 : Int32) ≤ nI s from nI_ge (b := 10) (by omega) (by omega))]
    obtain ⟨a1, e1, e2⟩ := ch_in (v := v) fu hn b10 m10 h x (nI s) (f_X10_chainOf_L5 fu W B n) (f_X12_chain_L26 fu v n') nr 0 fu fu a (by omega) (by omega) (by omega)
    rw [nI_0] at e1 e2
    rw [e1, e2, nI_1]
    exact ih (s + 1) n n' a1 (by omega) (by omega) (by omega)
theorem sp20 (fu : Nat) (hf : 1000 ≤ fu) : SP20 RR fu := by
  intro k q U V y1 hR
  obtain ⟨np, nt, nr, ⟨hnp, hnt, hnr⟩, ⟨b1, m1⟩, ⟨b5, m5⟩, ⟨b10, m10⟩, hbp, hbt, hbr, hb0, hwp, hwt, hwr, hw0, hbi, hwi⟩ := RR_PL hR
  unfold f_X11_chain f_X12_chain f_X10_chainOf
  rw [tx_let_q, b10, m10]
  by_cases a1 : y1 < 0
  · rw [if_pos a1, if_pos a1]; exact ⟨_, _, rfl, rfl, RR_t hR⟩
  rw [if_neg a1, if_neg a1]
  by_cases a2 : y1 < (1 : Int32) <<< (nI nr &&& 31)
  · rw [if_pos a2, if_pos a2]
    obtain ⟨r, e1, e2⟩ := ch_out (v := V 19) fu hf hnr b10 m10 (fun r hr => (hwr r hr).1) y1 10 0 fu fu 100 (by omega) (by omega) (by omega)
    rw [nI_0] at e1 e2
    rw [e1, e2]
    exact ⟨_, _, rfl, rfl, RR_t hR⟩
  · rw [if_neg a2, if_neg a2]; exact ⟨_, _, rfl, rfl, RR_t hR⟩
theorem fi_in {M : S32} {v : S64} {nt : Nat} (fu : Nat) (hn : nt ≤ 12) (m5 : M 0 13 = nI nt) (K : S32 → Int32 → Int32 → Int32 → Option (Int32 × S32)) (w1 w2 x : Int32) :
    ∀ m t n a, t + m = nt → m < n → f_X12_first_L35 fu v K n M w1 w2 x a (nI t) = (if w2 < (fd (fun (t : Nat) (a : Int32) => a + if M 50 t = 1 ∧ M 51 t = x then M 27 t else 0) m t a) then K M x (fd (fun (t : Nat) (a : Int32) => a + if M 50 t = 1 ∧ M 51 t = x then M 27 t else 0) m t a) (x + 1) else K M w1 w2 (x + 1)) := by
  intro m
  induction m with
  | zero =>
    intro t n a ht h1
    obtain ⟨n, rfl⟩ := pos_ex h1
    show f_X12_first_J35 _ _ _ _ _ _ _ _ _ _ = _
    unfold f_X12_first_J35 f_X12_first_J102
    rw [m5, if_pos (nI_le (by omega) (by omega))]
    rfl
  | succ m ih =>
    intro t n a ht h1
    obtain ⟨n, rfl⟩ := pos_ex h1
    have ih' := fun a => ih (t + 1) n a (by omega) (by omega)
    show f_X12_first_J35 fu v K (f_X12_first_L35 fu v K n) M w1 w2 x a (nI t) = (if w2 < fd _ m (t + 1) _ then K M x (fd _ m (t + 1) _) (x + 1) else K M w1 w2 (x + 1))
    rw [← ih']
    show _ = f_X12_first_L35 fu v K n M w1 w2 x (a + if M 50 t = 1 ∧ M 51 t = x then M 27 t else 0) (nI (t + 1))
    unfold f_X12_first_J35 f_X12_first_J78 f_X12_first_J79
    have ck := fun k : Option (Int32 × S32) => tx_ck_q (j := t) (n := 24) (by omega) (by omega) k
    rw [m5, if_neg (ge_lit (t := t) (by omega) (by omega)), ck, ck, ck, nI_clamp (n := t) (by omega)]
    by_cases c : M 50 t = 1
    · rw [if_pos c]
      by_cases d : M 51 t = x
      · rw [if_pos d, if_pos ⟨c, d⟩, tx_let_q, tx_let_q, nI_1]
      · rw [if_neg d, if_neg (fun z => d z.2), tx_let_q, tx_let_q, nI_1]
    · rw [if_neg c, if_neg (fun z => c z.1), tx_let_q, tx_let_q, nI_1]
theorem fi_out {B W M : S32} {v : S64} {np nt : Nat} (fu : Nat) (hf : 1000 ≤ fu) (hnp : np ≤ 6) (hn : nt ≤ 12) (b1 : B 0 1 = nI np) (m1 : M 0 12 = nI np) (b5 : B 0 5 = nI nt) (m5 : M 0 13 = nI nt) (h : ∀ t, t < nt → W 11 t = M 50 t ∧ W 12 t = M 51 t ∧ B 8 t = M 27 t) :
    ∀ m p n n' w1 w2, p + m = np → m < n → m < n' → ∃ r, f_X10_richestDoor_L7 fu W B n w1 w2 (nI p) = some r ∧ f_X12_first_L21 fu v n' M w1 w2 (nI p) = some (r, M) := by
  intro m
  induction m with
  | zero =>
    intro p n n' w1 w2 hp h1 h2
    obtain ⟨n, rfl⟩ := pos_ex h1
    obtain ⟨n', rfl⟩ := pos_ex h2
    refine ⟨w1, ?_, ?_⟩
    · show f_X10_richestDoor_J7 _ _ _ _ _ _ _ = _
      unfold f_X10_richestDoor_J7
      rw [b1, if_pos (nI_le (by omega) (by omega))]
    · show f_X12_first_J21 _ _ _ _ _ _ _ = _
      unfold f_X12_first_J21
      rw [m1, if_pos (nI_le (by omega) (by omega))]
  | succ m ih =>
    intro p n n' w1 w2 hp h1 h2
    obtain ⟨n, rfl⟩ := pos_ex h1
    obtain ⟨n', rfl⟩ := pos_ex h2
    show ∃ r, f_X10_richestDoor_J7 fu W B (f_X10_richestDoor_L7 fu W B n) w1 w2 (nI p) = some r ∧ f_X12_first_J21 fu v (f_X12_first_L21 fu v n') M w1 w2 (nI p) = some (r, M)
    unfold f_X10_richestDoor_J7 f_X12_first_J21 f_X10_richestDoor_J42
    have e1 : f_X10_heldWorthAt fu W B (nI p) = _ := fl_heldWorthAt fu b5 hn (nI p) nt 0 fu 0 (by omega) (by omega)
    have e2 : f_X12_first_L35 fu v (f_X12_first_L21 fu v n') fu M w1 w2 (nI p) 0 0 = _ := fi_in (v := v) fu hn m5 (f_X12_first_L21 fu v n') w1 w2 (nI p) nt 0 fu 0 (by omega) (by omega)
    rw [b1, m1, if_neg (ge_lit (t := p) (by omega) (by omega)), if_neg (ge6 (t := p) (by omega)), if_neg (ge_lit (t := p) (by omega) (by omega)), e1, e2, tx_b1_q]
    have e3 := fd_congr (n := nt) (g := fun (t : Nat) (a : Int32) => a + if W 11 t = 1 ∧ W 12 t = nI p then B 8 t else 0) (g' := fun (t : Nat) (a : Int32) => a + if M 50 t = 1 ∧ M 51 t = nI p then M 27 t else 0) (fun t ht a => by
      obtain ⟨c1, c2, c3⟩ := h t ht
      rw [c1, c2, c3]) nt 0 (0 : Int32) (by omega)
    rw [e3]
    generalize fd (fun (t : Nat) (a : Int32) => a + if M 50 t = 1 ∧ M 51 t = nI p then M 27 t else 0) nt 0 0 = z
    by_cases c : z ≤ w2
    · rw [if_pos c, if_neg (Int32.not_lt.mpr c), tx_let_q, nI_1]
      exact ih (p + 1) n n' _ _ (by omega) (by omega) (by omega)
    · rw [if_neg c, if_pos (Int32.not_le.mp c), tx_let_q, nI_1]
      exact ih (p + 1) n n' _ _ (by omega) (by omega) (by omega)
theorem sp23 (fu : Nat) (hf : 1000 ≤ fu) : SP23 RR fu := by
  intro k q U V hR
  obtain ⟨np, nt, nr, ⟨hnp, hnt, hnr⟩, ⟨b1, m1⟩, ⟨b5, m5⟩, ⟨b10, m10⟩, hbp, hbt, hbr, hb0, hwp, hwt, hwr, hw0, hbi, hwi⟩ := RR_PL hR
  unfold f_X11_first f_X12_first f_X10_richestDoor
  rw [tx_let_q, b1, m1]
  by_cases a1 : nI np = 0
  · rw [if_pos a1, if_pos a1]; exact ⟨_, _, rfl, rfl, RR_t hR⟩
  rw [if_neg a1, if_neg a1]
  obtain ⟨r, e1, e2⟩ := fi_out (v := V 19) fu hf hnp hnt b1 m1 b5 m5 (fun t ht => ⟨(hwt t ht).1, (hwt t ht).2.1, (hbt t ht).2.1⟩) np 0 fu fu (-2) 0 (by omega) (by omega) (by omega)
  rw [nI_0] at e1 e2
  rw [e1, e2]
  exact ⟨_, _, rfl, rfl, RR_t hR⟩
theorem fa_loop {M : S32} {v : S64} (fu : Nat) {j c : Nat} (hj : 1 ≤ j) (hj2 : j ≤ 99) (hc : c ≤ 100) (h1 : 100 ≤ j * c) (h2 : ∀ k, k < c → j * k < 100) : ∀ m k n, k + m = c → m < n → f_X12_farthing_L19 fu v n M (nI j) (nI k) = some (nI c, M) := by
  intro m
  induction m with
  | zero =>
    intro k n hk hn
    obtain ⟨n, rfl⟩ := pos_ex hn
    have e : k = c := by omega
    subst e
    have hb : j * k ≤ 99 * 100 := Nat.mul_le_mul hj2 hc
    show f_X12_farthing_J19 _ _ _ _ _ _ = _
    unfold f_X12_farthing_J19
    rw [pk_mul, if_pos (show (100 : Int32) ≤ nI (j * k) from nI_le (a := 100) h1 (by omega))]
  | succ m ih =>
    intro k n hk hn
    obtain ⟨n, rfl⟩ := pos_ex hn
    have hb := h2 k (by omega)
    show f_X12_farthing_J19 _ _ _ _ _ _ = _
    unfold f_X12_farthing_J19
    rw [pk_mul, if_neg (show ¬ (100 : Int32) ≤ nI (j * k) from nI_ge (b := 100) hb (by omega)), tx_let_q, nI_1]
    exact ih (k + 1) n (by omega) (by omega)
theorem sp24 (fu : Nat) (hf : 1000 ≤ fu) : SP24 RR fu := by
  intro k q U V y1 hR
  unfold f_X11_farthing f_X12_farthing
  rw [tx_let_q]
  by_cases a1 : y1 < 1
  · rw [if_pos a1, isIn_f fu (Or.inl a1)]; exact ⟨_, _, rfl, rfl, RR_t hR⟩
  rw [if_neg a1]
  by_cases a2 : y1 ≤ 99
  · rw [if_pos a2, isIn_t fu a1 (Int32.not_lt.mpr a2), tx_b1_q, if_neg one_ne]
    have a0 : ¬ y1 < 0 := fun z => a1 (Int32.lt_trans z (by decide))
    obtain ⟨j, hj, rfl⟩ := nI_of2 (n := 99) (M := 99) rfl a0 a2
    have hj1 : 1 ≤ j := by
      rcases Nat.eq_zero_or_pos j with h | h
      · subst h; exact absurd (by decide) a1
      · exact h
    have hd := Nat.div_add_mod (99 + j) j
    have hm := Nat.mod_lt (99 + j) hj1
    have hle : (99 + j) / j ≤ 100 := by
      rw [Nat.div_le_iff_le_mul_add_pred hj1]
      have : 100 ≤ j * 100 := by omega
      omega
    rw [tx_nz_q (nI_ne0 hj1 (by omega))]
    have e1 : ((100 : Int32) + nI j - 1) / nI j = nI ((99 + j) / j) := by
      rw [show (100 : Int32) = nI 100 from rfl, nI_add, show (1 : Int32) = nI 1 from rfl, pk_sub (by omega), pk_div (by omega) hj1 (by omega), show 100 + j - 1 = 99 + j by omega]
    have e2 := fa_loop (M := up2 (U 19) 0 2 0) (v := V 19) fu (c := (99 + j) / j) hj1 hj hle (by omega) (fun k hk => by
      have h3 : (k + 1) * j ≤ 99 + j := (Nat.le_div_iff_mul_le hj1).mp hk
      rw [Nat.add_mul, Nat.one_mul] at h3
      rw [Nat.mul_comm]
      omega) ((99 + j) / j - 1) 1 fu (by
        have : 1 ≤ (99 + j) / j := (Nat.le_div_iff_mul_le hj1).mpr (by omega)
        omega) (by omega)
    rw [e1]
    exact ⟨_, _, rfl, e2, RR_t hR⟩
  · rw [if_neg a2, isIn_f fu (Or.inr (Int32.not_le.mp a2))]; exact ⟨_, _, rfl, rfl, RR_t hR⟩
theorem de_loop {B W M : S32} {v : S64} {np : Nat} (fu : Nat) (hnp : np ≤ 6) (b1 : B 0 1 = nI np) (m1 : M 0 12 = nI np) (h : ∀ p, p < np → W 8 p = M 55 p ∧ ∃ a, a < 2 ^ 31 ∧ W 8 p = nI a) :
    ∀ m p n n' g b, p + m = np → m < n → m < n' → ((g = -1 ∧ b = -2) ∨ ∃ a, a < np ∧ g = nI a ∧ b = if W 8 a ≤ 0 then -2 else nI a) → ∃ g' b', f_X10_greatest_tX10r8_L4 fu W B n g (nI p) = some g' ∧ f_X12_debtor_L10 fu v n' M b (nI p) = some (b', M) ∧ ((g' = -1 ∧ b' = -2) ∨ ∃ a, a < np ∧ g' = nI a ∧ b' = if W 8 a ≤ 0 then -2 else nI a) := by
  intro m
  induction m with
  | zero =>
    intro p n n' g b hp h1 h2 hi
    obtain ⟨n, rfl⟩ := pos_ex h1
    obtain ⟨n', rfl⟩ := pos_ex h2
    refine ⟨g, b, ?_, ?_, hi⟩
    · show f_X10_greatest_tX10r8_J4 _ _ _ _ _ _ = _
      unfold f_X10_greatest_tX10r8_J4
      rw [b1, if_pos (nI_le (by omega) (by omega))]
    · show f_X12_debtor_J10 _ _ _ _ _ _ = _
      unfold f_X12_debtor_J10
      rw [m1, if_pos (nI_le (by omega) (by omega))]
  | succ m ih =>
    intro p n n' g b hp h1 h2 hi
    obtain ⟨n, rfl⟩ := pos_ex h1
    obtain ⟨n', rfl⟩ := pos_ex h2
    have ih' := fun g b => ih (p + 1) n n' g b (by omega) (by omega) (by omega)
    obtain ⟨e8, a8, l8, q8⟩ := h p (by omega)
    show ∃ g' b', f_X10_greatest_tX10r8_J4 fu W B (f_X10_greatest_tX10r8_L4 fu W B n) g (nI p) = some g' ∧ f_X12_debtor_J10 fu v (f_X12_debtor_L10 fu v n') M b (nI p) = some (b', M) ∧ ((g' = -1 ∧ b' = -2) ∨ ∃ a, a < np ∧ g' = nI a ∧ b' = if W 8 a ≤ 0 then -2 else nI a)
    unfold f_X10_greatest_tX10r8_J4 f_X12_debtor_J10 f_X10_greatest_tX10r8_J41 f_X10_greatest_tX10r8_J43 f_X12_debtor_J46 f_X12_debtor_J50 f_X12_debtor_J51
    have ck := fun k : Option (Int32 × S32) => tx_ck_q (j := p) (n := 12) (by omega) (by omega) k
    rw [b1, m1, if_neg (ge_lit (t := p) (by omega) (by omega)), if_neg (ge6 (t := p) (by omega)), if_neg (ge6 (t := p) (by omega)), if_neg (ge_lit (t := p) (by omega) (by omega)), ck, ck, nI_clamp (n := p) (by omega), ← e8]
    rcases hi with ⟨rfl, rfl⟩ | ⟨a, ha, rfl, rfl⟩
    · rw [if_pos rfl, tx_let_q, nI_1]
      by_cases c : W 8 p ≤ 0
      · rw [if_pos c, tx_let_q]
        exact ih' _ _ (Or.inr ⟨p, by omega, rfl, by rw [if_pos c]⟩)
      · rw [if_neg c, if_pos (by decide), tx_let_q]
        exact ih' _ _ (Or.inr ⟨p, by omega, rfl, by rw [if_neg c]⟩)
    · obtain ⟨f8, c8, k8, r8⟩ := h a ha
      have dk := fun k : Option Int32 => tx_ck_q (j := p) (n := 6) (by omega) (by omega) k
      have dk' := fun k : Option Int32 => tx_ck_q (j := a) (n := 6) (by omega) (by omega) k
      rw [if_neg (m1_ne (by omega)), dk, dk', nI_clamp (n := a) (by omega)]
      by_cases z : W 8 a ≤ 0
      · rw [if_pos z]
        have za : W 8 a = 0 := by
          rw [r8] at z ⊢
          have : ¬ 0 < c8 := fun w => nI_nle w k8 z
          have : c8 = 0 := by omega
          subst this; rfl
        rw [za]
        by_cases c : W 8 p ≤ 0
        · rw [if_pos c, if_pos c, tx_let_q, tx_let_q, nI_1]
          exact ih' _ _ (Or.inr ⟨a, ha, rfl, by rw [if_pos z]⟩)
        · rw [if_neg c, if_neg c, if_pos (by decide), tx_let_q, tx_let_q, nI_1]
          exact ih' _ _ (Or.inr ⟨p, by omega, rfl, by rw [if_neg c]⟩)
      · rw [if_neg z]
        have ck' := fun k : Option (Int32 × S32) => tx_ck_q (j := a) (n := 12) (by omega) (by omega) k
        rw [if_neg (nI_pos (n := a) (by omega)), ck', nI_clamp (n := a) (by omega), ← f8]
        by_cases c : W 8 p ≤ W 8 a
        · rw [if_pos c, if_pos c, tx_let_q, nI_1]
          by_cases d : W 8 p ≤ 0
          · rw [if_pos d, tx_let_q]
            exact ih' _ _ (Or.inr ⟨a, ha, rfl, by rw [if_neg z]⟩)
          · rw [if_neg d, tx_let_q]
            exact ih' _ _ (Or.inr ⟨a, ha, rfl, by rw [if_neg z]⟩)
        · rw [if_neg c, if_neg c, tx_let_q, nI_1]
          have d : ¬ W 8 p ≤ 0 := by
            intro d
            exact c (Int32.le_trans d (by rw [r8]; exact nI_pos' k8))
          rw [if_neg d, tx_let_q]
          exact ih' _ _ (Or.inr ⟨p, by omega, rfl, by rw [if_neg d]⟩)
theorem sp28 (fu : Nat) (hf : 1000 ≤ fu) : SP28 RR fu := by
  intro k q U V hR
  obtain ⟨np, nt, nr, ⟨hnp, hnt, hnr⟩, ⟨b1, m1⟩, ⟨b5, m5⟩, ⟨b10, m10⟩, hbp, hbt, hbr, hb0, hwp, hwt, hwr, hw0, hbi, hwi⟩ := RR_PL hR
  obtain ⟨w, hw, hk⟩ := hwi.2.2.2.2
  obtain ⟨g', b', e1, e2, hi⟩ := de_loop (v := V 19) fu hnp b1 m1 (fun p hp => ⟨(hwp p hp).2.2.1, by
    obtain ⟨a, ha, e⟩ := (hk.2 p hp).2
    have : 999 * w ≤ 999 * 9900 := Nat.mul_le_mul_left _ hw
    exact ⟨a, by omega, e⟩⟩) np 0 fu fu (-1) (-2) (by omega) (by omega) (by omega) (Or.inl ⟨rfl, rfl⟩)
  unfold f_X11_debtor f_X12_debtor f_X10_greatest_tX10r8
  rw [nI_0] at e1 e2
  rw [tx_let_q, e1, e2, tx_b1_q]
  rcases hi with ⟨rfl, rfl⟩ | ⟨a, ha, rfl, rfl⟩
  · exact ⟨_, _, rfl, rfl, RR_t hR⟩
  · rw [if_neg (m1_ne (by omega)), tx_ck_q (by omega) (by omega), nI_clamp (by omega)]
    by_cases z : U 1 8 a ≤ 0
    · rw [if_pos z]
      exact ⟨_, _, rfl, by rw [if_pos z], RR_t hR⟩
    · rw [if_neg z]
      exact ⟨_, _, rfl, by rw [if_neg z], RR_t hR⟩
