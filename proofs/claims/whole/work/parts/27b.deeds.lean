/-! what is remembered of deeds -/
theorem rem_shift (fu : Nat) (v : S64) : ∀ m k n M, k + m = 589 → m < n → ∃ M', f_X12_remember_L11 fu v n M (nI k) = f_X12_remember_J49 fu v (up2 M' 0 75 (M 0 75 - 1)) ∧ (∀ r, r ≠ 77 → M' r = M r) ∧ (∀ i, i < k → M' 77 i = M 77 i) ∧ (∀ i, k ≤ i → i < 589 → M' 77 i = M 77 (i + 31)) := by
  intro m
  induction m with
  | zero =>
    intro k n M hk hn
    obtain ⟨n, rfl⟩ := pos_ex hn
    have : k = 589 := by omega
    subst this
    refine ⟨M, ?_, fun _ _ => rfl, fun _ _ => rfl, fun i h1 h2 => absurd h2 (by omega)⟩
    show f_X12_remember_J11 _ _ _ _ _ = _
    unfold f_X12_remember_J11
    rw [if_pos (show (589 : Int32) ≤ nI 589 by decide), tx_let_q]
  | succ m ih =>
    intro k n M hk hn
    obtain ⟨n, rfl⟩ := pos_ex hn
    obtain ⟨M', e1, e2, e3, e4⟩ := ih (k + 1) n (up2 M 77 k (M 77 (k + 31))) (by omega) (by omega)
    rw [up2_n _ _ _ (show (0 : Nat) ≠ 77 by decide)] at e1
    refine ⟨M', ?_, fun r h => (e2 r h).trans (up2_n _ _ _ h), ?_, ?_⟩
    · show f_X12_remember_J11 _ _ _ _ _ = _
      unfold f_X12_remember_J11
      have e31 : nI k + (31 : Int32) = nI (k + 31) := nI_add k 31
      have c1 := fun k' : Option S32 => tx_ck_q (j := k) (n := 620) (by omega) (by omega) k'
      have c2 := fun k' : Option S32 => tx_ck_q (j := k + 31) (n := 620) (by omega) (by omega) k'
      rw [if_neg (show ¬ (589 : Int32) ≤ nI k from nI_ge (b := 589) (by omega) (by omega)), e31, c2, c1, tx_let_q, tx_let_q, nI_clamp (n := k) (by omega), nI_clamp (n := k + 31) (by omega), nI_1]
      exact e1
    · intro i hi
      rw [e3 i (by omega), up2_i _ _ _ (by omega)]
    · intro i h1 h2
      by_cases e : i = k
      · subst e
        rw [e3 _ (by omega), up2_e]
      · rw [e4 i (by omega) h2, up2_i _ _ _ (by omega)]
/-- how many lie there behind it but one, and whether the first was dropped -/
def rmN (n : Nat) : Nat := if n = 20 then 19 else n
def rmS (n : Nat) : Nat := if n = 20 then 1 else 0
theorem rm_p {n : Nat} (h : n ≤ 20) : rmN n + rmS n = n ∧ rmN n < 20 := by
  unfold rmN rmS
  by_cases e : n = 20
  · rw [if_pos e, if_pos e]; omega
  · rw [if_neg e, if_neg e]; omega
theorem rem_put (fu : Nat) (hf : 1000 ≤ fu) (v : S64) {M : S32} {n : Nat} (hn : n < 20) (h : M 0 75 = nI n) : ∃ M', f_X12_remember_J49 fu v M = some M' ∧ M' 0 75 = nI (n + 1) ∧ (∀ r, r ≠ 0 → r ≠ 77 → M' r = M r) ∧ (∀ i, i ≠ 75 → M' 0 i = M 0 i) ∧ (∀ i, i < 31 * n → M' 77 i = M 77 i) ∧ (∀ x, x < 12 → M' 77 (31 * n + x) = M 51 x) ∧ (∀ x, x < 6 → M' 77 (31 * n + 12 + x) = M 53 x ∧ M' 77 (31 * n + 18 + x) = M 56 x ∧ M' 77 (31 * n + 24 + x) = M 57 x) ∧ M' 77 (31 * n + 30) = M 58 0 := by
  obtain ⟨M1, e1, e2, e3, e4, e5, e6⟩ := put_77 fu hf v (o := 31 * n) (by omega) M
  have e31 : (31 : Int32) * nI n = nI (31 * n) := pk_mul 31 n
  have z : ∀ r, r ≠ 0 → (up2 M1 0 75 (nI (n + 1))) r = M1 r := fun r h => up2_n _ _ _ h
  refine ⟨up2 M1 0 75 (nI (n + 1)), ?_, up2_e _ _ _ _, fun r h1 h2 => by rw [z r h1, e2 r h2], fun i hi => by rw [up2_i _ _ _ hi, e2 0 (by decide)], ?_, ?_, ?_, ?_⟩
  · unfold f_X12_remember_J49
    rw [h, e31, e1, tx_b1_q, tx_let_q, e2 0 (by decide), h, nI_1]
  · intro i hi
    rw [z 77 (by decide), e3 i (by omega)]
  · intro x hx
    rw [z 77 (by decide), e4 x hx]
  · intro x hx
    rw [z 77 (by decide)]
    exact e5 x hx
  · rw [z 77 (by decide), e6]
theorem rem_q (fu : Nat) (hf : 1000 ≤ fu) (v : S64) {M : S32} {n : Nat} (hn : n ≤ 20) (h : M 0 75 = nI n) : ∃ M', f_X12_remember fu v M = some M' ∧ M' 0 75 = nI (rmN n + 1) ∧ (∀ r, r ≠ 0 → r ≠ 77 → M' r = M r) ∧ (∀ i, i ≠ 75 → M' 0 i = M 0 i) ∧ (∀ i, i < 31 * rmN n → M' 77 i = M 77 (i + 31 * rmS n)) ∧ (∀ x, x < 12 → M' 77 (31 * rmN n + x) = M 51 x) ∧ (∀ x, x < 6 → M' 77 (31 * rmN n + 12 + x) = M 53 x ∧ M' 77 (31 * rmN n + 18 + x) = M 56 x ∧ M' 77 (31 * rmN n + 24 + x) = M 57 x) ∧ M' 77 (31 * rmN n + 30) = M 58 0 := by
  unfold f_X12_remember rmN rmS
  rw [h]
  by_cases e : n = 20
  · subst e
    obtain ⟨M1, e1, e2, e3, e4⟩ := rem_shift fu v 589 0 fu M (by omega) (by omega)
    rw [if_pos rfl, if_pos rfl, if_pos (by decide)]
    rw [nI_0] at e1
    have z : ∀ r, r ≠ 0 → (up2 M1 0 75 (M 0 75 - 1)) r = M1 r := fun r h => up2_n _ _ _ h
    obtain ⟨M2, f1, f2, f3, f4, f5, f6, f7, f8⟩ := rem_put fu hf v (M := up2 M1 0 75 (M 0 75 - 1)) (n := 19) (by omega) (by rw [up2_e, h]; rfl)
    rw [z 51 (by decide), e2 51 (by decide)] at f6
    rw [z 53 (by decide), z 56 (by decide), z 57 (by decide), e2 53 (by decide), e2 56 (by decide), e2 57 (by decide)] at f7
    rw [z 58 (by decide), e2 58 (by decide)] at f8
    refine ⟨M2, by rw [e1, f1], f2, fun r h1 h2 => by rw [f3 r h1 h2, z r h1, e2 r h2], fun i hi => by rw [f4 i hi, up2_i _ _ _ hi, e2 0 (by decide)], fun i hi => ?_, f6, f7, f8⟩
    rw [f5 i hi, z 77 (by decide), e4 i (by omega) (by omega)]
  · rw [if_neg e, if_neg e, if_neg (show ¬ nI n = (20 : Int32) from fun z => e ((nI_eq (b := 20) (by omega) (by omega)).mp z))]
    obtain ⟨M2, f1, f2, f3, f4, f5, f6, f7, f8⟩ := rem_put fu hf v (M := M) (n := n) (by omega) h
    exact ⟨M2, f1, f2, f3, f4, fun i hi => by rw [f5 i hi]; rfl, f6, f7, f8⟩
theorem note_put (fu : Nat) {D : S32} {n : Nat} (hn : n < 20) (h : D 0 3 = nI n) (a b c : Int32) : f_X1_note_J60 fu D a b c = some (up2 (up2 (up2 (up2 D 1 n a) 2 n b) 3 n c) 0 3 (nI (n + 1))) := by
  unfold f_X1_note_J60
  have ck := fun k : Option S32 => tx_ck_q (j := n) (n := 20) hn (by omega) k
  have z1 := fun (F : S32) (i : Nat) (x : Int32) => congrFun (up2_n F (r := 1) (q := 0) i x (by decide)) 3
  have z2 := fun (F : S32) (i : Nat) (x : Int32) => congrFun (up2_n F (r := 2) (q := 0) i x (by decide)) 3
  have z3 := fun (F : S32) (i : Nat) (x : Int32) => congrFun (up2_n F (r := 3) (q := 0) i x (by decide)) 3
  rw [h, if_neg (nI_pos (n := n) (by omega)), ck, tx_let_q, nI_clamp (n := n) (by omega), z1, h, ck, tx_let_q, nI_clamp (n := n) (by omega), z2, z1, h, ck, tx_let_q, nI_clamp (n := n) (by omega), z3, z2, z1, h, nI_1, tx_let_q]
theorem note_q (fu : Nat) {D : S32} {n : Nat} (hn : n ≤ 20) (h : D 0 3 = nI n) (a b c : Int32) : ∃ D', f_X1_note fu D a b c = some D' ∧ D' 0 3 = nI (rmN n + 1) ∧ (∀ r i, 1 ≤ r → r ≤ 3 → i < rmN n → D' r i = D r (i + rmS n)) ∧ D' 1 (rmN n) = a ∧ D' 2 (rmN n) = b ∧ D' 3 (rmN n) = c := by
  unfold f_X1_note rmN rmS
  rw [h]
  by_cases e : n = 20
  · subst e
    rw [if_pos rfl, if_pos rfl, if_neg (show ¬ nI 20 < (20 : Int32) by decide), tx_let_q, tx_let_q, tx_let_q, tx_let_q]
    have e19 : (19 : Int32) = nI 19 := rfl
    rw [e19, note_put fu (n := 19) (by omega) (up2_e _ _ _ _)]
    refine ⟨_, rfl, up2_e _ _ _ _, ?_, ?_, ?_, ?_⟩
    · intro r i h1 h2 hi
      have c := fun f g : Nat → Int32 => pk_cpy_in (f := f) (g := g) (sp := 1) (dp := 0) (n := 19) (j := i) (by omega) (by omega)
      have ec : 1 + (i - 0) = i + 1 := by omega
      rw [up2_a, if_neg (by omega), up2_a, if_neg (by omega), up2_a, if_neg (by omega), up2_a, if_neg (by omega), up2_a, if_neg (by omega)]
      have : r = 1 ∨ r = 2 ∨ r = 3 := by omega
      rcases this with rfl | rfl | rfl
      · rw [rw2_n _ _ (by decide), rw2_n _ _ (by decide), rw2_r, c, ec]
      · rw [rw2_n _ _ (by decide), rw2_r, rw2_n _ _ (by decide), c, ec]
      · rw [rw2_r, rw2_n _ _ (by decide), rw2_n _ _ (by decide), c, ec]
    · rw [up2_n _ _ _ (by decide), up2_n _ _ _ (by decide), up2_n _ _ _ (by decide), up2_e]
    · rw [up2_n _ _ _ (by decide), up2_n _ _ _ (by decide), up2_e]
    · rw [up2_n _ _ _ (by decide), up2_e]
  · rw [if_neg e, if_neg e, if_pos (show nI n < (20 : Int32) from nI_lt (b := 20) (by omega) (by omega)), note_put fu (n := n) (by omega) h]
    refine ⟨_, rfl, up2_e _ _ _ _, ?_, ?_, ?_, ?_⟩
    · intro r i h1 h2 hi
      rw [up2_a, if_neg (by omega), up2_a, if_neg (by omega), up2_a, if_neg (by omega), up2_a, if_neg (by omega)]
      rfl
    · rw [up2_n _ _ _ (by decide), up2_n _ _ _ (by decide), up2_n _ _ _ (by decide), up2_e]
    · rw [up2_n _ _ _ (by decide), up2_n _ _ _ (by decide), up2_e]
    · rw [up2_n _ _ _ (by decide), up2_e]
theorem unD.c {D D' : S32} {i j : Nat} (h1 : D' 1 i = D 1 j) (h2 : D' 2 i = D 2 j) (h3 : D' 3 i = D 3 j) (B W : S32) : unD D' B W i = unD D B W j := by
  unfold unD
  rw [h1, h2, h3]
theorem udN.sh {D D' B M M' : S32} {np nt nr s : Nat} (hnp : np ≤ 6) (hnt : nt ≤ 12) : ∀ m W, (∀ r i, 1 ≤ r → r ≤ 3 → i < m → D' r i = D r (i + s)) → (∀ i, i < 31 * m → M' 77 i = M 77 (i + 31 * s)) → udN D B M np nt nr (m + s) W → udN D' B M' np nt nr m W := by
  intro m
  induction m with
  | zero => intro W _ _ _; trivial
  | succ m ih =>
    intro W hD hM h
    rw [show m + 1 + s = (m + s) + 1 by omega] at h
    obtain ⟨h1, h2, h3, h4⟩ := h
    have d1 := hD 1 m (by omega) (by omega) (by omega)
    have d2 := hD 2 m (by omega) (by omega) (by omega)
    have d3 := hD 3 m (by omega) (by omega) (by omega)
    have eu := unD.c d1 d2 d3 B W
    refine ⟨?_, ?_, ?_, ?_⟩
    · unfold deedOK at h1 ⊢
      rw [d1, d2]
      exact h1
    · rw [eu]
      obtain ⟨g1, g2, g3⟩ := h2
      refine ⟨fun t ht => ?_, fun p hp => ?_, ?_⟩
      · rw [g1 t ht, hM (31 * m + t) (by omega)]
        congr 1
        omega
      · obtain ⟨a1, a2, a3⟩ := g2 p hp
        rw [a1, a2, a3, hM (31 * m + 12 + p) (by omega), hM (31 * m + 18 + p) (by omega), hM (31 * m + 24 + p) (by omega)]
        refine ⟨?_, ?_, ?_⟩ <;> (congr 1; omega)
      · rw [g3, hM (31 * m + 30) (by omega)]
        congr 1
        omega
    · rw [eu]; exact h3
    · rw [eu]
      exact ih _ (fun r i a b c => hD r i a b (by omega)) (fun i hi => hM i (by omega)) h4
theorem ud_deed {D W B M D' W' M' : S32} {np nt nr n : Nat} (hnp : np ≤ 6) (hnt : nt ≤ 12) (hn : n ≤ 20) (hu : udN D B M np nt nr n W) (hwi : wdIn W np nt nr) (d3 : D' 0 3 = nI (rmN n + 1)) (m75 : M' 0 75 = nI (rmN n + 1))
    (hD : ∀ r i, 1 ≤ r → r ≤ 3 → i < rmN n → D' r i = D r (i + rmS n)) (hM : ∀ i, i < 31 * rmN n → M' 77 i = M 77 (i + 31 * rmS n)) (hd : deedOK D' (rmN n) np nt) (hun : unD D' B W' (rmN n) = W) (hsn : snOK W M' 77 (31 * rmN n) np nt) : udOK D' W' B M' np nt nr := by
  obtain ⟨r1, r2⟩ := rm_p hn
  refine ⟨rmN n + 1, by omega, d3, m75, hd, ?_, ?_, ?_⟩
  · rw [hun]; exact hsn
  · rw [hun]; exact hwi
  · rw [hun]
    refine udN.sh hnp hnt (rmN n) W hD hM ?_
    rw [r1]
    exact hu
/-- the world of now in both -/
def NOWs (W B M W3 : S32) (np nt nr : Nat) (dr : Int64) : Prop := wdOK W M 0 np nt ∧ wdIn W np nt nr ∧ wdBk W B np nr ∧ (∀ t, t < nt → W 11 t = M 50 t) ∧ nbOK W dr ∧ bitOK W W3
theorem RR_D {k q : Nat → Nat} {U : Nat → S32} {V V' : Nat → S64} {W' D' M' : S32} {np nt nr : Nat} (h1 : bkOK (U 2) (pj (U 19)) np nt nr ∧ bkIn (U 2) np nt nr ∧ lwOK (U 17) (pj (U 19)))
    (h3 : tpOK (U 18) (pj (U 19)) ∧ (U 12 0 2 = pj (U 19) 0 4 ∧ U 12 0 3 = pj (U 19) 0 5) ∧ (∀ j, j < 105 → pj (U 19) 4 j = wd_X12_104 j)) (h4 : fdOK (U 4) (pj (U 19)) nt) (h5 : imOK (k 0) (q 0) (U 0) (U 9) (U 2) (pj (U 19)) (V 19 0 80) np nt nr)
    (hr : ∀ r, r ≠ 0 → (r < 50 ∨ 59 < r) → r ≠ 77 → pj M' r = pj (U 19) r) (h0 : ∀ i, i ≠ 75 → pj M' 0 i = pj (U 19) 0 i) (hV : V' 19 0 80 = V 19 0 80) (h2 : NOWs W' (U 2) (pj M') (U 7) np nt nr (V' 19 0 59)) (h6 : udOK D' W' (U 2) (pj M') np nt nr) : RR k q (va_up (va_up (va_up U 1 W') 5 D') 19 M') V' := by
  obtain ⟨hb, hbi, hlw⟩ := h1
  obtain ⟨ht, hz, hwo⟩ := h3
  refine ⟨np, nt, nr, ⟨hb.c (fun r h1 h2 => hr r (by omega) (by omega) (by omega)) (h0 _ (by decide)) (h0 _ (by decide)) (h0 _ (by decide)), hbi, hlw.c (fun r h1 h2 => hr r (by omega) (by omega) (by omega)) (h0 _ (by decide))⟩, h2, ⟨ht.c (h0 _ (by decide)) (hr _ (by decide) (by decide) (by decide)), ?_, ?_⟩, h4.c (h0 _ (by decide)) (h0 _ (by decide)) (hr _ (by decide) (by decide) (by decide)), ?_, h6⟩
  · show U 12 0 2 = pj M' 0 4 ∧ U 12 0 3 = pj M' 0 5
    rw [h0 4 (by decide), h0 5 (by decide)]
    exact hz
  · intro j hj
    show pj M' 4 j = _
    rw [hr 4 (by decide) (by decide) (by decide)]
    exact hwo j hj
  · show imOK (k 0) (q 0) (U 0) (U 9) (U 2) (pj M') (V' 19 0 80) np nt nr
    rw [hV]
    exact h5.c (h0 _ (by decide)) (hr _ (by decide) (by decide) (by decide)) (hr _ (by decide) (by decide) (by decide))
theorem rl77 (i : Nat) : rl 77 i = true := by simp [rl]
theorem rl79 (i : Nat) : rl 79 i = true := by simp [rl]
theorem rl80 (i : Nat) : rl 80 i = true := by simp [rl]
/-- remembered on both sides, and then the deed -/
theorem RR_deed (fu : Nat) (hf : 1000 ≤ fu) {k q : Nat → Nat} {U : Nat → S32} {V : Nat → S64} {np nt nr : Nat} (h1 : bkOK (U 2) (pj (U 19)) np nt nr ∧ bkIn (U 2) np nt nr ∧ lwOK (U 17) (pj (U 19))) (h2 : NOWs (U 1) (U 2) (pj (U 19)) (U 7) np nt nr (V 19 0 59))
    (h3 : tpOK (U 18) (pj (U 19)) ∧ (U 12 0 2 = pj (U 19) 0 4 ∧ U 12 0 3 = pj (U 19) 0 5) ∧ (∀ j, j < 105 → pj (U 19) 4 j = wd_X12_104 j)) (h4 : fdOK (U 4) (pj (U 19)) nt) (h5 : imOK (k 0) (q 0) (U 0) (U 9) (U 2) (pj (U 19)) (V 19 0 80) np nt nr) (h6 : udOK (U 5) (U 1) (U 2) (pj (U 19)) np nt nr) (a b c : Int32) :
    ∃ D' M2, f_X1_note fu (U 5) a b c = some D' ∧ f_X12_remember fu (V 19) (up2 (U 19) 0 2 0) = some M2 ∧ (∀ r, r ≠ 0 → r ≠ 77 → M2 r = U 19 r) ∧
      ∀ W' M', (∀ r, r < 50 ∨ 59 < r → M' r = M2 r) → ((a = 0 ∧ ∃ t, t < nt ∧ b = nI t) ∨ (a = 1 ∧ ∃ p, p < np ∧ b = nI p) ∨ (a = 2 ∧ ∃ p, p < np ∧ b = nI p) ∨ a = 3) →
        (if a = 0 then up2 W' 12 b.toNatClampNeg c else if a = 1 then up2 (up2 W' 9 b.toNatClampNeg (W' 9 b.toNatClampNeg - c)) 5 b.toNatClampNeg (W' 5 b.toNatClampNeg + c * U 2 0 15) else if a = 2 then up2 W' 10 b.toNatClampNeg c else up2 W' 0 2 c) = U 1 →
        NOWs W' (U 2) (pj M') (U 7) np nt nr (V 19 0 59) → RR k q (va_up (va_up (va_up U 1 W') 5 D') 19 M') V := by
  obtain ⟨n, hn, d3, m75, hu⟩ := h6
  have m75' : (up2 (U 19) 0 2 0) 0 75 = nI n := by
    rw [up_t _ (by decide)]
    exact m75
  obtain ⟨D', c1, c2, c3, c4, c5, c6⟩ := note_q fu hn d3 a b c
  obtain ⟨M2, e1, e2, e3, e4, e5, e6, e7, e8⟩ := rem_q fu hf (V 19) hn m75'
  have f : ∀ r, r ≠ 0 → r ≠ 77 → M2 r = U 19 r := fun r x y => (e3 r x y).trans (up2_n _ _ _ x)
  have hnp := h1.1.1.1
  have hnt := h1.1.1.2.1
  obtain ⟨r1, r2⟩ := rm_p hn
  refine ⟨D', M2, c1, e1, f, ?_⟩
  intro W' M' hM hdd hun hnow
  refine RR_D h1 h3 h4 h5 ?_ ?_ rfl hnow ?_
  · intro r x y z
    exact pj_w ((hM r y).trans (f r x z))
  · intro i hi
    have : M' 0 i = (up2 (U 19) 0 2 0) 0 i := by rw [hM 0 (by omega)]; exact e4 i hi
    rw [pj_c this, pj_thrown]
  · refine ud_deed hnp hnt hn hu h2.2.1 c2 ?_ c3 ?_ ?_ ?_ ?_
    · rw [pj_in (by decide), hM 0 (by omega)]
      exact e2
    · intro i hi
      rw [pj_in (rl77 _), pj_in (rl77 _), hM 77 (by omega), e5 i hi, up2_n _ _ _ (by decide)]
    · unfold deedOK
      rw [c4, c5]
      exact hdd
    · unfold unD
      rw [c4, c5, c6]
      exact hun
    · have hw := h2.1
      refine ⟨fun t ht => ?_, fun p hp => ?_, ?_⟩
      · rw [(wd_t hw hnt ht).1, pj_in (rl77 _), hM 77 (by omega), e6 t (by omega), up2_n _ _ _ (by decide)]
      · obtain ⟨a1, -, -, a4, a5⟩ := wd_p hw hnp hp
        obtain ⟨g1, g2, g3⟩ := e7 p (by omega)
        rw [a1, a4, a5, pj_in (rl77 _), pj_in (rl77 _), pj_in (rl77 _), hM 77 (by omega), g1, g2, g3, up2_n _ _ _ (by decide), up2_n _ _ _ (by decide), up2_n _ _ _ (by decide)]
        exact ⟨rfl, rfl, rfl⟩
      · rw [hw.2.2.1, pj_in (rl77 _), pj_in (by decide), hM 77 (by omega), e8, up2_n _ _ _ (by decide)]
theorem RR_0 {k q : Nat → Nat} {U : Nat → S32} {V : Nat → S64} (hR : RR k q U V) : RR k q (va_up (va_up (va_up U 1 (U 1)) 5 (U 5)) 19 (up2 (U 19) 0 2 0)) V := RR_t (U := va_up (va_up U 1 (U 1)) 5 (U 5)) hR
