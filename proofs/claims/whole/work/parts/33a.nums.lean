/-! what stands there: tests, faults, numbers -/
def ST (P K M : S32) (e nx : Nat) : Prop := TK P K M e nx ∧ K 0 3 = M 0 10 ∧ TKr K M
theorem kn_q {K M : S32} (h : TKr K M) : (K 0 4 = 0 ↔ M 0 8 = 0) ∧ (K 0 4 = 2 ↔ M 0 8 = 3) ∧ (K 0 4 = 3 ↔ M 0 8 = 2) ∧ (K 0 4 = 4 ↔ M 0 8 = 1) := by
  have d : ∀ a b : Int32, ¬ a = b → a = b → False := fun _ _ h1 h2 => h1 h2
  rcases h with ⟨a, b⟩ | ⟨a, b | ⟨b, -⟩⟩ | ⟨a, b, -⟩ | ⟨a, b, -⟩ | ⟨a, b, -⟩ | ⟨a, b, -⟩ | ⟨a, b, -⟩ <;> rw [a, b] <;> decide
theorem kn_num {K M : S32} (h : TKr K M) (hk : K 0 4 = 2) : nmR (K 0 5) (M 0 9) := by
  rcases h with ⟨a, -⟩ | ⟨a, -⟩ | ⟨-, -, b⟩ | ⟨a, -⟩ | ⟨a, -⟩ | ⟨a, -⟩ | ⟨a, -⟩
  · rw [hk] at a; exact absurd a (by decide)
  · rw [hk] at a; exact absurd a (by decide)
  · exact b
  · rw [hk] at a; exact absurd a (by decide)
  · rw [hk] at a; exact absurd a (by decide)
  · rw [hk] at a; exact absurd a (by decide)
  · rw [hk] at a; exact absurd a (by decide)
theorem kn_nam {K M : S32} (h : TKr K M) (hk : K 0 4 = 3) : K 0 5 = M 0 9 := by
  rcases h with ⟨a, -⟩ | ⟨a, -⟩ | ⟨a, -⟩ | ⟨-, -, b⟩ | ⟨a, -⟩ | ⟨a, -⟩ | ⟨a, -⟩
  · rw [hk] at a; exact absurd a (by decide)
  · rw [hk] at a; exact absurd a (by decide)
  · rw [hk] at a; exact absurd a (by decide)
  · exact b
  · rw [hk] at a; exact absurd a (by decide)
  · rw [hk] at a; exact absurd a (by decide)
  · rw [hk] at a; exact absurd a (by decide)
theorem kn_wrd {K M : S32} (h : TKr K M) (hk : K 0 4 = 4) : ∃ k, k < 20 ∧ K 0 5 = nI (sw k) ∧ M 0 9 = nI k := by
  rcases h with ⟨a, -⟩ | ⟨a, -⟩ | ⟨a, -⟩ | ⟨a, -⟩ | ⟨-, -, b⟩ | ⟨a, -⟩ | ⟨a, -⟩
  · rw [hk] at a; exact absurd a (by decide)
  · rw [hk] at a; exact absurd a (by decide)
  · rw [hk] at a; exact absurd a (by decide)
  · rw [hk] at a; exact absurd a (by decide)
  · exact b
  · rw [hk] at a; exact absurd a (by decide)
  · rw [hk] at a; exact absurd a (by decide)
/-- a sign of one byte, asked for in both -/
theorem kn_sg (fu : Nat) {K M : S32} (v : S64) (h : TKr K M) : (f_X8_isSign fu K 17 = some 1 ∧ f_X12_isSign fu M v 59 = some 1 ∧ ¬ K 0 4 = 0) ∨ (f_X8_isSign fu K 17 = some 0 ∧ f_X12_isSign fu M v 59 = some 0) := by
  unfold f_X8_isSign f_X12_isSign
  rcases h with ⟨a, b⟩ | ⟨a, b | ⟨b, c⟩⟩ | ⟨a, b, -⟩ | ⟨a, b, -⟩ | ⟨a, b, -⟩ | ⟨a, b, c⟩ | ⟨a, b, n, hn, c, d⟩
  · right; rw [a, b]; exact ⟨rfl, rfl⟩
  · right; rw [a, b]; exact ⟨rfl, rfl⟩
  · right; rw [a, b, c]; exact ⟨rfl, rfl⟩
  · right; rw [a, b]; exact ⟨rfl, rfl⟩
  · right; rw [a, b]; exact ⟨rfl, rfl⟩
  · right; rw [a, b]; exact ⟨rfl, rfl⟩
  · rcases c with ⟨c, d⟩ | ⟨c, d⟩ | ⟨c, d⟩ | ⟨c, d⟩ | ⟨c, d⟩ | ⟨c, d⟩ | ⟨c, d⟩
    · left; rw [a, b, c, d]; exact ⟨rfl, rfl, by decide⟩
    · right; rw [a, b, c, d]; exact ⟨rfl, rfl⟩
    · right; rw [a, b, c, d]; exact ⟨rfl, rfl⟩
    · right; rw [a, b, c, d]; exact ⟨rfl, rfl⟩
    · right; rw [a, b, c, d]; exact ⟨rfl, rfl⟩
    · right; rw [a, b, c, d]; exact ⟨rfl, rfl⟩
    · right; rw [a, b, c, d]; exact ⟨rfl, rfl⟩
  · right
    rw [a, b, c, if_pos rfl, if_neg (show ¬ nI (5 + n) = (17 : Int32) from fun z => absurd ((nI_eq (b := 17) (by omega) (by omega)).mp z) (by omega))]
    exact ⟨rfl, rfl⟩
/-- what a relation sees stays, but for the fault -/
def LF (M M' : S32) : Prop := ∀ r i, rl r i = true → (r = 0 → i ≠ 4 ∧ i ≠ 5) → M' r i = M r i
theorem LF.refl (M : S32) : LF M M := fun _ _ _ _ => rfl
theorem LF.trans {M M' M'' : S32} (h : LF M M') (h2 : LF M' M'') : LF M M'' := fun r i a b => (h2 r i a b).trans (h r i a b)
theorem LF.up {M M' : S32} (h : LF M M') {r i : Nat} (x : Int32) (hs : rl r i = false) : LF M (up2 M' r i x) := by
  intro q j hq hj
  rw [up2_a, if_neg]
  · exact h q j hq hj
  · rintro ⟨rfl, rfl⟩; rw [hs] at hq; cases hq
theorem LF.ft {M M' : S32} (h : LF M M') {i : Nat} (x : Int32) (hi : i = 4 ∨ i = 5) : LF M (up2 M' 0 i x) := by
  intro q j hq hj
  rw [up2_a, if_neg]
  · exact h q j hq hj
  · rintro ⟨rfl, rfl⟩
    have := hj rfl
    omega
theorem LF.fm {M M' M'' : S32} (h : LF M M') (hf : FM M' M'') : LF M M'' := by
  intro q j hq hj
  by_cases e : q = 0
  · subst e
    rw [hf.2 j (fun z => by subst z; exact absurd hq (by decide)) (fun z => by subst z; exact absurd hq (by decide)) (fun z => by subst z; exact absurd hq (by decide)) (fun z => by subst z; exact absurd hq (by decide))]
    exact h 0 j hq hj
  · rw [hf.1 q e]
    exact h q j hq hj
/-- a fault on both sides -/
def FT2 (Z' M M' : S32) : Prop := Z' 0 2 = M' 0 4 ∧ Z' 0 3 = M' 0 5 ∧ LF M M'
theorem bl_q (fu : Nat) {K M : S32} (Z : S32) (v : S64) (h : K 0 3 = M 0 10) {M0 : S32} (hl : LF M0 M) (c : Int32) : ∃ Z' M', f_X7_blame fu K Z c = some (0, Z') ∧ f_X12_wrong fu v M c = some (0, M') ∧ FT2 Z' M0 M' := by
  unfold f_X7_blame f_X12_wrong
  rw [tx_let_q, tx_let_q, tx_let_q, tx_let_q]
  refine ⟨_, _, rfl, rfl, ?_, ?_, (hl.ft _ (Or.inl rfl)).ft _ (Or.inr rfl)⟩
  · rw [up2_i _ _ _ (by decide), up2_e, up2_i _ _ _ (by decide), up2_e]
  · rw [up2_e, up2_e, up2_i _ _ _ (by decide), h]
theorem num2_q (fu : Nat) (hf : 1000 ≤ fu) {P Z K M : S32} (v : S64) {e nx lo hi : Nat} (h : ST P K M e nx) (hhi : hi ≤ 99999) (hlo : lo ≤ hi) {M0 : S32} (hl : LF M0 M) : (∃ Z' M', f_X7_takeNumber fu P Z K (nI lo) (nI hi) = some (0, Z', K) ∧ f_X12_number fu v M (nI lo) (nI hi) = some (0, M') ∧ FT2 Z' M0 M') ∨
    (∃ a K' M' nx', lo ≤ a ∧ a ≤ hi ∧ f_X7_takeNumber fu P Z K (nI lo) (nI hi) = some (1, up2 Z 0 5 (nI a), K') ∧ f_X12_number fu v M (nI lo) (nI hi) = some (1, M') ∧ ST P K' M' e nx' ∧ nx ≤ nx' ∧ FM (up2 M 0 11 (nI a)) M') := by
  obtain ⟨hT, h3, hr⟩ := h
  unfold f_X7_takeNumber f_X12_number f_X7_takeNumber_J39
  by_cases z : K 0 4 = 2
  · obtain ⟨a, b, ea, eb, ha, hb, hab⟩ := kn_num hr z
    rw [if_pos z, if_pos ((kn_q hr).2.1.mp z), ea, eb]
    by_cases y : lo ≤ a ∧ a ≤ hi
    · have e1 : a = b := by omega
      subst e1
      rw [if_neg (nI_nlt y.1 (by omega)), if_pos (nI_le y.2 (by omega)), isIn_t fu (nI_nlt y.1 (by omega)) (nI_nlt y.2 (by omega)), tx_b1_q, if_neg one_ne, tx_let_q, tx_let_q]
      have hT2 : TK P K (up2 M 0 11 (nI a)) e nx := by
        obtain ⟨t1, t2, t3, t4, t5, t6, t7⟩ := hT
        refine ⟨?_, fun j hj => by rw [up2_n _ _ _ (by decide)]; exact t2 j hj, t3, t4, t5, by rw [up2_i _ _ _ (by decide)]; exact t6, by rw [up2_i _ _ _ (by decide)]; exact t7⟩
        unfold tpR
        rw [up2_n _ _ _ (by decide)]
        exact t1
      obtain ⟨K', M', nx', g1, g2, g3, g4, g5, g6, g7, -⟩ := adv_q fu hf v hT2
      right
      rw [g1, g2, tx_b1_q, tx_b1_q]
      exact ⟨a, K', M', nx', y.1, y.2, rfl, rfl, ⟨g3, g4, g5⟩, g7, g6⟩
    · left
      obtain ⟨Z', M', c1, c2, c3⟩ := bl_q fu Z v h3 hl 2
      have i0 : f_X12_isIn fu (nI b) (nI lo) (nI hi) = some 0 := by
        refine isIn_f fu ?_
        by_cases w : b < lo
        · exact Or.inl (nI_lt w (by omega))
        · exact Or.inr (nI_lt (by omega) (by omega))
      rw [i0, tx_b1_q, if_pos rfl, c1, c2, tx_b2_q, tx_b2_q, tx_bz_0, tx_bz_0]
      refine ⟨Z', M', ?_, rfl, c3⟩
      by_cases w : a < lo
      · rw [if_pos (nI_lt w (by omega))]
      · rw [if_neg (nI_nlt (by omega) (by omega)), if_neg (nI_ge (by omega) (by omega))]
  · left
    obtain ⟨Z', M', c1, c2, c3⟩ := bl_q fu Z v h3 hl 1
    rw [if_neg z, if_neg (fun w => z ((kn_q hr).2.1.mpr w)), c1, c2, tx_b2_q, tx_b2_q, tx_bz_0, tx_bz_0]
    exact ⟨Z', M', rfl, rfl, c3⟩
/-- names are sought in both, the reference's in its upper half -/
theorem sk_3 (fu : Nat) {B M : S32} (v : S64) {np : Nat} (hn : np ≤ 6) (h : ∀ p, p < np → B 3 p = M 23 (6 + p)) (x : Int32) : ∀ m t n n', t + m = np → m < n → m < n' → (∃ p, p < np ∧ f_X0_placeOf_oX0r3_L2 fu B n (nI np) x (nI t) = some (nI p) ∧ f_X12_seek_oX12r23_L3 fu M v n' 6 (nI np) x (nI t) = some (nI p)) ∨ (f_X0_placeOf_oX0r3_L2 fu B n (nI np) x (nI t) = some (-1) ∧ f_X12_seek_oX12r23_L3 fu M v n' 6 (nI np) x (nI t) = some (-1)) := by
  intro m
  induction m with
  | zero =>
    intro t n n' ht h1 h2
    obtain ⟨n, rfl⟩ := pos_ex h1
    obtain ⟨n', rfl⟩ := pos_ex h2
    refine Or.inr ⟨?_, ?_⟩
    · show f_X0_placeOf_oX0r3_J2 _ _ _ _ _ _ = _
      unfold f_X0_placeOf_oX0r3_J2
      rw [if_pos (nI_le (by omega) (by omega))]
    · show f_X12_seek_oX12r23_J3 _ _ _ _ _ _ _ _ = _
      unfold f_X12_seek_oX12r23_J3
      rw [if_pos (nI_le (by omega) (by omega))]
  | succ m ih =>
    intro t n n' ht h1 h2
    obtain ⟨n, rfl⟩ := pos_ex h1
    obtain ⟨n', rfl⟩ := pos_ex h2
    have ih' := ih (t + 1) n n' (by omega) (by omega) (by omega)
    have e6 : (6 : Int32) + nI t = nI (6 + t) := nI_add 6 t
    show (∃ p, p < np ∧ f_X0_placeOf_oX0r3_J2 fu B (f_X0_placeOf_oX0r3_L2 fu B n) (nI np) x (nI t) = some (nI p) ∧ f_X12_seek_oX12r23_J3 fu M v (f_X12_seek_oX12r23_L3 fu M v n') 6 (nI np) x (nI t) = some (nI p)) ∨ (f_X0_placeOf_oX0r3_J2 fu B (f_X0_placeOf_oX0r3_L2 fu B n) (nI np) x (nI t) = some (-1) ∧ f_X12_seek_oX12r23_J3 fu M v (f_X12_seek_oX12r23_L3 fu M v n') 6 (nI np) x (nI t) = some (-1))
    unfold f_X0_placeOf_oX0r3_J2 f_X12_seek_oX12r23_J3
    rw [if_neg (ge_lit (t := t) (by omega) (by omega)), if_neg (ge6 (t := t) (by omega)), if_neg (ge_lit (t := t) (by omega) (by omega)), e6, tx_ck_q (j := t) (by omega) (by omega), tx_ck_q (j := 6 + t) (by omega) (by omega), nI_clamp (n := t) (by omega), nI_clamp (n := 6 + t) (by omega), h t (by omega)]
    by_cases c : M 23 (6 + t) = x
    · rw [if_pos c, if_pos c]; exact Or.inl ⟨t, by omega, rfl, rfl⟩
    · rw [if_neg c, if_neg c, tx_let_q, tx_let_q, nI_1]; exact ih'
theorem sk_12 (fu : Nat) {B M : S32} (v : S64) {np : Nat} (hn : np ≤ 4) (h : ∀ p, p < np → B 12 p = M 30 (4 + p)) (x : Int32) : ∀ m t n n', t + m = np → m < n → m < n' → (∃ p, p < np ∧ f_X0_placeOf_oX0r12_L2 fu B n (nI np) x (nI t) = some (nI p) ∧ f_X12_seek_oX12r30_L3 fu M v n' 4 (nI np) x (nI t) = some (nI p)) ∨ (f_X0_placeOf_oX0r12_L2 fu B n (nI np) x (nI t) = some (-1) ∧ f_X12_seek_oX12r30_L3 fu M v n' 4 (nI np) x (nI t) = some (-1)) := by
  intro m
  induction m with
  | zero =>
    intro t n n' ht h1 h2
    obtain ⟨n, rfl⟩ := pos_ex h1
    obtain ⟨n', rfl⟩ := pos_ex h2
    refine Or.inr ⟨?_, ?_⟩
    · show f_X0_placeOf_oX0r12_J2 _ _ _ _ _ _ = _
      unfold f_X0_placeOf_oX0r12_J2
      rw [if_pos (nI_le (by omega) (by omega))]
    · show f_X12_seek_oX12r30_J3 _ _ _ _ _ _ _ _ = _
      unfold f_X12_seek_oX12r30_J3
      rw [if_pos (nI_le (by omega) (by omega))]
  | succ m ih =>
    intro t n n' ht h1 h2
    obtain ⟨n, rfl⟩ := pos_ex h1
    obtain ⟨n', rfl⟩ := pos_ex h2
    have ih' := ih (t + 1) n n' (by omega) (by omega) (by omega)
    have e6 : (4 : Int32) + nI t = nI (4 + t) := nI_add 4 t
    show (∃ p, p < np ∧ f_X0_placeOf_oX0r12_J2 fu B (f_X0_placeOf_oX0r12_L2 fu B n) (nI np) x (nI t) = some (nI p) ∧ f_X12_seek_oX12r30_J3 fu M v (f_X12_seek_oX12r30_L3 fu M v n') 4 (nI np) x (nI t) = some (nI p)) ∨ (f_X0_placeOf_oX0r12_J2 fu B (f_X0_placeOf_oX0r12_L2 fu B n) (nI np) x (nI t) = some (-1) ∧ f_X12_seek_oX12r30_J3 fu M v (f_X12_seek_oX12r30_L3 fu M v n') 4 (nI np) x (nI t) = some (-1))
    unfold f_X0_placeOf_oX0r12_J2 f_X12_seek_oX12r30_J3
    rw [if_neg (ge_lit (t := t) (by omega) (by omega)), if_neg (ge4 (t := t) (by omega)), if_neg (ge_lit (t := t) (by omega) (by omega)), e6, tx_ck_q (j := t) (by omega) (by omega), tx_ck_q (j := 4 + t) (by omega) (by omega), nI_clamp (n := t) (by omega), nI_clamp (n := 4 + t) (by omega), h t (by omega)]
    by_cases c : M 30 (4 + t) = x
    · rw [if_pos c, if_pos c]; exact Or.inl ⟨t, by omega, rfl, rfl⟩
    · rw [if_neg c, if_neg c, tx_let_q, tx_let_q, nI_1]; exact ih'
