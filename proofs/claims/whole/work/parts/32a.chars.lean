/-! signs of a text in both -/
def tpR (P M : S32) (e : Nat) : Prop := e ≤ 700 ∧ ∀ j, j < e → ∃ a, a ≤ 255 ∧ M 1 j = nI a ∧ P 1 j = (nI a).toInt8.toInt32
set_option maxRecDepth 100000 in
theorem chv1 {a : Nat} (h : a < 128) : (nI a).toInt8.toInt32 = nI a := by
  have : ∀ a : Fin 128, (nI a.1).toInt8.toInt32 = nI a.1 := by decide
  exact this ⟨a, h⟩
set_option maxRecDepth 100000 in
theorem chv2 {a : Nat} (h1 : 128 ≤ a) (h2 : a ≤ 255) : (nI a).toInt8.toInt32 < 0 := by
  have : ∀ a : Fin 128, (nI (128 + a.1)).toInt8.toInt32 < 0 := by decide
  have e := this ⟨a - 128, by omega⟩
  rw [show 128 + (a - 128) = a by omega] at e
  exact e
/-- the class's sign is the reference's, or below 0 -/
theorem ch_q {P M : S32} {e j : Nat} (h : tpR P M e) (hj : j < e) : ∃ a, a ≤ 255 ∧ M 1 j = nI a ∧ ((a < 128 ∧ P 1 j = nI a) ∨ (128 ≤ a ∧ P 1 j < 0)) := by
  obtain ⟨a, ha, h1, h2⟩ := h.2 j hj
  refine ⟨a, ha, h1, ?_⟩
  by_cases z : a < 128
  · exact Or.inl ⟨z, by rw [h2, chv1 z]⟩
  · exact Or.inr ⟨by omega, by rw [h2]; exact chv2 (by omega) ha⟩
theorem ch_eq {P M : S32} {e j a : Nat} (h : tpR P M e) (hj : j < e) (hM : M 1 j = nI a) (ha : a < 128) : P 1 j = nI a := by
  obtain ⟨b, hb, h1, h2⟩ := ch_q h hj
  have : a = b := (nI_eq (by omega) (by omega)).mp (hM.symm.trans h1)
  subst this
  rcases h2 with ⟨-, h2⟩ | ⟨h2, -⟩
  · exact h2
  · omega
/-- a test for one sign gives the same in both -/
theorem ch_is {P M : S32} {e j : Nat} (h : tpR P M e) (hj : j < e) {c : Nat} (hc : c < 128) : P 1 j = nI c ↔ M 1 j = nI c := by
  obtain ⟨a, ha, h1, h2⟩ := ch_q h hj
  rw [h1]
  rcases h2 with ⟨h2, h3⟩ | ⟨h2, h3⟩
  · rw [h3]
  · constructor
    · intro z
      rw [z] at h3
      exact absurd h3 (nI_pos (by omega))
    · intro z
      have := (nI_eq (by omega) (by omega)).mp z
      omega
theorem sg_in (fu : Nat) {P K M : S32} {e j : Nat} (h : tpR P M e) (hK : K 0 1 = nI e) (hj : j < e) : f_X8_signAt fu K P (nI j) = some (P 1 j) := by
  have := h.1
  unfold f_X8_signAt
  rw [if_neg (nI_pos (n := j) (by omega)), hK, if_neg (nI_ge hj (by omega)), if_neg (show ¬ (700 : Int32) ≤ nI j from nI_ge (b := 700) (by omega) (by omega)), tx_ck_q (j := j) (by omega) (by omega), nI_clamp (n := j) (by omega)]
theorem sg_out (fu : Nat) (P : S32) {K : S32} {e j : Nat} (he : e ≤ 700) (hK : K 0 1 = nI e) (hj : e ≤ j) (hj2 : j ≤ 1000) : f_X8_signAt fu K P (nI j) = some 0 := by
  unfold f_X8_signAt
  rw [if_neg (nI_pos (n := j) (by omega)), hK, if_pos (nI_le hj (by omega))]
theorem nI_ltL {x c : Int32} {a n : Nat} (hx : x = nI a) (hc : c = nI n) (ha : a < 2 ^ 31) (hn : n < 2 ^ 31) : x < c ↔ a < n := by
  subst hx
  subst hc
  exact nI_ltI ha hn
theorem bet_q {P M : S32} {e j lo hi : Nat} (h : tpR P M e) (hj : j < e) (hlo : lo ≤ 127) (hhi : hi < 128) {a : Nat} (hM : M 1 j = nI a) (ha : a ≤ 255) : ((P 1 j < nI lo ↔ ¬ lo ≤ a ∨ 128 ≤ a)) ∧ (lo ≤ a → a < 128 → (nI hi < P 1 j ↔ hi < a)) ∧ (M 1 j < nI lo ↔ ¬ lo ≤ a) ∧ (nI hi < M 1 j ↔ hi < a) := by
  obtain ⟨b, hb, h1, h2⟩ := ch_q h hj
  have eb : b = a := (nI_eq (by omega) (by omega)).mp (h1.symm.trans hM)
  subst eb
  refine ⟨?_, ?_, ?_, ?_⟩
  · rcases h2 with ⟨z, h2⟩ | ⟨z, h2⟩
    · rw [h2, nI_ltI (by omega) (by omega)]; omega
    · constructor
      · intro _; exact Or.inr z
      · intro _; exact Int32.lt_of_lt_of_le h2 (nI_pos' (by omega))
  · intro z1 z2
    rcases h2 with ⟨z, h2⟩ | ⟨z, h2⟩
    · rw [h2, nI_ltI (by omega) (by omega)]
    · omega
  · rw [hM, nI_ltI (by omega) (by omega)]; omega
  · rw [hM, nI_ltI (by omega) (by omega)]
theorem let_q (fu : Nat) {P M : S32} (v : S64) {e j a : Nat} (h : tpR P M e) (h6 : M 0 6 = nI e) (hj : j < e) (hM : M 1 j = nI a) (ha : a ≤ 255) : f_X8_isLetter fu (P 1 j) = some (if 97 ≤ a ∧ a ≤ 122 then 1 else 0) ∧ f_X12_isSmall fu M v (nI j) = some (if 97 ≤ a ∧ a ≤ 122 then 1 else 0) := by
  have he := h.1
  obtain ⟨b1, b2, b3, b4⟩ := bet_q h hj (lo := 97) (hi := 122) (by omega) (by omega) hM ha
  unfold f_X8_isLetter f_X12_isSmall
  rw [h6, if_neg (nI_ge hj (by omega)), tx_ck_q (j := j) (by omega) (by omega), tx_ck_q (j := j) (by omega) (by omega), nI_clamp (n := j) (by omega)]
  have e97 : (97 : Int32) = nI 97 := rfl
  have e122 : (122 : Int32) = nI 122 := rfl
  rw [e97, e122]
  by_cases z1 : 97 ≤ a
  · have n3 : ¬ M 1 j < nI 97 := fun z => b3.mp z z1
    rw [if_neg n3]
    by_cases z2 : a ≤ 122
    · have n1 : ¬ P 1 j < nI 97 := fun z => by
        rcases b1.mp z with w | w <;> omega
      have n2 : ¬ nI 122 < P 1 j := fun z => by
        have := (b2 z1 (by omega)).mp z
        omega
      have n4 : ¬ nI 122 < M 1 j := fun z => by
        have := b4.mp z
        omega
      rw [if_neg n1, if_neg n2, if_neg n4, if_pos ⟨z1, z2⟩]
      exact ⟨rfl, rfl⟩
    · have y4 : nI 122 < M 1 j := b4.mpr (by omega)
      rw [if_pos y4, if_neg (show ¬ (97 ≤ a ∧ a ≤ 122) from fun z => z2 z.2)]
      refine ⟨?_, rfl⟩
      by_cases z3 : a < 128
      · rw [if_neg (fun z => by rcases b1.mp z with w | w <;> omega), if_pos ((b2 z1 z3).mpr (by omega))]
      · rw [if_pos (b1.mpr (Or.inr (by omega)))]
  · rw [if_pos (b1.mpr (Or.inl z1)), if_pos (b3.mpr z1), if_neg (fun z => z1 z.1)]
    exact ⟨rfl, rfl⟩
theorem dig_q (fu : Nat) {P M : S32} (v : S64) {e j a : Nat} (h : tpR P M e) (h6 : M 0 6 = nI e) (hj : j < e) (hM : M 1 j = nI a) (ha : a ≤ 255) : f_X8_isDigit fu (P 1 j) = some (if 48 ≤ a ∧ a ≤ 57 then 1 else 0) ∧ f_X12_isDigit fu M v (nI j) = some (if 48 ≤ a ∧ a ≤ 57 then 1 else 0) := by
  have he := h.1
  obtain ⟨b1, b2, b3, b4⟩ := bet_q h hj (lo := 48) (hi := 57) (by omega) (by omega) hM ha
  unfold f_X8_isDigit f_X12_isDigit
  rw [h6, if_neg (nI_ge hj (by omega)), tx_ck_q (j := j) (by omega) (by omega), tx_ck_q (j := j) (by omega) (by omega), nI_clamp (n := j) (by omega)]
  have e97 : (48 : Int32) = nI 48 := rfl
  have e122 : (57 : Int32) = nI 57 := rfl
  rw [e97, e122]
  by_cases z1 : 48 ≤ a
  · have n3 : ¬ M 1 j < nI 48 := fun z => b3.mp z z1
    rw [if_neg n3]
    by_cases z2 : a ≤ 57
    · have n1 : ¬ P 1 j < nI 48 := fun z => by
        rcases b1.mp z with w | w <;> omega
      have n2 : ¬ nI 57 < P 1 j := fun z => by
        have := (b2 z1 (by omega)).mp z
        omega
      have n4 : ¬ nI 57 < M 1 j := fun z => by
        have := b4.mp z
        omega
      rw [if_neg n1, if_neg n2, if_neg n4, if_pos ⟨z1, z2⟩]
      exact ⟨rfl, rfl⟩
    · have y4 : nI 57 < M 1 j := b4.mpr (by omega)
      rw [if_pos y4, if_neg (show ¬ (48 ≤ a ∧ a ≤ 57) from fun z => z2 z.2)]
      refine ⟨?_, rfl⟩
      by_cases z3 : a < 128
      · rw [if_neg (fun z => by rcases b1.mp z with w | w <;> omega), if_pos ((b2 z1 z3).mpr (by omega))]
      · rw [if_pos (b1.mpr (Or.inr (by omega)))]
  · rw [if_pos (b1.mpr (Or.inl z1)), if_pos (b3.mpr z1), if_neg (fun z => z1 z.1)]
    exact ⟨rfl, rfl⟩
theorem let_e (fu : Nat) {M : S32} (v : S64) {e j : Nat} (h6 : M 0 6 = nI e) (he : e ≤ 700) (hj : e ≤ j) (hj2 : j ≤ 1000) : f_X12_isSmall fu M v (nI j) = some 0 ∧ f_X12_isDigit fu M v (nI j) = some 0 := by
  unfold f_X12_isSmall f_X12_isDigit
  rw [h6, if_pos (nI_le hj (by omega)), if_pos (nI_le hj (by omega))]
  exact ⟨rfl, rfl⟩
/-- what a token changes of the reference -/
def FM (M M' : S32) : Prop := (∀ r, r ≠ 0 → M' r = M r) ∧ ∀ i, i ≠ 7 → i ≠ 8 → i ≠ 9 → i ≠ 10 → M' 0 i = M 0 i
theorem FM.refl (M : S32) : FM M M := ⟨fun _ _ => rfl, fun _ _ _ _ _ => rfl⟩
theorem FM.trans {M M' M'' : S32} (h : FM M M') (h2 : FM M' M'') : FM M M'' := ⟨fun r a => (h2.1 r a).trans (h.1 r a), fun i a b c d => (h2.2 i a b c d).trans (h.2 i a b c d)⟩
theorem FM.up {M M' : S32} (h : FM M M') {i : Nat} (v : Int32) (hi : i = 7 ∨ i = 8 ∨ i = 9 ∨ i = 10) : FM M (up2 M' 0 i v) := ⟨fun r a => (up2_n _ _ _ a).trans (h.1 r a), fun j a b c d => (up2_i _ _ _ (by omega)).trans (h.2 j a b c d)⟩
theorem tpR.fm {P M M' : S32} {e : Nat} (h : tpR P M e) (hf : FM M M') : tpR P M' e := by
  unfold tpR
  rw [hf.1 1 (by decide)]
  exact h
/-- white signs are passed over -/
theorem skip_q (fu : Nat) {P : S32} (v : S64) {e : Nat} : ∀ m nx K M n n', nx + m = e → m < n → m < n' → tpR P M e → K 0 1 = nI e → K 0 2 = nI nx → M 0 6 = nI e → M 0 7 = nI nx → ∃ nx', nx ≤ nx' ∧ nx' ≤ e ∧ f_X8_advance_L0 fu P n K = f_X8_advance_J50 fu P (up2 K 0 2 (nI nx')) ∧ f_X12_token_L0 fu v n' M = f_X12_token_J52 fu v (up2 M 0 7 (nI nx')) := by
  intro m
  induction m with
  | zero =>
    intro nx K M n n' hm hn hn' hT k1 k2 m6 m7
    obtain ⟨n, rfl⟩ := pos_ex hn
    obtain ⟨n', rfl⟩ := pos_ex hn'
    have he := hT.1
    refine ⟨nx, Nat.le_refl _, by omega, ?_, ?_⟩
    · rw [up2_self K k2]
      show f_X8_advance_J0 _ _ _ _ = _
      unfold f_X8_advance_J0
      rw [k1, k2, if_pos (nI_le (by omega) (by omega))]
    · rw [up2_self M m7]
      show f_X12_token_J0 _ _ _ _ = _
      unfold f_X12_token_J0
      rw [m6, m7, if_pos (nI_le (by omega) (by omega))]
  | succ m ih =>
    intro nx K M n n' hm hn hn' hT k1 k2 m6 m7
    obtain ⟨n, rfl⟩ := pos_ex hn
    obtain ⟨n', rfl⟩ := pos_ex hn'
    have he := hT.1
    have hlt : nx < e := by omega
    have c10 := ch_is hT hlt (c := 10) (by omega)
    have c32 := ch_is hT hlt (c := 32) (by omega)
    have C : f_X8_advance_L0 fu P (n + 1) K = if P 1 nx = nI 10 then f_X8_advance_J37 fu P (f_X8_advance_L0 fu P n) K else if P 1 nx = nI 32 then f_X8_advance_J37 fu P (f_X8_advance_L0 fu P n) K else f_X8_advance_J50 fu P K := by
      show f_X8_advance_J0 _ _ _ _ = _
      unfold f_X8_advance_J0
      rw [k1, k2, if_neg (nI_ge hlt (by omega)), sg_in fu hT k1 hlt, tx_b1_q, tx_b1_q]
      rfl
    have R : f_X12_token_L0 fu v (n' + 1) M = if M 1 nx = nI 10 then f_X12_token_J39 fu v (f_X12_token_L0 fu v n') M else if M 1 nx = nI 32 then f_X12_token_J39 fu v (f_X12_token_L0 fu v n') M else f_X12_token_J52 fu v M := by
      show f_X12_token_J0 _ _ _ _ = _
      unfold f_X12_token_J0
      rw [m6, m7, if_neg (nI_ge hlt (by omega)), tx_ck_q (j := nx) (by omega) (by omega), tx_ck_q (j := nx) (by omega) (by omega), nI_clamp (n := nx) (by omega)]
      rfl
    have go : ∃ nx', nx ≤ nx' ∧ nx' ≤ e ∧ f_X8_advance_J37 fu P (f_X8_advance_L0 fu P n) K = f_X8_advance_J50 fu P (up2 K 0 2 (nI nx')) ∧ f_X12_token_J39 fu v (f_X12_token_L0 fu v n') M = f_X12_token_J52 fu v (up2 M 0 7 (nI nx')) := by
      obtain ⟨nx', g1, g2, g3, g4⟩ := ih (nx + 1) (up2 K 0 2 (nI (nx + 1))) (up2 M 0 7 (nI (nx + 1))) n n' (by omega) (by omega) (by omega) (hT.fm ((FM.refl M).up _ (by omega))) (by rw [up2_i _ _ _ (by decide)]; exact k1) (up2_e _ _ _ _) (by rw [up2_i _ _ _ (by decide)]; exact m6) (up2_e _ _ _ _)
      rw [up2_up2] at g3 g4
      refine ⟨nx', by omega, g2, ?_, ?_⟩
      · unfold f_X8_advance_J37
        rw [tx_let_q, k2, nI_1, g3]
      · unfold f_X12_token_J39
        rw [tx_let_q, m7, nI_1, g4]
    rw [C, R]
    by_cases z1 : M 1 nx = nI 10
    · rw [if_pos z1, if_pos (c10.mpr z1)]; exact go
    · rw [if_neg z1, if_neg (fun z => z1 (c10.mp z))]
      by_cases z2 : M 1 nx = nI 32
      · rw [if_pos z2, if_pos (c32.mpr z2)]; exact go
      · rw [if_neg z2, if_neg (fun z => z2 (c32.mp z))]
        exact ⟨nx, Nat.le_refl _, by omega, by rw [up2_self K k2], by rw [up2_self M m7]⟩
/-- a number so far -/
def nmR (x y : Int32) : Prop := ∃ a b, x = nI a ∧ y = nI b ∧ a ≤ 9999999 ∧ b ≤ 999999 ∧ (a = b ∨ (99999 < a ∧ 99999 < b))
theorem num_q (fu : Nat) {P : S32} (v : S64) {e : Nat} : ∀ m nx K M n n', nx + m = e → m < n → m < n' → tpR P M e → K 0 1 = nI e → K 0 2 = nI nx → M 0 6 = nI e → M 0 7 = nI nx → nmR (K 0 5) (M 0 9) → ∃ K' M' nx', f_X8_takeNumber_L10 fu P n K = some K' ∧ f_X12_token_L213 fu v n' M = some M' ∧ nx ≤ nx' ∧ nx' ≤ e ∧ K' 0 1 = nI e ∧ K' 0 2 = nI nx' ∧ K' 0 3 = K 0 3 ∧ K' 0 4 = K 0 4 ∧ M' 0 7 = nI nx' ∧ M' 0 8 = M 0 8 ∧ M' 0 10 = M 0 10 ∧ nmR (K' 0 5) (M' 0 9) ∧ FM M M' ∧ (∀ c, nx < e → M 1 nx = nI c → 48 ≤ c → c ≤ 57 → nx < nx') := by
  intro m
  induction m with
  | zero =>
    intro nx K M n n' hm hn hn' hT k1 k2 m6 m7 hr
    obtain ⟨n, rfl⟩ := pos_ex hn
    obtain ⟨n', rfl⟩ := pos_ex hn'
    have he := hT.1
    refine ⟨K, M, nx, ?_, ?_, Nat.le_refl _, by omega, k1, k2, rfl, rfl, m7, rfl, rfl, hr, FM.refl _, fun c w => absurd w (by omega)⟩
    · show f_X8_takeNumber_J10 _ _ _ _ = _
      unfold f_X8_takeNumber_J10
      rw [k1, k2, if_pos (nI_le (by omega) (by omega))]
    · show f_X12_token_J213 _ _ _ _ = _
      unfold f_X12_token_J213
      rw [m7, (let_e fu v m6 he (show e ≤ nx by omega) (by omega)).2, tx_b1_q, if_pos rfl]
  | succ m ih =>
    intro nx K M n n' hm hn hn' hT k1 k2 m6 m7 hr
    obtain ⟨n, rfl⟩ := pos_ex hn
    obtain ⟨n', rfl⟩ := pos_ex hn'
    have he := hT.1
    have hlt : nx < e := by omega
    obtain ⟨c, hc, hM1, hP1⟩ := ch_q hT hlt
    obtain ⟨d1, d2⟩ := dig_q fu v hT m6 hlt hM1 hc
    by_cases z : 48 ≤ c ∧ c ≤ 57
    · rw [if_pos z] at d1 d2
      have hP : P 1 nx = nI c := by
        rcases hP1 with ⟨-, h⟩ | ⟨h, -⟩
        · exact h
        · omega
      obtain ⟨a, b, ea, eb, ha, hb, hab⟩ := hr
      have st : ∀ x y, nmR x y → ∃ K' M' nx', f_X8_takeNumber_L10 fu P n (up2 (up2 K 0 5 x) 0 2 (nI (nx + 1))) = some K' ∧ f_X12_token_L213 fu v n' (up2 (up2 M 0 9 y) 0 7 (nI (nx + 1))) = some M' ∧ nx ≤ nx' ∧ nx' ≤ e ∧ K' 0 1 = nI e ∧ K' 0 2 = nI nx' ∧ K' 0 3 = K 0 3 ∧ K' 0 4 = K 0 4 ∧ M' 0 7 = nI nx' ∧ M' 0 8 = M 0 8 ∧ M' 0 10 = M 0 10 ∧ nmR (K' 0 5) (M' 0 9) ∧ FM M M' ∧ (∀ c, nx < e → M 1 nx = nI c → 48 ≤ c → c ≤ 57 → nx < nx') := by
        intro x y hxy
        have fm : FM M (up2 (up2 M 0 9 y) 0 7 (nI (nx + 1))) := ((FM.refl M).up y (by omega)).up _ (by omega)
        obtain ⟨K', M', nx', g1, g2, g3, g4, g5, g6, g7, g8, g9, g10, g11, g12, g13, -⟩ := ih (nx + 1) (up2 (up2 K 0 5 x) 0 2 (nI (nx + 1))) (up2 (up2 M 0 9 y) 0 7 (nI (nx + 1))) n n' (by omega) (by omega) (by omega) (hT.fm fm) (by rw [up2_i _ _ _ (by decide), up2_i _ _ _ (by decide)]; exact k1) (up2_e _ _ _ _) (by rw [up2_i _ _ _ (by decide), up2_i _ _ _ (by decide)]; exact m6) (up2_e _ _ _ _) (by rw [up2_i _ _ _ (by decide), up2_e, up2_i _ _ _ (by decide), up2_e]; exact hxy)
        refine ⟨K', M', nx', g1, g2, by omega, g4, g5, g6, ?_, ?_, g9, ?_, ?_, g12, fm.trans g13, fun _ _ _ _ _ => by omega⟩
        · rw [g7, up2_i _ _ _ (by decide), up2_i _ _ _ (by decide)]
        · rw [g8, up2_i _ _ _ (by decide), up2_i _ _ _ (by decide)]
        · rw [g10, up2_i _ _ _ (by decide), up2_i _ _ _ (by decide)]
        · rw [g11, up2_i _ _ _ (by decide), up2_i _ _ _ (by decide)]
      have C : f_X8_takeNumber_L10 fu P (n + 1) K = f_X8_takeNumber_L10 fu P n (up2 (up2 K 0 5 (if 1000000 ≤ a then nI a else nI (a * 10 + c - 48))) 0 2 (nI (nx + 1))) := by
        show f_X8_takeNumber_J10 _ _ _ _ = _
        unfold f_X8_takeNumber_J10 f_X8_takeNumber_J67
        rw [k1, k2, if_neg (nI_ge hlt (by omega)), sg_in fu hT k1 hlt, tx_b1_q, d1, tx_b1_q, if_neg one_ne, ea, tx_b1_q]
        by_cases w : 1000000 ≤ a
        · rw [if_pos (show (1000000 : Int32) ≤ nI a from nI_le (a := 1000000) w (by omega)), if_pos w, tx_let_q, nI_1, up2_self K ea]
        · rw [if_neg (show ¬ (1000000 : Int32) ≤ nI a from nI_ge (b := 1000000) (by omega) (by omega)), if_neg w, tx_let_q, tx_let_q, up2_i _ _ _ (show (2 : Nat) ≠ 5 by decide), k2, nI_1, hP, show (10 : Int32) = nI 10 from rfl, pk_mul, nI_add, show (48 : Int32) = nI 48 from rfl, pk_sub (by omega)]
      have R : f_X12_token_L213 fu v (n' + 1) M = f_X12_token_L213 fu v n' (up2 (up2 M 0 9 (if b ≤ 99999 then nI (10 * b + c - 48) else nI b)) 0 7 (nI (nx + 1))) := by
        show f_X12_token_J213 _ _ _ _ = _
        unfold f_X12_token_J213 f_X12_token_J261
        rw [m7, d2, tx_b1_q, if_neg one_ne, eb, tx_ck_q (j := nx) (by omega) (by omega), nI_clamp (n := nx) (by omega), hM1]
        by_cases w : b ≤ 99999
        · rw [if_pos (show nI b ≤ (99999 : Int32) from nI_le (b := 99999) w (by omega)), if_pos w, tx_let_q, tx_let_q, up2_i _ _ _ (show (7 : Nat) ≠ 9 by decide), m7, nI_1, show (10 : Int32) = nI 10 from rfl, pk_mul, nI_add, show (48 : Int32) = nI 48 from rfl, pk_sub (by omega)]
        · rw [if_neg (show ¬ nI b ≤ (99999 : Int32) from nI_ge (a := 99999) (by omega) (by omega)), if_neg w, tx_let_q, tx_let_q, up2_i _ _ _ (show (7 : Nat) ≠ 9 by decide), m7, nI_1]
      rw [C, R]
      apply st
      by_cases w : 1000000 ≤ a
      · rw [if_pos w]
        have hb9 : 99999 < b := by omega
        rw [if_neg (by omega)]
        exact ⟨a, b, rfl, rfl, ha, hb, hab⟩
      · rw [if_neg w]
        by_cases w2 : b ≤ 99999
        · rw [if_pos w2]
          refine ⟨_, _, rfl, rfl, by omega, by omega, ?_⟩
          left
          omega
        · rw [if_neg w2]
          refine ⟨_, _, rfl, rfl, by omega, hb, Or.inr ⟨?_, by omega⟩⟩
          omega
    · rw [if_neg z] at d1 d2
      refine ⟨K, M, nx, ?_, ?_, Nat.le_refl _, by omega, k1, k2, rfl, rfl, m7, rfl, rfl, hr, FM.refl _, fun c' _ w1 w2 w3 => ?_⟩
      · show f_X8_takeNumber_J10 _ _ _ _ = _
        unfold f_X8_takeNumber_J10
        rw [k1, k2, if_neg (nI_ge hlt (by omega)), sg_in fu hT k1 hlt, tx_b1_q, d1, tx_b1_q, if_pos rfl]
      · show f_X12_token_J213 _ _ _ _ = _
        unfold f_X12_token_J213
        rw [m7, d2, tx_b1_q, if_pos rfl]
      · exfalso
        have : c' = c := (nI_eq (by omega) (by omega)).mp (w1.symm.trans hM1)
        omega
