/-! a law worked out on either side -/
theorem up4_e (b : S64) (r i : Nat) (v : Int64) : (up4 b r i v) r i = v := by unfold up4 vp_updL; rw [if_pos rfl, if_pos rfl]
theorem up4_i (b : S64) (r : Nat) {i j : Nat} (v : Int64) (h : j ≠ i) : (up4 b r i v) r j = b r j := by unfold up4 vp_updL; rw [if_pos rfl, if_neg h]
theorem up4_n (b : S64) {r q : Nat} (i : Nat) (v : Int64) (h : q ≠ r) : (up4 b r i v) q = b q := by unfold up4; rw [if_neg h]
theorem val_0 (fu : Nat) (v : S64) {M : S32} {i : Nat} (hi : i < 64) (h : M 36 i = 0) : f_X12_valueOf fu v M (nI i) = some ((M 37 i).toInt64, M) := by
  unfold f_X12_valueOf
  have e := nI_clamp (n := i) (by omega)
  have c := fun k => tx_ck_q (β := Int64 × S32) (j := i) (n := 128) (by omega) (by omega) k
  rw [e, c, if_pos h, c]
theorem val_1 (fu : Nat) (v : S64) {M : S32} {i a : Nat} (hi : i < 64) (h : M 36 i = 1) (ha : a < 7) (h2 : M 37 i = nI a) : f_X12_valueOf fu v M (nI i) = some (v 47 a, M) := by
  unfold f_X12_valueOf
  have e := nI_clamp (n := i) (by omega)
  have c := fun k => tx_ck_q (β := Int64 × S32) (j := i) (n := 128) (by omega) (by omega) k
  rw [e, c, if_neg (by rw [h]; exact one_ne), c, if_pos h, c, h2, tx_ck_q ha (by omega), nI_clamp (by omega)]
theorem val_2 (fu : Nat) (v : S64) {M : S32} {i x : Nat} (hi : i < 64) (h : M 36 i = 2) (hx : x < 64) (h2 : M 37 i = nI x) : f_X12_valueOf fu v M (nI i) = some (if v 48 x = 0 then 1 else 0, M) := by
  unfold f_X12_valueOf
  have e := nI_clamp (n := i) (by omega)
  have c := fun k => tx_ck_q (β := Int64 × S32) (j := i) (n := 128) (by omega) (by omega) k
  rw [e, c, if_neg (by rw [h]; decide), c, if_neg (by rw [h]; decide), c, h2, tx_ck_q hx (by omega), tx_let_q, nI_clamp (by omega), c, if_pos h]
  simp only [lg_cmp_eq]
  by_cases e : v 48 x = 0
  · rw [if_pos e, if_pos e]
  · rw [if_neg e, if_neg e]
theorem val_b (fu : Nat) {v : S64} {M : S32} {i x y : Nat} (hi : i < 64) (hx : x < 64) (hy : y < 64) (h37 : M 37 i = nI x) (h38 : M 38 i = nI y) (h48 : M 0 48 = 0) (ha : inG (v 48 x)) (hb : inG (v 48 y)) : ∀ k, 3 ≤ k → k ≤ 14 → M 36 i = nI k → (∀ z, kv k (v 48 x) (v 48 y) = some z → f_X12_valueOf fu v M (nI i) = some (z, M)) ∧ (kv k (v 48 x) (v 48 y) = none → f_X12_valueOf fu v M (nI i) = some (0, up2 M 0 48 1)) := by
  intro k h1 h2 h36
  have hk : k = 3 ∨ k = 4 ∨ k = 5 ∨ k = 6 ∨ k = 7 ∨ k = 8 ∨ k = 9 ∨ k = 10 ∨ k = 11 ∨ k = 12 ∨ k = 13 ∨ k = 14 := by omega
  unfold f_X12_valueOf
  have e := nI_clamp (n := i) (by omega)
  have c := fun k => tx_ck_q (β := Int64 × S32) (j := i) (n := 128) (by omega) (by omega) k
  have k0 : ¬ nI k = (0 : Int32) := fun z => by have := (nI_eq (a := k) (b := 0) (by omega) (by omega)).mp z; omega
  have k1 : ¬ nI k = (1 : Int32) := fun z => by have := (nI_eq (a := k) (b := 1) (by omega) (by omega)).mp z; omega
  have k2 : ¬ nI k = (2 : Int32) := fun z => by have := (nI_eq (a := k) (b := 2) (by omega) (by omega)).mp z; omega
  rw [e, h36, h37, h38, c, if_neg k0, c, if_neg k1, c, tx_ck_q hx (by omega), tx_let_q, c, if_neg k2, c, tx_ck_q hy (by omega), tx_let_q, c, nI_clamp (n := x) (by omega), nI_clamp (n := y) (by omega)]
  simp only [lg_cmp_eq]
  generalize v 48 x = a at *
  generalize v 48 y = b at *
  rcases hk with rfl | rfl | rfl | rfl | rfl | rfl | rfl | rfl | rfl | rfl | rfl | rfl
  · have kq : kv 3 a b = some (if ¬ a = 0 ∧ ¬ b = 0 then 1 else 0) := rfl
    rw [if_pos (by decide)]
    rw [kq]
    refine ⟨fun z hz => ?_, fun hz => by cases hz⟩
    cases hz
    by_cases p : a = 0 <;> by_cases q : b = 0 <;> simp [p, q]
  · have kq : kv 4 a b = some (if a = 0 ∧ b = 0 then 0 else 1) := rfl
    rw [if_neg (by decide), if_pos (by decide)]
    rw [kq]
    refine ⟨fun z hz => ?_, fun hz => by cases hz⟩
    cases hz
    unfold f_X12_valueOf_J188
    by_cases p : a = 0 <;> by_cases q : b = 0 <;> simp [p, q]
  · have kq : kv 5 a b = some (if a < b then 1 else 0) := rfl
    rw [if_neg (by decide), if_neg (by decide), if_pos (by decide)]
    rw [kq]
    refine ⟨fun z hz => ?_, fun hz => by cases hz⟩
    cases hz
    unfold f_X12_valueOf_J259 f_X12_compares
    rw [c, e, h36]
    simp only [lg_cmp_ge, lg_cmp_le, lg_cmp_gt, lg_cmp_lt, lg_cmp_eq]
    rw [if_pos (by decide)]
    by_cases p : b ≤ a
    · rw [if_pos p, tx_b1_q]
      simp only [p, if_true, if_false, Int64.not_lt.mpr p, one_ne]
    · rw [if_neg p, tx_b1_q]
      simp only [p, if_true, if_false, Int64.not_le.mp p, one_ne]
  · have kq : kv 6 a b = some (if b < a then 0 else 1) := rfl
    rw [if_neg (by decide), if_neg (by decide), if_neg (by decide), if_pos (by decide)]
    rw [kq]
    refine ⟨fun z hz => ?_, fun hz => by cases hz⟩
    cases hz
    unfold f_X12_valueOf_J259 f_X12_compares
    rw [c, e, h36]
    simp only [lg_cmp_ge, lg_cmp_le, lg_cmp_gt, lg_cmp_lt, lg_cmp_eq]
    rw [if_neg (by decide), if_pos (by decide)]
    by_cases p : b < a
    · rw [if_pos p, tx_b1_q]
      simp only [p, if_true, if_false, one_ne]
    · rw [if_neg p, tx_b1_q]
      simp only [p, if_true, if_false, one_ne]
  · have kq : kv 7 a b = some (if a = b then 1 else 0) := rfl
    rw [if_neg (by decide), if_neg (by decide), if_neg (by decide), if_neg (by decide), if_pos (by decide)]
    rw [kq]
    refine ⟨fun z hz => ?_, fun hz => by cases hz⟩
    cases hz
    unfold f_X12_valueOf_J259 f_X12_compares
    rw [c, e, h36]
    simp only [lg_cmp_ge, lg_cmp_le, lg_cmp_gt, lg_cmp_lt, lg_cmp_eq]
    rw [if_neg (by decide), if_neg (by decide), if_pos (by decide)]
    by_cases p : a = b
    · rw [if_pos p, tx_b1_q]
      simp only [p, if_true, if_false, one_ne]
    · rw [if_neg p, tx_b1_q]
      simp only [p, if_true, if_false, one_ne]
  · have kq : kv 8 a b = some (if a = b then 0 else 1) := rfl
    rw [if_neg (by decide), if_neg (by decide), if_neg (by decide), if_neg (by decide), if_neg (by decide), if_pos (by decide)]
    rw [kq]
    refine ⟨fun z hz => ?_, fun hz => by cases hz⟩
    cases hz
    unfold f_X12_valueOf_J259 f_X12_compares
    rw [c, e, h36]
    simp only [lg_cmp_ge, lg_cmp_le, lg_cmp_gt, lg_cmp_lt, lg_cmp_eq]
    rw [if_neg (by decide), if_neg (by decide), if_neg (by decide), if_pos (by decide)]
    by_cases p : a = b
    · rw [if_pos p, tx_b1_q]
      simp only [p, if_true, if_false, one_ne]
    · rw [if_neg p, tx_b1_q]
      simp only [p, if_true, if_false, one_ne]
  · have kq : kv 9 a b = some (if a < b then 0 else 1) := rfl
    rw [if_neg (by decide), if_neg (by decide), if_neg (by decide), if_neg (by decide), if_neg (by decide), if_neg (by decide), if_pos (by decide)]
    rw [kq]
    refine ⟨fun z hz => ?_, fun hz => by cases hz⟩
    cases hz
    unfold f_X12_valueOf_J259 f_X12_compares
    rw [c, e, h36]
    simp only [lg_cmp_ge, lg_cmp_le, lg_cmp_gt, lg_cmp_lt, lg_cmp_eq]
    rw [if_neg (by decide), if_neg (by decide), if_neg (by decide), if_neg (by decide), if_pos (by decide)]
    by_cases p : a < b
    · rw [if_pos p, tx_b1_q]
      simp only [p, if_true, if_false, one_ne]
    · rw [if_neg p, tx_b1_q]
      simp only [p, if_true, if_false, one_ne]
  · have kq : kv 10 a b = some (if b < a then 1 else 0) := rfl
    rw [if_neg (by decide), if_neg (by decide), if_neg (by decide), if_neg (by decide), if_neg (by decide), if_neg (by decide), if_neg (by decide), if_pos (by decide)]
    rw [kq]
    refine ⟨fun z hz => ?_, fun hz => by cases hz⟩
    cases hz
    unfold f_X12_valueOf_J259 f_X12_compares
    rw [c, e, h36]
    simp only [lg_cmp_ge, lg_cmp_le, lg_cmp_gt, lg_cmp_lt, lg_cmp_eq]
    rw [if_neg (by decide), if_neg (by decide), if_neg (by decide), if_neg (by decide), if_neg (by decide)]
    by_cases p : a ≤ b
    · rw [if_pos p, tx_b1_q]
      simp only [p, if_true, if_false, Int64.not_lt.mpr p, one_ne]
    · rw [if_neg p, tx_b1_q]
      simp only [p, if_true, if_false, Int64.not_le.mp p, one_ne]
  · have kq : kv 11 a b = if (1000000000000 : Int64) < a + b ∨ a + b < (-1000000000000 : Int64) then none else some (a + b) := rfl
    rw [if_neg (by decide), if_neg (by decide), if_neg (by decide), if_neg (by decide), if_neg (by decide), if_neg (by decide), if_neg (by decide), if_neg (by decide), if_pos (by decide)]
    rw [kq, r_bound0 fu v h48]
    by_cases p : (1000000000000 : Int64) < a + b ∨ a + b < (-1000000000000 : Int64)
    · rw [if_pos p, if_pos p]
      exact ⟨fun z hz => (by cases hz), fun _ => rfl⟩
    · rw [if_neg p, if_neg p]
      exact ⟨fun z hz => by cases hz; rfl, fun hz => by cases hz⟩
  · have kq : kv 12 a b = if (1000000000000 : Int64) < a - b ∨ a - b < (-1000000000000 : Int64) then none else some (a - b) := rfl
    rw [if_neg (by decide), if_neg (by decide), if_neg (by decide), if_neg (by decide), if_neg (by decide), if_neg (by decide), if_neg (by decide), if_neg (by decide), if_neg (by decide), if_pos (by decide)]
    rw [kq, r_bound0 fu v h48]
    by_cases p : (1000000000000 : Int64) < a - b ∨ a - b < (-1000000000000 : Int64)
    · rw [if_pos p, if_pos p]
      exact ⟨fun z hz => (by cases hz), fun _ => rfl⟩
    · rw [if_neg p, if_neg p]
      exact ⟨fun z hz => by cases hz; rfl, fun hz => by cases hz⟩
  · have kq : kv 13 a b = if a.toInt.natAbs * b.toInt.natAbs ≤ 1000000000000 then some (a * b) else none := rfl
    rw [if_neg (by decide), if_neg (by decide), if_neg (by decide), if_neg (by decide), if_neg (by decide), if_neg (by decide), if_neg (by decide), if_neg (by decide), if_neg (by decide), if_neg (by decide), if_pos (by decide)]
    rw [kq, r_times0 fu v h48 ha hb]
    by_cases p : a.toInt.natAbs * b.toInt.natAbs ≤ 1000000000000
    · rw [if_pos p, if_pos p]
      exact ⟨fun z hz => by cases hz; rfl, fun hz => by cases hz⟩
    · rw [if_neg p, if_neg p]
      exact ⟨fun z hz => (by cases hz), fun _ => rfl⟩
  · have kq : kv 14 a b = if b = 0 then none else some (a / b) := rfl
    rw [if_neg (by decide), if_neg (by decide), if_neg (by decide), if_neg (by decide), if_neg (by decide), if_neg (by decide), if_neg (by decide), if_neg (by decide), if_neg (by decide), if_neg (by decide), if_neg (by decide), if_pos (by decide)]
    rw [kq, if_pos h48]
    unfold f_X12_valueOf_J235 f_X12_valueOf_J240
    simp only [tx_let_q, tx_bz_0, tx_bz_1, up2_e, up2_self M h48, if_neg one_ne, if_pos h48]
    unfold tx_nl
    by_cases p : b = 0
    · rw [if_pos p, if_pos p]
      exact ⟨fun z hz => (by cases hz), fun _ => rfl⟩
    · rw [if_neg p, if_neg p, if_neg p]
      exact ⟨fun z hz => by cases hz; rfl, fun hz => by cases hz⟩
theorem val_e (fu : Nat) (v : S64) {M : S32} {i x y : Nat} (hi : i < 64) (hx : x < 64) (hy : y < 64) (h37 : M 37 i = nI x) (h38 : M 38 i = nI y) (h48 : M 0 48 = 1) : ∀ k, 3 ≤ k → k ≤ 14 → M 36 i = nI k → ∃ z, f_X12_valueOf fu v M (nI i) = some (z, M) := by
  intro k h1 h2 h36
  have hk : k = 3 ∨ k = 4 ∨ k = 5 ∨ k = 6 ∨ k = 7 ∨ k = 8 ∨ k = 9 ∨ k = 10 ∨ k = 11 ∨ k = 12 ∨ k = 13 ∨ k = 14 := by omega
  unfold f_X12_valueOf
  have e := nI_clamp (n := i) (by omega)
  have c := fun k => tx_ck_q (β := Int64 × S32) (j := i) (n := 128) (by omega) (by omega) k
  have k0 : ¬ nI k = (0 : Int32) := fun z => by have := (nI_eq (a := k) (b := 0) (by omega) (by omega)).mp z; omega
  have k1 : ¬ nI k = (1 : Int32) := fun z => by have := (nI_eq (a := k) (b := 1) (by omega) (by omega)).mp z; omega
  have k2 : ¬ nI k = (2 : Int32) := fun z => by have := (nI_eq (a := k) (b := 2) (by omega) (by omega)).mp z; omega
  rw [e, h36, h37, h38, c, if_neg k0, c, if_neg k1, c, tx_ck_q hx (by omega), tx_let_q, c, if_neg k2, c, tx_ck_q hy (by omega), tx_let_q, c, nI_clamp (n := x) (by omega), nI_clamp (n := y) (by omega)]
  simp only [lg_cmp_eq]
  have h0 : ¬ M 0 48 = 0 := by rw [h48]; exact one_ne
  obtain ⟨cc, hc⟩ : ∃ cc, f_X12_compares fu (nI k) (v 48 x) (v 48 y) = some cc := by
    unfold f_X12_compares
    repeat (first | exact ⟨_, rfl⟩ | split)
  have hcc : f_X12_valueOf_J259 fu v M (nI i) (v 48 x) (v 48 y) = some (if cc = 0 then 0 else 1, M) := by
    unfold f_X12_valueOf_J259
    rw [c, e, h36, hc, tx_b1_q]
    by_cases e : cc = 0
    · rw [if_pos e, if_pos e]
    · rw [if_neg e, if_neg e]
  generalize v 48 x = a at *
  generalize v 48 y = b at *
  rcases hk with rfl | rfl | rfl | rfl | rfl | rfl | rfl | rfl | rfl | rfl | rfl | rfl
  · rw [if_pos (by decide)]
    repeat (first | exact ⟨_, rfl⟩ | split)
  · rw [if_neg (by decide), if_pos (by decide)]
    unfold f_X12_valueOf_J188
    repeat (first | exact ⟨_, rfl⟩ | split)
  · rw [if_neg (by decide), if_neg (by decide), if_pos (by decide)]
    exact ⟨_, hcc⟩
  · rw [if_neg (by decide), if_neg (by decide), if_neg (by decide), if_pos (by decide)]
    exact ⟨_, hcc⟩
  · rw [if_neg (by decide), if_neg (by decide), if_neg (by decide), if_neg (by decide), if_pos (by decide)]
    exact ⟨_, hcc⟩
  · rw [if_neg (by decide), if_neg (by decide), if_neg (by decide), if_neg (by decide), if_neg (by decide), if_pos (by decide)]
    exact ⟨_, hcc⟩
  · rw [if_neg (by decide), if_neg (by decide), if_neg (by decide), if_neg (by decide), if_neg (by decide), if_neg (by decide), if_pos (by decide)]
    exact ⟨_, hcc⟩
  · rw [if_neg (by decide), if_neg (by decide), if_neg (by decide), if_neg (by decide), if_neg (by decide), if_neg (by decide), if_neg (by decide), if_pos (by decide)]
    exact ⟨_, hcc⟩
  · rw [if_neg (by decide), if_neg (by decide), if_neg (by decide), if_neg (by decide), if_neg (by decide), if_neg (by decide), if_neg (by decide), if_neg (by decide), if_pos (by decide)]
    rw [r_bound1 fu v h48]
    exact ⟨_, rfl⟩
  · rw [if_neg (by decide), if_neg (by decide), if_neg (by decide), if_neg (by decide), if_neg (by decide), if_neg (by decide), if_neg (by decide), if_neg (by decide), if_neg (by decide), if_pos (by decide)]
    rw [r_bound1 fu v h48]
    exact ⟨_, rfl⟩
  · rw [if_neg (by decide), if_neg (by decide), if_neg (by decide), if_neg (by decide), if_neg (by decide), if_neg (by decide), if_neg (by decide), if_neg (by decide), if_neg (by decide), if_neg (by decide), if_pos (by decide)]
    obtain ⟨z, hz⟩ := r_times1 fu v h48 a b
    rw [hz]
    exact ⟨_, rfl⟩
  · rw [if_neg (by decide), if_neg (by decide), if_neg (by decide), if_neg (by decide), if_neg (by decide), if_neg (by decide), if_neg (by decide), if_neg (by decide), if_neg (by decide), if_neg (by decide), if_neg (by decide), if_pos (by decide)]
    rw [if_neg h0]
    unfold f_X12_valueOf_J235 f_X12_valueOf_J240
    simp only [tx_let_q, tx_bz_0, tx_bz_1, up2_e, up2_self M h48, if_neg one_ne, if_neg h0]
    exact ⟨_, rfl⟩
