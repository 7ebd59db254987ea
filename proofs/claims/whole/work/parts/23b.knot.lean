/-! one knot on either side -/
theorem up2_self (b : S32) {r i : Nat} {x : Int32} (h : b r i = x) : up2 b r i x = b := by
  funext q j
  rw [up2_a]
  by_cases hq : q = r ∧ j = i
  · obtain ⟨rfl, rfl⟩ := hq
    rw [if_pos ⟨rfl, rfl⟩, h]
  · rw [if_neg hq]
theorem kv_c (fu : Nat) {a b : Int64} (ha : inG a) (hb : inG b) : ∀ k, 3 ≤ k → k ≤ 14 → ∃ r, (if knK (nI k) = (13 : Int32) then f_X5_product fu a b else f_X5_join fu (knK (nI k)) a b) = some r ∧ ((kv k a b = some r ∧ inG r) ∨ (kv k a b = none ∧ ¬ inG r)) := by
  intro k h1 h2
  have hk : k = 3 ∨ k = 4 ∨ k = 5 ∨ k = 6 ∨ k = 7 ∨ k = 8 ∨ k = 9 ∨ k = 10 ∨ k = 11 ∨ k = 12 ∨ k = 13 ∨ k = 14 := by omega
  rcases hk with rfl | rfl | rfl | rfl | rfl | rfl | rfl | rfl | rfl | rfl | rfl | rfl
  · rw [show knK (nI 3) = (3 : Int32) from by decide, if_neg (by decide)]
    unfold f_X5_join
    rw [if_neg (by decide), if_pos rfl]
    simp only [lg_cmp_ge, lg_cmp_le, lg_cmp_gt, lg_cmp_lt, lg_cmp_eq]
    have e : kv 3 a b = some (if ¬ a = 0 ∧ ¬ b = 0 then 1 else 0) := rfl
    by_cases p : a = 0
    · rw [if_pos p]
      rw [if_neg (fun z => z.1 p)] at e
      exact ⟨_, rfl, Or.inl ⟨e, kv_in ha e⟩⟩
    · rw [if_neg p]
      by_cases q : b = 0
      · rw [if_pos q]
        rw [if_neg (fun z => z.2 q)] at e
        exact ⟨_, rfl, Or.inl ⟨e, kv_in ha e⟩⟩
      · rw [if_neg q]
        rw [if_pos ⟨p, q⟩] at e
        exact ⟨_, rfl, Or.inl ⟨e, kv_in ha e⟩⟩
  · rw [show knK (nI 4) = (2 : Int32) from by decide, if_neg (by decide)]
    unfold f_X5_join
    rw [if_pos rfl]
    simp only [lg_cmp_ge, lg_cmp_le, lg_cmp_gt, lg_cmp_lt, lg_cmp_eq]
    unfold f_X5_join_J80
    have e : kv 4 a b = some (if a = 0 ∧ b = 0 then 0 else 1) := rfl
    by_cases p : a = 0
    · rw [if_pos p]
      by_cases q : b = 0
      · rw [if_pos q]
        rw [if_pos ⟨p, q⟩] at e
        exact ⟨_, rfl, Or.inl ⟨e, kv_in ha e⟩⟩
      · rw [if_neg q]
        rw [if_neg (fun z => q z.2)] at e
        exact ⟨_, rfl, Or.inl ⟨e, kv_in ha e⟩⟩
    · rw [if_neg p]
      rw [if_neg (fun z => p z.1)] at e
      exact ⟨_, rfl, Or.inl ⟨e, kv_in ha e⟩⟩
  · rw [show knK (nI 5) = (5 : Int32) from by decide, if_neg (by decide)]
    unfold f_X5_join
    rw [if_neg (by decide), if_neg (by decide), if_neg (by decide), if_pos rfl]
    simp only [lg_cmp_ge, lg_cmp_le, lg_cmp_gt, lg_cmp_lt, lg_cmp_eq]
    have e : kv 5 a b = some (if a < b then 1 else 0) := rfl
    by_cases p : b ≤ a
    · rw [if_pos p]
      rw [if_neg (Int64.not_lt.mpr p)] at e
      exact ⟨_, rfl, Or.inl ⟨e, kv_in ha e⟩⟩
    · rw [if_neg p]
      rw [if_pos (Int64.not_le.mp p)] at e
      exact ⟨_, rfl, Or.inl ⟨e, kv_in ha e⟩⟩
  · rw [show knK (nI 6) = (6 : Int32) from by decide, if_neg (by decide)]
    unfold f_X5_join
    rw [if_neg (by decide), if_neg (by decide), if_neg (by decide), if_neg (by decide), if_pos rfl]
    simp only [lg_cmp_ge, lg_cmp_le, lg_cmp_gt, lg_cmp_lt, lg_cmp_eq]
    have e : kv 6 a b = some (if b < a then 0 else 1) := rfl
    by_cases p : b < a
    · rw [if_pos p]
      rw [if_pos p] at e
      exact ⟨_, rfl, Or.inl ⟨e, kv_in ha e⟩⟩
    · rw [if_neg p]
      rw [if_neg p] at e
      exact ⟨_, rfl, Or.inl ⟨e, kv_in ha e⟩⟩
  · rw [show knK (nI 7) = (7 : Int32) from by decide, if_neg (by decide)]
    unfold f_X5_join
    rw [if_neg (by decide), if_neg (by decide), if_neg (by decide), if_neg (by decide), if_neg (by decide), if_pos rfl]
    simp only [lg_cmp_ge, lg_cmp_le, lg_cmp_gt, lg_cmp_lt, lg_cmp_eq]
    have e : kv 7 a b = some (if a = b then 1 else 0) := rfl
    by_cases p : a = b
    · rw [if_pos p]
      rw [if_pos p] at e
      exact ⟨_, rfl, Or.inl ⟨e, kv_in ha e⟩⟩
    · rw [if_neg p]
      rw [if_neg p] at e
      exact ⟨_, rfl, Or.inl ⟨e, kv_in ha e⟩⟩
  · rw [show knK (nI 8) = (8 : Int32) from by decide, if_neg (by decide)]
    unfold f_X5_join
    rw [if_neg (by decide), if_neg (by decide), if_neg (by decide), if_neg (by decide), if_neg (by decide), if_neg (by decide), if_pos rfl]
    simp only [lg_cmp_ge, lg_cmp_le, lg_cmp_gt, lg_cmp_lt, lg_cmp_eq]
    have e : kv 8 a b = some (if a = b then 0 else 1) := rfl
    by_cases p : a = b
    · rw [if_pos p]
      rw [if_pos p] at e
      exact ⟨_, rfl, Or.inl ⟨e, kv_in ha e⟩⟩
    · rw [if_neg p]
      rw [if_neg p] at e
      exact ⟨_, rfl, Or.inl ⟨e, kv_in ha e⟩⟩
  · rw [show knK (nI 9) = (9 : Int32) from by decide, if_neg (by decide)]
    unfold f_X5_join
    rw [if_neg (by decide), if_neg (by decide), if_neg (by decide), if_neg (by decide), if_neg (by decide), if_neg (by decide), if_neg (by decide), if_pos rfl]
    simp only [lg_cmp_ge, lg_cmp_le, lg_cmp_gt, lg_cmp_lt, lg_cmp_eq]
    have e : kv 9 a b = some (if a < b then 0 else 1) := rfl
    by_cases p : a < b
    · rw [if_pos p]
      rw [if_pos p] at e
      exact ⟨_, rfl, Or.inl ⟨e, kv_in ha e⟩⟩
    · rw [if_neg p]
      rw [if_neg p] at e
      exact ⟨_, rfl, Or.inl ⟨e, kv_in ha e⟩⟩
  · rw [show knK (nI 10) = (10 : Int32) from by decide, if_neg (by decide)]
    unfold f_X5_join
    rw [if_neg (by decide), if_neg (by decide), if_neg (by decide), if_neg (by decide), if_neg (by decide), if_neg (by decide), if_neg (by decide), if_neg (by decide), if_pos rfl]
    simp only [lg_cmp_ge, lg_cmp_le, lg_cmp_gt, lg_cmp_lt, lg_cmp_eq]
    have e : kv 10 a b = some (if b < a then 1 else 0) := rfl
    by_cases p : a ≤ b
    · rw [if_pos p]
      rw [if_neg (Int64.not_lt.mpr p)] at e
      exact ⟨_, rfl, Or.inl ⟨e, kv_in ha e⟩⟩
    · rw [if_neg p]
      rw [if_pos (Int64.not_le.mp p)] at e
      exact ⟨_, rfl, Or.inl ⟨e, kv_in ha e⟩⟩
  · rw [show knK (nI 11) = (11 : Int32) from by decide, if_neg (by decide)]
    unfold f_X5_join
    rw [if_neg (by decide), if_neg (by decide), if_neg (by decide), if_neg (by decide), if_neg (by decide), if_neg (by decide), if_neg (by decide), if_neg (by decide), if_neg (by decide), if_pos rfl]
    refine ⟨_, rfl, ?_⟩
    have e : kv 11 a b = if (1000000000000 : Int64) < a + b ∨ a + b < (-1000000000000 : Int64) then none else some (a + b) := rfl
    by_cases p : (1000000000000 : Int64) < a + b ∨ a + b < (-1000000000000 : Int64)
    · rw [if_pos p] at e
      refine Or.inr ⟨e, fun z => ?_⟩
      have z2 := q_inG.mp z
      rcases p with p | p
      · exact z2.1 p
      · exact z2.2 p
    · rw [if_neg p] at e
      exact Or.inl ⟨e, kv_in ha e⟩
  · rw [show knK (nI 12) = (12 : Int32) from by decide, if_neg (by decide)]
    unfold f_X5_join
    rw [if_neg (by decide), if_neg (by decide), if_neg (by decide), if_neg (by decide), if_neg (by decide), if_neg (by decide), if_neg (by decide), if_neg (by decide), if_neg (by decide), if_neg (by decide), if_pos rfl]
    refine ⟨_, rfl, ?_⟩
    have e : kv 12 a b = if (1000000000000 : Int64) < a - b ∨ a - b < (-1000000000000 : Int64) then none else some (a - b) := rfl
    by_cases p : (1000000000000 : Int64) < a - b ∨ a - b < (-1000000000000 : Int64)
    · rw [if_pos p] at e
      refine Or.inr ⟨e, fun z => ?_⟩
      have z2 := q_inG.mp z
      rcases p with p | p
      · exact z2.1 p
      · exact z2.2 p
    · rw [if_neg p] at e
      exact Or.inl ⟨e, kv_in ha e⟩
  · rw [show knK (nI 13) = (13 : Int32) from by decide, if_pos rfl, c_prod fu ha hb]
    refine ⟨_, rfl, ?_⟩
    have e : kv 13 a b = if a.toInt.natAbs * b.toInt.natAbs ≤ 1000000000000 then some (a * b) else none := rfl
    by_cases h : a.toInt.natAbs * b.toInt.natAbs ≤ 1000000000000
    · rw [if_pos h] at e ⊢
      exact Or.inl ⟨e, kv_in ha e⟩
    · rw [if_neg h] at e ⊢
      exact Or.inr ⟨e, q_minN⟩
  · rw [show knK (nI 14) = (14 : Int32) from by decide, if_neg (by decide)]
    unfold f_X5_join
    rw [if_neg (by decide), if_neg (by decide), if_neg (by decide), if_neg (by decide), if_neg (by decide), if_neg (by decide), if_neg (by decide), if_neg (by decide), if_neg (by decide), if_neg (by decide), if_neg (by decide), if_neg (by decide), if_pos rfl]
    simp only [lg_cmp_ge, lg_cmp_le, lg_cmp_gt, lg_cmp_lt, lg_cmp_eq]
    unfold tx_nl
    have e : kv 14 a b = if b = 0 then none else some (a / b) := rfl
    by_cases p : b = 0
    · rw [if_pos p]
      rw [if_pos p] at e
      exact ⟨_, rfl, Or.inr ⟨e, q_minN⟩⟩
    · rw [if_neg p, if_neg p]
      rw [if_neg p] at e
      exact ⟨_, rfl, Or.inl ⟨e, kv_in ha e⟩⟩
theorem r_bound0 (fu : Nat) (v : S64) {M : S32} (h : M 0 48 = 0) (x : Int64) : f_X12_bounded fu v M x = if (1000000000000 : Int64) < x ∨ x < (-1000000000000 : Int64) then some (0, up2 M 0 48 1) else some (x, M) := by
  unfold f_X12_bounded f_X12_bounded_J24 f_X12_bounded_J29
  simp only [lg_cmp_ge, lg_cmp_le, lg_cmp_gt, lg_cmp_lt, lg_cmp_eq, tx_let_q, tx_bz_0, tx_bz_1, up2_e, up2_self M h]
  rw [if_pos h, if_neg one_ne, if_pos h]
  by_cases p : (1000000000000 : Int64) < x
  · rw [if_pos p, if_pos (Or.inl p)]
  · rw [if_neg p]
    by_cases q : (-1000000000000 : Int64) ≤ x
    · rw [if_pos q, if_neg (fun z => z.elim p (Int64.not_lt.mpr q))]
    · rw [if_neg q, if_pos (Or.inr (Int64.not_le.mp q))]
theorem r_bound1 (fu : Nat) (v : S64) {M : S32} (h : M 0 48 = 1) (x : Int64) : f_X12_bounded fu v M x = some (0, M) := by
  unfold f_X12_bounded f_X12_bounded_J24 f_X12_bounded_J29
  simp only [tx_let_q, tx_bz_0, tx_bz_1, up2_e, up2_self M h]
  rw [if_neg (by rw [h]; exact one_ne), h, if_neg one_ne]
theorem r_times1 (fu : Nat) (v : S64) {M : S32} (h : M 0 48 = 1) (a b : Int64) : ∃ z, f_X12_times fu v M a b = some (z, M) := by
  have h0 : ¬ M 0 48 = 0 := by rw [h]; exact one_ne
  have hn : ¬ a = 0 → ¬ -a = 0 := by
    intro z e
    have e2 := congrArg Neg.neg e
    rw [Int64.neg_neg] at e2
    exact z e2
  unfold f_X12_times f_X12_times_J24 f_X12_times_J39 f_X12_times_J48 f_X12_times_J49 f_X12_times_J64 f_X12_times_J69
  simp only [lg_cmp_ge, lg_cmp_le, lg_cmp_gt, lg_cmp_lt, lg_cmp_eq, tx_let_q, tx_bz_0, tx_bz_1, up2_e, up2_self M h, if_neg h0, if_neg one_ne]
  by_cases p : a = 0
  · rw [if_pos p]; exact ⟨_, rfl⟩
  · rw [if_neg p]
    by_cases q : b = 0
    · rw [if_pos q]; exact ⟨_, rfl⟩
    · rw [if_neg q]
      refine ⟨0, ?_⟩
      simp only [tx_nl, if_neg p, if_neg (hn p), ite_self]
theorem r_times0 (fu : Nat) (v : S64) {M : S32} (h : M 0 48 = 0) {a b : Int64} (ha : inG a) (hb : inG b) : f_X12_times fu v M a b = if a.toInt.natAbs * b.toInt.natAbs ≤ 1000000000000 then some (a * b, M) else some (0, up2 M 0 48 1) := by
  have hG : inG (1000000000000 : Int64) := by unfold inG; rw [q_G]; omega
  unfold f_X12_times f_X12_times_J24 f_X12_times_J39 f_X12_times_J48 f_X12_times_J49 f_X12_times_J64 f_X12_times_J69
  simp only [lg_cmp_ge, lg_cmp_le, lg_cmp_gt, lg_cmp_lt, lg_cmp_eq, tx_let_q, tx_bz_0, tx_bz_1, up2_e, up2_self M h, if_pos h, if_neg one_ne, if_true]
  by_cases p : a = 0
  · rw [if_pos p, if_pos]
    subst p
    rw [q_0, Int.natAbs_zero, Nat.zero_mul]; omega
  rw [if_neg p]
  by_cases q : b = 0
  · rw [if_pos q, if_pos]
    subst q
    rw [q_0, Int.natAbs_zero, Nat.mul_zero]; omega
  rw [if_neg q]
  have np := q_ne0 p
  have key : ∀ t s : Int64, inG t → inG s → 0 ≤ t.toInt → 0 < s.toInt → t.toInt.natAbs = b.toInt.natAbs → s.toInt.natAbs = a.toInt.natAbs → (tx_nl s (if t ≤ (1000000000000 : Int64) / s then some (a * b, M) else some ((0 : Int64), up2 M 0 48 1))) = if a.toInt.natAbs * b.toInt.natAbs ≤ 1000000000000 then some (a * b, M) else some (0, up2 M 0 48 1) := by
    intro t s ht hs t0 s0 et es
    unfold tx_nl
    rw [if_neg (fun z => by rw [z, q_0] at s0; omega)]
    have e1 := q_div (b := s) hG
    have e3 := q_tdiv_abs 1000000000000 s.toInt
    rw [q_G] at e1
    rw [← e1] at e3
    have e4 : 0 ≤ ((1000000000000 : Int64) / s).toInt := by
      rw [e1]
      exact Int.tdiv_nonneg (by omega) (by omega)
    have hk : t ≤ (1000000000000 : Int64) / s ↔ a.toInt.natAbs * b.toInt.natAbs ≤ 1000000000000 := by
      rw [Int64.le_iff_toInt_le, ← es, ← et, Nat.mul_comm, ← Nat.le_div_iff_mul_le (by omega)]
      have : (Int.natAbs 1000000000000) = 1000000000000 := rfl
      rw [this] at e3
      rw [← e3]
      omega
    by_cases h : a.toInt.natAbs * b.toInt.natAbs ≤ 1000000000000
    · rw [if_pos h, if_pos (hk.mpr h)]
    · rw [if_neg h, if_neg (fun z => h (hk.mp z))]
  have na := q_neg ha
  have nb := q_neg hb
  have ina : inG (-a) := by unfold inG at ha ⊢; rw [na]; omega
  have inb : inG (-b) := by unfold inG at hb ⊢; rw [nb]; omega
  by_cases p1 : (0 : Int64) ≤ b
  · rw [if_pos p1]
    have p2 := Int64.le_iff_toInt_le.mp p1
    rw [q_0] at p2
    by_cases q1 : (0 : Int64) ≤ a
    · rw [if_pos q1]
      have q2 := Int64.le_iff_toInt_le.mp q1
      rw [q_0] at q2
      exact key b a hb ha p2 (by omega) rfl rfl
    · rw [if_neg q1]
      have q2 : ¬ (0 : Int64).toInt ≤ a.toInt := fun z => q1 (Int64.le_iff_toInt_le.mpr z)
      rw [q_0] at q2
      exact key b (-a) hb ina p2 (by omega) rfl (by rw [na, Int.natAbs_neg])
  · rw [if_neg p1]
    have p2 : ¬ (0 : Int64).toInt ≤ b.toInt := fun z => p1 (Int64.le_iff_toInt_le.mpr z)
    rw [q_0] at p2
    by_cases q1 : (0 : Int64) ≤ a
    · rw [if_pos q1]
      have q2 := Int64.le_iff_toInt_le.mp q1
      rw [q_0] at q2
      exact key (-b) a inb ha (by omega) (by omega) (by rw [nb, Int.natAbs_neg]) rfl
    · rw [if_neg q1]
      have q2 : ¬ (0 : Int64).toInt ≤ a.toInt := fun z => q1 (Int64.le_iff_toInt_le.mpr z)
      rw [q_0] at q2
      exact key (-b) (-a) inb ina (by omega) (by omega) (by rw [nb, Int.natAbs_neg]) (by rw [na, Int.natAbs_neg])
