/-! laws told or not; names; how likely one is read -/
theorem win_l (fu : Nat) (r : Int64) {m : Int32} (hm : 0 ≤ m) : f_X10_within fu r m = some (if (0 : Int64) ≤ r then (if r ≤ m.toInt64 then r.toInt32 else m) else 0) := by
  unfold f_X10_within
  have h0 : (0 : Int64) ≤ m.toInt64 := by
    rw [Int64.le_iff_toInt_le, Int32.toInt_toInt64, q_0]
    exact Int32.le_iff_toInt_le.mp hm
  by_cases h : (0 : Int64) ≤ r
  · rw [if_pos h]
    by_cases h2 : r ≤ m.toInt64
    · rw [if_pos h2, if_neg (Int64.not_lt.mpr h2), if_neg (Int64.not_lt.mpr h)]
    · rw [if_neg h2, if_pos (Int64.not_le.mp h2), if_neg (Int64.not_lt.mpr h0), lg_l2i_i2l]
  · have h3 : ¬ m.toInt64 < r := by
      intro z
      have a1 := Int64.lt_iff_toInt_lt.mp z
      have a2 := Int64.le_iff_toInt_le.mp h0
      exact h (Int64.le_iff_toInt_le.mpr (by omega))
    rw [if_neg h, if_neg h3, if_pos (Int64.not_le.mp h)]
    rfl
theorem i64_le (x y : Int32) : x.toInt64 ≤ y.toInt64 ↔ x ≤ y := by
  rw [Int64.le_iff_toInt_le, Int32.toInt_toInt64, Int32.toInt_toInt64, Int32.le_iff_toInt_le]
theorem win_i (fu : Nat) (x : Int32) {m : Int32} (hm : 0 ≤ m) : f_X10_within fu x.toInt64 m = f_X12_within fu x m := by
  rw [win_l fu _ hm]
  unfold f_X12_within
  have e : (0 : Int64) ≤ x.toInt64 ↔ 0 ≤ x := i64_le 0 x
  by_cases h : 0 ≤ x
  · rw [if_pos (e.mpr h), if_pos h]
    by_cases h2 : x ≤ m
    · rw [if_pos ((i64_le x m).mpr h2), if_pos h2, lg_l2i_i2l]
    · rw [if_neg (fun z => h2 ((i64_le x m).mp z)), if_neg h2]
  · rw [if_neg (fun z => h (e.mp z)), if_neg h]
theorem win_r (fu : Nat) (x : Int32) (m : Nat) (hm : m < 2 ^ 31) : ∃ a, a ≤ m ∧ f_X12_within fu x (nI m) = some (nI a) := by
  unfold f_X12_within
  by_cases h : 0 ≤ x
  · rw [if_pos h]
    obtain ⟨j, hj, rfl⟩ := nI_of (Int32.not_lt.mpr h)
    by_cases h2 : nI j ≤ nI m
    · rw [if_pos h2]; exact ⟨j, (nI_leI hj hm).mp h2, rfl⟩
    · rw [if_neg h2]; exact ⟨m, Nat.le_refl _, rfl⟩
  · rw [if_neg h]; exact ⟨0, Nat.zero_le _, rfl⟩
theorem win_s (fu : Nat) {a m : Nat} (h : a ≤ m) (hm : m < 2 ^ 31) : f_X12_within fu (nI a) (nI m) = some (nI a) := by
  unfold f_X12_within
  rw [if_pos (nI_pos' (by omega)), if_pos (nI_le h (by omega))]
theorem win_lr (r : Int64) (m : Nat) (hm : m < 2 ^ 31) : ∃ a, a ≤ m ∧ (if (0 : Int64) ≤ r then (if r ≤ (nI m).toInt64 then r.toInt32 else nI m) else 0) = nI a := by
  by_cases h : (0 : Int64) ≤ r
  · rw [if_pos h]
    by_cases h2 : r ≤ (nI m).toInt64
    · rw [if_pos h2]
      obtain ⟨j, hj, rfl⟩ := pk_lOf (Int64.not_lt.mpr h)
      rw [nI_l hm] at h2
      exact ⟨j, (pk_lLE hj (by omega)).mp h2, lN_i j⟩
    · rw [if_neg h2]; exact ⟨m, Nat.le_refl _, rfl⟩
  · rw [if_neg h]; exact ⟨0, Nat.zero_le _, rfl⟩
/-- a law that isn't told -/
theorem lw_no (fu : Nat) {L M : S32} (vL : S64) {j : Nat} (hj : j < 3) (h : L 3 j = -1 ∧ M 33 j = 0) : f_X5_isTold fu L vL (nI j) = some 0 ∧ ∀ v wo most, f_X12_boundLaw fu M v (nI j) wo most = some (wo, M, v) := by
  constructor
  · unfold f_X5_isTold
    rw [if_neg (nI_pos (by omega)), if_neg (show ¬ (3 : Int32) ≤ nI j from nI_ge (b := 3) hj (by omega)), tx_ck_q hj (by omega), nI_clamp (by omega), if_pos h.1]
  · intro v wo most
    unfold f_X12_boundLaw
    rw [tx_ck_q (by omega) (by omega), nI_clamp (by omega), if_pos h.2]
theorem m1_ne {a : Nat} (h : a < 2 ^ 31) : ¬ nI a = (-1 : Int32) := by
  intro e
  have := congrArg Int32.toInt e
  rw [nI_toInt h] at this
  have h2 : (-1 : Int32).toInt = -1 := rfl
  omega
theorem isT1 (fu : Nat) {L : S32} (vL : S64) {j a : Nat} (hj : j < 3) (ha : a < 2 ^ 31) (h : L 3 j = nI a) : f_X5_isTold fu L vL (nI j) = some 1 := by
  unfold f_X5_isTold
  rw [if_neg (nI_pos (by omega)), if_neg (show ¬ (3 : Int32) ≤ nI j from nI_ge (b := 3) hj (by omega)), tx_ck_q hj (by omega), nI_clamp (by omega), h, if_neg (m1_ne ha)]
/-- a law that is told -/
theorem lw_of (fu : Nat) (hf : 1000 ≤ fu) {L M : S32} {j n : Nat} (hj : j < 3) (hn : n ≤ 64) (hk : ∀ i, i < n → L 1 i = knK (M 36 i) ∧ (M 36 i = 0 ∨ M 36 i = 1 → L 2 i = M 37 i))
    {a b : Nat} (hab : a < b) (hb : b ≤ n) (l3 : L 3 j = nI a) (l4 : L 4 j = nI b) (m34 : M 34 j = nI a) (m35 : M 35 j = nI b) (hw : knW M (b - a) a []) (vL vN v : S64) (hN : ∀ a, a < 7 → vN 0 a = v 47 a ∧ inG (vN 0 a)) :
    ∃ r vL' z M' v', f_X5_work_oNr0 fu L vN vL (nI j) = some (r, vL') ∧ f_X12_lawOf fu M v (nI j) = some (z, M', v') ∧ (∀ r, r ≠ 48 → v' r = v r) ∧ ((r = z ∧ inG r ∧ M' = up2 M 0 48 0) ∨ (r = -9223372036854775808 ∧ M' = up2 M 0 48 1)) := by
  have u := fun (r : Nat) (h : r ≠ 0) => up2_n M 48 (0 : Int32) h
  obtain ⟨r, vL', z, M', v', g1, g2, g3, g4⟩ := lw_sim fu (L := L) (M := up2 M 0 48 0) (vN := vN) (j := j) (e := b) hj (by omega) (by rw [u 35 (by decide)]; exact m35) l4 (up2_e _ _ _ _) (fun i hi => by rw [u 36 (by decide), u 37 (by decide)]; exact hk i (by omega)) (b - a) a [] vL v fu fu hN (knW.c (fun r h1 h2 => u r (by omega)) _ _ _ hw) trivial (Nat.zero_le _) (by omega) (by omega) (by omega)
  refine ⟨r, vL', z, M', v', ?_, ?_, g3, ?_⟩
  · unfold f_X5_work_oNr0
    rw [isT1 fu vL hj (by omega) l3, tx_b1_q, if_neg one_ne, tx_ck_q hj (by omega), nI_clamp (by omega), l3, tx_let_q]
    have e : (if (0 : Int32) < nI a then nI a else 0) = nI a := by
      by_cases h0 : (0 : Int32) < nI a
      · rw [if_pos h0]
      · rw [if_neg h0]
        have : ¬ 0 < a := fun z => h0 (nI_lt (a := 0) z (by omega))
        rw [show a = 0 by omega]
        rfl
    rw [e]
    exact g1
  · unfold f_X12_lawOf
    rw [tx_let_q, tx_ck_q (by omega) (by omega), tx_let_q, nI_clamp (by omega), u 34 (by decide), m34]
    exact g2
  · rcases g4 with g | ⟨g, g'⟩
    · exact Or.inl g
    · refine Or.inr ⟨g, g'.trans ?_⟩
      funext q i
      simp only [up2_a]
      by_cases hq : q = 0 ∧ i = 48
      · rw [if_pos hq, if_pos hq]
      · rw [if_neg hq, if_neg hq, if_neg hq]
theorem lw_yes (fu : Nat) (hf : 1000 ≤ fu) {L M : S32} {j n : Nat} (hj : j < 3) (hn : n ≤ 64) (hk : ∀ i, i < n → L 1 i = knK (M 36 i) ∧ (M 36 i = 0 ∨ M 36 i = 1 → L 2 i = M 37 i))
    {a b : Nat} (hab : a < b) (hb : b ≤ n) (l3 : L 3 j = nI a) (l4 : L 4 j = nI b) (m33 : M 33 j = 1) (m34 : M 34 j = nI a) (m35 : M 35 j = nI b) (hw : knW M (b - a) a []) (vL vN v : S64) (hN : ∀ a, a < 7 → vN 0 a = v 47 a ∧ inG (vN 0 a)) (wo : Int32) {most : Nat} (hm : most < 2 ^ 31) :
    ∃ r vL' q x v', f_X5_work_oNr0 fu L vN vL (nI j) = some (r, vL') ∧ f_X12_boundLaw fu M v (nI j) wo (nI most) = some (q, up2 M 0 48 x, v') ∧ (∀ r, r ≠ 48 → v' r = v r) ∧ ((¬ r = -9223372036854775808 ∧ q = (if (0 : Int64) ≤ r then (if r ≤ (nI most).toInt64 then r.toInt32 else nI most) else 0)) ∨ (r = -9223372036854775808 ∧ q = wo)) := by
  obtain ⟨r, vL', z, M', v', g1, g2, g3, g4⟩ := lw_of fu hf hj hn hk hab hb l3 l4 m34 m35 hw vL vN v hN
  have u33 : f_X12_boundLaw fu M v (nI j) wo (nI most) = tx_b3 (some (z, M', v')) fun (r_4 : Int64) (u_T_5 : S32) (v_T_6 : S64) => if (u_T_5 0 48) = (0 : Int32) then (if (0 : Int32) ≤ (lg_cmp r_4 (0 : Int64)) then (if (lg_cmp r_4 ((nI most).toInt64)) ≤ (0 : Int32) then (some (r_4.toInt32, u_T_5, v_T_6)) else (some (nI most, u_T_5, v_T_6))) else (some ((0 : Int32), u_T_5, v_T_6))) else (some (wo, u_T_5, v_T_6)) := by
    unfold f_X12_boundLaw
    rw [tx_ck_q (by omega) (by omega), nI_clamp (by omega), if_neg (by rw [m33]; exact one_ne), g2]
  rw [tx_b3_q] at u33
  simp only [lg_cmp_ge, lg_cmp_le] at u33
  rcases g4 with ⟨e1, e2, e3⟩ | ⟨e1, e3⟩
  · subst e3
    rw [up2_e, if_pos rfl] at u33
    subst e1
    by_cases h : (0 : Int64) ≤ r
    · rw [if_pos h] at u33
      by_cases h2 : r ≤ (nI most).toInt64
      · rw [if_pos h2] at u33
        exact ⟨r, vL', _, _, _, g1, u33, g3, Or.inl ⟨fun z => q_minN (z ▸ e2), by rw [if_pos h, if_pos h2]⟩⟩
      · rw [if_neg h2] at u33
        exact ⟨r, vL', _, _, _, g1, u33, g3, Or.inl ⟨fun z => q_minN (z ▸ e2), by rw [if_pos h, if_neg h2]⟩⟩
    · rw [if_neg h] at u33
      exact ⟨r, vL', _, _, _, g1, u33, g3, Or.inl ⟨fun z => q_minN (z ▸ e2), by rw [if_neg h]⟩⟩
  · subst e3
    rw [up2_e, if_neg one_ne] at u33
    exact ⟨r, vL', _, _, _, g1, u33, g3, Or.inr ⟨e1, rfl⟩⟩
