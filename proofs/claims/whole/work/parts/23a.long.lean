/-! longs: what a law works on -/
def inG (x : Int64) : Prop := -1000000000000 ≤ x.toInt ∧ x.toInt ≤ 1000000000000
theorem bm64 {x : Int} (h1 : -9223372036854775808 ≤ x) (h2 : x < 9223372036854775808) : x.bmod (2 ^ 64) = x := by
  rw [Int.bmod_def]
  split <;> omega
theorem q_G : (1000000000000 : Int64).toInt = 1000000000000 := rfl
theorem q_nG : (-1000000000000 : Int64).toInt = -1000000000000 := rfl
theorem q_0 : (0 : Int64).toInt = 0 := rfl
theorem q_min : (-9223372036854775808 : Int64).toInt = -9223372036854775808 := rfl
theorem q_add {a b : Int64} (ha : inG a) (hb : inG b) : (a + b).toInt = a.toInt + b.toInt := by
  unfold inG at ha hb
  rw [Int64.toInt_add]
  exact bm64 (by omega) (by omega)
theorem q_sub {a b : Int64} (ha : inG a) (hb : inG b) : (a - b).toInt = a.toInt - b.toInt := by
  unfold inG at ha hb
  rw [Int64.toInt_sub]
  exact bm64 (by omega) (by omega)
theorem q_neg {a : Int64} (ha : inG a) : (-a).toInt = -a.toInt := by
  unfold inG at ha
  rw [Int64.toInt_neg]
  exact bm64 (by omega) (by omega)
theorem q_tdiv_abs (x y : Int) : (x.tdiv y).natAbs = x.natAbs / y.natAbs := Int.natAbs_tdiv x y
theorem q_div {a b : Int64} (ha : inG a) : (a / b).toInt = a.toInt.tdiv b.toInt := by
  unfold inG at ha
  rw [Int64.toInt_div]
  have h := q_tdiv_abs a.toInt b.toInt
  have h2 : a.toInt.natAbs / b.toInt.natAbs ≤ a.toInt.natAbs := Nat.div_le_self _ _
  exact bm64 (by omega) (by omega)
theorem q_divG {a b : Int64} (ha : inG a) : inG (a / b) := by
  have e := q_div (b := b) ha
  unfold inG at ha ⊢
  rw [e]
  have h := q_tdiv_abs a.toInt b.toInt
  have h2 : a.toInt.natAbs / b.toInt.natAbs ≤ a.toInt.natAbs := Nat.div_le_self _ _
  constructor <;> omega
theorem q_ne0 {a : Int64} (h : ¬ a = 0) : ¬ a.toInt = 0 := fun e => h (Int64.toInt_inj.mp (e.trans q_0.symm))
theorem q_mul {a b : Int64} (h : (a.toInt * b.toInt).natAbs ≤ 1000000000000) : (a * b).toInt = a.toInt * b.toInt := by
  rw [Int64.toInt_mul]
  exact bm64 (by omega) (by omega)
theorem q_inG {x : Int64} : inG x ↔ ¬ ((1000000000000 : Int64) < x) ∧ ¬ (x < (-1000000000000 : Int64)) := by
  unfold inG
  rw [Int64.lt_iff_toInt_lt, Int64.lt_iff_toInt_lt, q_G, q_nG]
  omega
theorem q_in0 : inG 0 := by unfold inG; rw [q_0]; omega
theorem q_in1 : inG 1 := by unfold inG; rw [show (1 : Int64).toInt = 1 from rfl]; omega
theorem q_i32 (x : Int32) : inG x.toInt64 := by
  unfold inG
  rw [Int32.toInt_toInt64]
  have h1 := Int32.le_toInt x
  have h2 := Int32.toInt_lt x
  omega
theorem q_minN : ¬ inG (-9223372036854775808) := by
  unfold inG
  rw [q_min]
  omega
/-- what two values make; none: an error -/
def kv (k : Nat) (a b : Int64) : Option Int64 :=
  if k = 3 then some (if ¬ a = 0 ∧ ¬ b = 0 then 1 else 0)
  else if k = 4 then some (if a = 0 ∧ b = 0 then 0 else 1)
  else if k = 5 then some (if a < b then 1 else 0)
  else if k = 6 then some (if b < a then 0 else 1)
  else if k = 7 then some (if a = b then 1 else 0)
  else if k = 8 then some (if a = b then 0 else 1)
  else if k = 9 then some (if a < b then 0 else 1)
  else if k = 10 then some (if b < a then 1 else 0)
  else if k = 11 then (if (1000000000000 : Int64) < a + b ∨ a + b < (-1000000000000 : Int64) then none else some (a + b))
  else if k = 12 then (if (1000000000000 : Int64) < a - b ∨ a - b < (-1000000000000 : Int64) then none else some (a - b))
  else if k = 13 then (if a.toInt.natAbs * b.toInt.natAbs ≤ 1000000000000 then some (a * b) else none)
  else (if b = 0 then none else some (a / b))
theorem kv_in {k : Nat} {a b x : Int64} (ha : inG a) (h : kv k a b = some x) : inG x := by
  unfold kv at h
  have c01 : ∀ {P : Prop} [Decidable P], inG (if P then (1 : Int64) else 0) := by
    intro P _
    by_cases hP : P
    · rw [if_pos hP]; exact q_in1
    · rw [if_neg hP]; exact q_in0
  have c10 : ∀ {P : Prop} [Decidable P], inG (if P then (0 : Int64) else 1) := by
    intro P _
    by_cases hP : P
    · rw [if_pos hP]; exact q_in0
    · rw [if_neg hP]; exact q_in1
  by_cases h3 : k = 3
  · rw [if_pos h3] at h; cases h; exact c01
  rw [if_neg h3] at h
  by_cases h3 : k = 4
  · rw [if_pos h3] at h; cases h; exact c10
  rw [if_neg h3] at h
  by_cases h3 : k = 5
  · rw [if_pos h3] at h; cases h; exact c01
  rw [if_neg h3] at h
  by_cases h3 : k = 6
  · rw [if_pos h3] at h; cases h; exact c10
  rw [if_neg h3] at h
  by_cases h3 : k = 7
  · rw [if_pos h3] at h; cases h; exact c01
  rw [if_neg h3] at h
  by_cases h3 : k = 8
  · rw [if_pos h3] at h; cases h; exact c10
  rw [if_neg h3] at h
  by_cases h3 : k = 9
  · rw [if_pos h3] at h; cases h; exact c10
  rw [if_neg h3] at h
  by_cases h3 : k = 10
  · rw [if_pos h3] at h; cases h; exact c01
  rw [if_neg h3] at h
  by_cases h3 : k = 11
  · rw [if_pos h3] at h
    by_cases h4 : (1000000000000 : Int64) < a + b ∨ a + b < (-1000000000000 : Int64)
    · rw [if_pos h4] at h; cases h
    · rw [if_neg h4] at h; cases h; exact q_inG.mpr ⟨fun z => h4 (Or.inl z), fun z => h4 (Or.inr z)⟩
  rw [if_neg h3] at h
  by_cases h3 : k = 12
  · rw [if_pos h3] at h
    by_cases h4 : (1000000000000 : Int64) < a - b ∨ a - b < (-1000000000000 : Int64)
    · rw [if_pos h4] at h; cases h
    · rw [if_neg h4] at h; cases h; exact q_inG.mpr ⟨fun z => h4 (Or.inl z), fun z => h4 (Or.inr z)⟩
  rw [if_neg h3] at h
  by_cases h3 : k = 13
  · rw [if_pos h3] at h
    by_cases h4 : a.toInt.natAbs * b.toInt.natAbs ≤ 1000000000000
    · rw [if_pos h4] at h; cases h
      rw [← Int.natAbs_mul] at h4
      unfold inG
      rw [q_mul h4]
      omega
    · rw [if_neg h4] at h; cases h
  rw [if_neg h3] at h
  by_cases h4 : b = 0
  · rw [if_pos h4] at h; cases h
  · rw [if_neg h4] at h; cases h; exact q_divG ha
/-- the class's product -/
theorem c_prod (fu : Nat) {a b : Int64} (ha : inG a) (hb : inG b) : f_X5_product fu a b = some (if a.toInt.natAbs * b.toInt.natAbs ≤ 1000000000000 then a * b else -9223372036854775808) := by
  unfold f_X5_product f_X5_product_J17 f_X5_product_J34 f_X5_product_J51
  simp only [lg_cmp_ge, lg_cmp_le, lg_cmp_gt, lg_cmp_lt, lg_cmp_eq]
  have hG : inG (1000000000000 : Int64) := by unfold inG; rw [q_G]; omega
  have key : ∀ t : Int64, inG t → (0 ≤ t.toInt) → (b.toInt.natAbs ≤ t.toInt.natAbs ↔ a.toInt.natAbs * b.toInt.natAbs ≤ 1000000000000) → (if t < b then (some (-9223372036854775808 : Int64)) else (if -t ≤ b then some (a * b) else some (-9223372036854775808 : Int64))) = some (if a.toInt.natAbs * b.toInt.natAbs ≤ 1000000000000 then a * b else -9223372036854775808) := by
    intro t ht h0 hk
    have e := q_neg ht
    unfold inG at ht hb
    by_cases h : a.toInt.natAbs * b.toInt.natAbs ≤ 1000000000000
    · have h2 := hk.mpr h
      rw [if_neg (fun z => by have := Int64.lt_iff_toInt_lt.mp z; omega), if_pos (Int64.le_iff_toInt_le.mpr (by rw [e]; omega)), if_pos h]
    · rw [if_neg h]
      by_cases h1 : t < b
      · rw [if_pos h1]
      · rw [if_neg h1, if_neg]
        intro h2
        have a1 := Int64.le_iff_toInt_le.mp h2
        rw [e] at a1
        have a2 : ¬ t.toInt < b.toInt := fun z => h1 (Int64.lt_iff_toInt_lt.mpr z)
        exact h (hk.mp (by omega))
  by_cases h0 : a = 0
  · rw [if_pos h0, if_pos (Int64.le_iff_toInt_le.mpr (by rw [q_G, q_0]; omega))]
    refine key _ hG (by rw [q_G]; omega) ?_
    subst h0
    rw [q_G, q_0]
    unfold inG at hb
    constructor
    · intro _; rw [Int.natAbs_zero, Nat.zero_mul]; omega
    · intro _; omega
  · rw [if_neg h0]
    unfold tx_nl
    rw [if_neg h0]
    have n0 := q_ne0 h0
    have e1 := q_div (b := a) hG
    have e2 := q_divG (b := a) hG
    have e3 := q_tdiv_abs 1000000000000 a.toInt
    rw [q_G] at e1
    rw [← e1] at e3
    have hk : b.toInt.natAbs ≤ ((1000000000000 : Int64) / a).toInt.natAbs ↔ a.toInt.natAbs * b.toInt.natAbs ≤ 1000000000000 := by
      rw [e3, Nat.le_div_iff_mul_le (by omega), Nat.mul_comm]
      exact Iff.rfl
    by_cases h2 : (0 : Int64) ≤ (1000000000000 : Int64) / a
    · rw [if_pos h2]
      exact key _ e2 (by have := Int64.le_iff_toInt_le.mp h2; rw [q_0] at this; exact this) hk
    · rw [if_neg h2]
      have a1 : ¬ (0 : Int64).toInt ≤ ((1000000000000 : Int64) / a).toInt := fun z => h2 (Int64.le_iff_toInt_le.mpr z)
      have a2 := q_neg e2
      rw [q_0] at a1
      refine key _ ?_ (by rw [a2]; omega) (by rw [a2, Int.natAbs_neg]; exact hk)
      unfold inG at e2 ⊢
      rw [a2]
      omega
