/-! what is due doesn't hang on the rounds -/
theorem up2_comm (b : S32) {r q : Nat} (i j : Nat) (x y : Int32) (h : r ≠ q) : up2 (up2 b r i x) q j y = up2 (up2 b q j y) r i x := by
  funext s k
  rw [up2_a, up2_a, up2_a, up2_a]
  by_cases h1 : s = q ∧ k = j
  · rw [if_pos h1, if_pos h1, if_neg (fun z => h (z.1.symm.trans h1.1))]
  · rw [if_neg h1, if_neg h1]
def m10 (p : Nat) (y : Int32) (o : Option (Int32 × S32 × S64 × S64)) : Option (Int32 × S32 × S64 × S64) := match o with
  | none => none
  | some z => some (z.1, up2 z.2.1 10 p y, z.2.2.1, z.2.2.2)
theorem nd10_l (fu : Nat) (B W : S32) (p : Nat) (y : Int32) : ∀ n, f_X10_nameDoor_L130 fu (up2 W 10 p y) B n = f_X10_nameDoor_L130 fu W B n := by
  intro n
  induction n with
  | zero => rfl
  | succ n ih =>
    show f_X10_nameDoor_J130 fu (up2 W 10 p y) B (f_X10_nameDoor_L130 fu (up2 W 10 p y) B n) = f_X10_nameDoor_J130 fu W B (f_X10_nameDoor_L130 fu W B n)
    rw [ih]
    rfl
theorem nd10 (fu : Nat) (B W : S32) (p : Nat) (y : Int32) (vN : S64) (a b c : Int32) : f_X10_nameDoor fu (up2 W 10 p y) B vN a b c = f_X10_nameDoor fu W B vN a b c := by
  unfold f_X10_nameDoor f_X10_nameDoor_J45 f_X10_nameDoor_J67 f_X10_nameDoor_J89 f_X10_nameDoor_J111
  simp only [nd10_l]
  rfl
theorem rd10 (fu : Nat) (B L W : S32) (p : Nat) (y : Int32) (vL vN : S64) (a b : Int32) : f_X10_readOf fu (up2 W 10 p y) B L vL vN a b = f_X10_readOf fu W B L vL vN a b := by
  unfold f_X10_readOf f_X10_readOf_J21
  simp only [nd10]
  rfl
theorem rs10 (fu : Nat) (B L W : S32) (p : Nat) (y : Int32) (vL vN : S64) (a b : Int32) : f_X10_reads fu B L (up2 W 10 p y) vL vN a b 0 = m10 p y (f_X10_reads fu B L W vL vN a b 0) := by
  unfold f_X10_reads
  rw [rd10, show f_X10_knowsTongue fu (up2 W 10 p y) B a b = f_X10_knowsTongue fu W B a b from rfl]
  cases f_X10_knowsTongue fu W B a b with
  | none => rfl
  | some k =>
    rw [tx_b1_q, tx_b1_q]
    by_cases h : k = 0
    · rw [if_pos h, if_pos h]; rfl
    · rw [if_neg h, if_neg h]
      cases f_X10_readOf fu W B L vL vN b a with
      | none => rfl
      | some z =>
        obtain ⟨e, l, n⟩ := z
        rw [tx_b3_q, tx_b3_q, if_pos rfl, if_pos rfl]
        by_cases g : e < 50
        · rw [if_pos g, if_pos g]; rfl
        · rw [if_neg g, if_neg g]; rfl
theorem do10_j (fu : Nat) (B L W : S32) (p : Nat) (y : Int32) (vL vN : S64) (a : Int32) (x : Int64) (t1 t2 : Int32) : f_X10_dueOf_J62 fu B L (up2 W 10 p y) vL vN a x t1 t2 = m10 p y (f_X10_dueOf_J62 fu B L W vL vN a x t1 t2) := by
  unfold f_X10_dueOf_J62 f_X10_dueOf_J90
  rw [tx_let_q, tx_let_q, up2_comm W p 15 y _ (show (10 : Nat) ≠ 0 by decide)]
  unfold tx_bz
  by_cases h : t1 ||| t2 = 0 ∨ t1 ||| t2 = 1
  · rw [if_pos h, if_pos h]
    by_cases g : lg_cmp x (-9223372036854775808 : Int64) = 0
    · rw [if_pos g, if_pos g]
      show tx_b1 (f_X10_within fu ((a * (up2 W 0 15 (t1 ||| t2)) 0 2) / 100).toInt64 999) _ = _
      cases f_X10_within fu ((a * (up2 W 0 15 (t1 ||| t2)) 0 2) / 100).toInt64 999 with
      | none => rfl
      | some z => rfl
    · rw [if_neg g, if_neg g]
      cases f_X10_within fu x 999 with
      | none => rfl
      | some z => rfl
  · rw [if_neg h, if_neg h]; rfl
theorem do10 (fu : Nat) (B L W : S32) (p : Nat) (y : Int32) (vL vN : S64) (a b c : Int32) : f_X10_dueOf fu B L (up2 W 10 p y) vL vN a b c = m10 p y (f_X10_dueOf fu B L W vL vN a b c) := by
  have J : ∀ vL vN x, f_X10_dueOf_J43 fu B L (up2 W 10 p y) vL vN c x = m10 p y (f_X10_dueOf_J43 fu B L W vL vN c x) := by
    intro vL vN x
    unfold f_X10_dueOf_J43
    rw [do10_j, do10_j]
    by_cases g : lg_cmp x (-9223372036854775808 : Int64) = 0
    · rw [if_pos g, if_pos g]; rfl
    · rw [if_neg g, if_neg g]; rfl
  unfold f_X10_dueOf
  rw [nd10]
  cases f_X5_isTold fu L vL 1 with
  | none => rfl
  | some k =>
    rw [tx_b1_q, tx_b1_q]
    by_cases h : k = 0
    · rw [if_pos h, if_pos h, J]
    · rw [if_neg h, if_neg h]
      cases f_X10_nameDoor fu W B vN a b c with
      | none => rfl
      | some z =>
        rw [tx_b1_q, tx_b1_q]
        cases f_X5_work_oNr0 fu L z vL 1 with
        | none => rfl
        | some u =>
          obtain ⟨r, l⟩ := u
          rw [tx_b2_q, tx_b2_q, J]
theorem da10_l (fu : Nat) (B L : S32) (p : Nat) (y : Int32) (a b : Int32) : ∀ n W vL vN c t, f_X10_dueAt_L6 fu B L n (up2 W 10 p y) vL vN a b 0 c t = m10 p y (f_X10_dueAt_L6 fu B L n W vL vN a b 0 c t) := by
  intro n
  induction n with
  | zero => intro W vL vN c t; rfl
  | succ n ih =>
    intro W vL vN c t
    show f_X10_dueAt_J6 fu B L (f_X10_dueAt_L6 fu B L n) (up2 W 10 p y) vL vN a b 0 c t = m10 p y (f_X10_dueAt_J6 fu B L (f_X10_dueAt_L6 fu B L n) W vL vN a b 0 c t)
    have J77 : f_X10_dueAt_J77 fu B L (up2 W 10 p y) vL vN a b c = m10 p y (f_X10_dueAt_J77 fu B L W vL vN a b c) := by
      unfold f_X10_dueAt_J77
      rw [do10]
      by_cases h : c ≤ 0
      · rw [if_pos h, if_pos h]; rfl
      · rw [if_neg h, if_neg h]
        cases f_X10_dueOf fu B L W vL vN a b c with
        | none => rfl
        | some z => rfl
    unfold f_X10_dueAt_J6 f_X10_dueAt_J71
    rw [J77, rs10, show f_X10_isHeldAt fu (up2 W 10 p y) B t a = f_X10_isHeldAt fu W B t a from rfl]
    by_cases h1 : B 0 5 ≤ t
    · rw [if_pos h1, if_pos h1]
    rw [if_neg h1, if_neg h1]
    by_cases h2 : (12 : Int32) ≤ t
    · rw [if_pos h2, if_pos h2]
    rw [if_neg h2, if_neg h2]
    cases f_X10_isHeldAt fu W B t a with
    | none => rfl
    | some k =>
      rw [tx_b1_q, tx_b1_q]
      by_cases h3 : k = 0
      · rw [if_pos h3, if_pos h3, tx_let_q, tx_let_q]
        exact ih _ _ _ _ _
      · rw [if_neg h3, if_neg h3]
        cases f_X10_reads fu B L W vL vN b t 0 with
        | none => rfl
        | some z =>
          obtain ⟨e, W', l, n'⟩ := z
          show tx_b4 (some (e, up2 W' 10 p y, l, n')) _ = _
          rw [tx_b4_q, tx_b4_q]
          by_cases h4 : e = 0
          · rw [if_pos h4, if_pos h4, tx_let_q, tx_let_q]
            exact ih _ _ _ _ _
          · rw [if_neg h4, if_neg h4]
            unfold tx_ck
            by_cases h5 : t < 0 ∨ 12 ≤ t.toNatClampNeg
            · rw [if_pos h5, if_pos h5]; rfl
            · simp only [if_neg h5, tx_let_q]
              rw [up2_comm W' p _ y _ (show (10 : Nat) ≠ 13 by decide)]
              exact ih _ _ _ _ _
theorem da10 (fu : Nat) (B L W : S32) (p : Nat) (y : Int32) (vL vN : S64) (a b : Int32) : f_X10_dueAt fu B L (up2 W 10 p y) vL vN a b 0 = m10 p y (f_X10_dueAt fu B L W vL vN a b 0) := da10_l fu B L p y a b fu W vL vN 0 0
