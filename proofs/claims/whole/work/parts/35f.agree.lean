/-! thought in both -/
def SP4 (RR : RRt) (fu : Nat) : Prop := ∀ (k q : Nat → Nat) (U : Nat → S32) (V : Nat → S64) (fo : Nat → Int64) (y1 y2 : Int32), RR k q U V → ∃ (r0 r bb : Int32) (fo' : Nat → Int64) (zu_M : S32), f_X0_isThought fu (U 2) y1 = some r0 ∧ (¬ r0 = 0 → vp_in y1 12) ∧ THK r0 (thV (U 2) (U 1) y1 y2) fo r fo' ∧ f_X12_thought fu (V 19) (U 19) y1 y2 = some (bb, zu_M) ∧ f_X12_thrown fu zu_M (V 19) = some r ∧ (r = 0 → fo' 0 = bb.toInt64) ∧ RR k q (va_up U 19 zu_M) V
theorem upL_e (fo : Nat → Int64) (x : Int64) : vp_updL fo 0 x 0 = x := by unfold vp_updL; rw [if_pos rfl]
theorem sp4 (fu : Nat) : SP4 RR fu := by
  intro k q U V fo y1 y2 hR
  have hR' : RX (k 0) (q 0) (U 0) (U 1) (U 2) (U 4) (U 5) (U 9) (U 12) (U 17) (U 18) (pj (U 19)) (V 19 0 59) (V 19 0 80) (U 7) := hR
  obtain ⟨np, nt, nr, ⟨hb, hbi, hlw⟩, ⟨hw, hwi, hwb, hst, hnb⟩, -, -, -, -⟩ := id hR'
  obtain ⟨⟨hnp, hnt, hnr⟩, -, ⟨b5, m5⟩, -, hbp, hbt, hbr, -⟩ := hb
  obtain ⟨-, hwt, -⟩ := hw
  have m5' : (up2 (U 19) 0 2 0) 0 13 = nI nt := by
    rw [up_t _ (by decide)]
    rw [pj_in (by decide)] at m5
    exact m5
  have R0 : RR k q (va_up U 19 (up2 (U 19) 0 2 0)) V := RR_t hR
  have fails : ∀ x, RR k q (va_up U 19 (up2 (up2 (U 19) 0 2 0) 0 2 x)) V := fun x => RR_M hR (by rw [pj_thrown, pj_thrown])
  rcases t_thought fu (U 2) (up2 (U 19) 0 2 0) (V 19) b5 m5' hnt y1 with ⟨t, ht, rfl, i1, i2⟩ | ⟨i1, i2⟩
  rotate_left
  · refine ⟨0, 1, 0, fo, up2 (up2 (U 19) 0 2 0) 0 2 1, i1, fun h => absurd rfl h, Or.inl ⟨rfl, rfl, rfl⟩, ?_, ?_, fun h => absurd h one_ne, fails 1⟩
    · unfold f_X12_thought f_X12_fails
      rw [tx_let_q, i2, tx_b1_q, if_pos rfl, tx_let_q, tx_b2_q]
    · unfold f_X12_thrown
      rw [up2_e]
  have hin : vp_in (nI t) 12 := vp_in_nI (by omega) (by omega)
  have ck : ∀ k : Option (Int32 × S32), tx_ck (nI t) 24 k = k := fun k => tx_ck_q (j := t) (n := 24) (by omega) (by omega) k
  have cl : (nI t).toNatClampNeg = t := nI_clamp (n := t) (by omega)
  have mr : ∀ r, r ≠ 0 → (up2 (U 19) 0 2 0) r t = U 19 r t := fun r hr => by rw [up2_n _ _ _ hr]
  obtain ⟨h7, h8, h9, h10⟩ := hbt t ht
  have h11 := hst t ht
  obtain ⟨h12, h13⟩ := hwt t ht
  rw [pj_in (rl12 (by simp) (by omega))] at h7 h8 h9 h10 h11
  rw [show 12 * 0 + t = t by omega, pj_in (rl12 (by simp) (by omega))] at h12 h13
  have h13b := hwi.2.2.1 t ht
  have R1 : f_X12_thrown fu (up2 (U 19) 0 2 0) (V 19) = some 0 := by
    unfold f_X12_thrown
    rw [up2_e]
  have D : f_X12_thought fu (V 19) (U 19) (nI t) y2 = (if y2 = (0 : Int32) then some (U 19 26 t, up2 (U 19) 0 2 0) else if y2 = (1 : Int32) then some (U 19 27 t, up2 (U 19) 0 2 0) else if y2 = (2 : Int32) then some (U 19 28 t, up2 (U 19) 0 2 0) else if y2 = (3 : Int32) then some (U 19 29 t, up2 (U 19) 0 2 0) else if y2 = (4 : Int32) then some (U 19 50 t, up2 (U 19) 0 2 0) else if y2 = (5 : Int32) then some (U 19 51 t, up2 (U 19) 0 2 0) else if y2 = (6 : Int32) then (if U 19 52 t = (0 : Int32) then some ((0 : Int32), up2 (U 19) 0 2 0) else some ((1 : Int32), up2 (U 19) 0 2 0)) else some (0, up2 (up2 (U 19) 0 2 0) 0 2 2)) := by
    unfold f_X12_thought f_X12_fails
    rw [tx_let_q, i2, tx_b1_q, if_neg one_ne, ck, ck, ck, ck, ck, ck, ck, cl, mr 26 (by decide), mr 27 (by decide), mr 28 (by decide), mr 29 (by decide), mr 50 (by decide), mr 51 (by decide), mr 52 (by decide), tx_let_q, tx_b2_q]
  have fin : ∀ x, thV (U 2) (U 1) (nI t) y2 = some x → f_X12_thought fu (V 19) (U 19) (nI t) y2 = some (x, up2 (U 19) 0 2 0) → ∃ (r0 r bb : Int32) (fo' : Nat → Int64) (zu_M : S32), f_X0_isThought fu (U 2) (nI t) = some r0 ∧ (¬ r0 = 0 → vp_in (nI t) 12) ∧ THK r0 (thV (U 2) (U 1) (nI t) y2) fo r fo' ∧ f_X12_thought fu (V 19) (U 19) (nI t) y2 = some (bb, zu_M) ∧ f_X12_thrown fu zu_M (V 19) = some r ∧ (r = 0 → fo' 0 = bb.toInt64) ∧ RR k q (va_up U 19 zu_M) V :=
    fun x e1 e2 => ⟨1, 0, x, vp_updL fo 0 x.toInt64, up2 (U 19) 0 2 0, i1, fun _ => hin, Or.inr (Or.inr ⟨one_ne, x, e1, rfl, rfl⟩), e2, R1, fun _ => upL_e _ _, R0⟩
  by_cases z0 : y2 = (0 : Int32)
  · exact fin (U 2 7 t) (by unfold thV; rw [if_pos z0, cl]) (by rw [D, if_pos z0, h7])
  by_cases z1 : y2 = (1 : Int32)
  · exact fin (U 2 8 t) (by unfold thV; rw [if_neg z0, if_pos z1, cl]) (by rw [D, if_neg z0, if_pos z1, h8])
  by_cases z2 : y2 = (2 : Int32)
  · exact fin (U 2 9 t) (by unfold thV; rw [if_neg z0, if_neg z1, if_pos z2, cl]) (by rw [D, if_neg z0, if_neg z1, if_pos z2, h9])
  by_cases z3 : y2 = (3 : Int32)
  · exact fin (U 2 10 t) (by unfold thV; rw [if_neg z0, if_neg z1, if_neg z2, if_pos z3, cl]) (by rw [D, if_neg z0, if_neg z1, if_neg z2, if_pos z3, h10])
  by_cases z4 : y2 = (4 : Int32)
  · exact fin (U 1 11 t) (by unfold thV; rw [if_neg z0, if_neg z1, if_neg z2, if_neg z3, if_pos z4, cl]) (by rw [D, if_neg z0, if_neg z1, if_neg z2, if_neg z3, if_pos z4, h11])
  by_cases z5 : y2 = (5 : Int32)
  · exact fin (U 1 12 t) (by unfold thV; rw [if_neg z0, if_neg z1, if_neg z2, if_neg z3, if_neg z4, if_pos z5, cl]) (by rw [D, if_neg z0, if_neg z1, if_neg z2, if_neg z3, if_neg z4, if_pos z5, h12])
  by_cases z6 : y2 = (6 : Int32)
  · refine fin (U 1 13 t) (by unfold thV; rw [if_neg z0, if_neg z1, if_neg z2, if_neg z3, if_neg z4, if_neg z5, if_pos z6, cl]) ?_
    rw [D, if_neg z0, if_neg z1, if_neg z2, if_neg z3, if_neg z4, if_neg z5, if_pos z6, ← h13]
    rcases h13b with e | e
    · rw [e, if_pos rfl]
    · rw [e, if_neg one_ne]
  · refine ⟨1, 2, 0, fo, up2 (up2 (U 19) 0 2 0) 0 2 2, i1, fun _ => hin, Or.inr (Or.inl ⟨one_ne, ?_, rfl, rfl⟩), ?_, ?_, fun h => absurd h (by decide), fails 2⟩
    · unfold thV
      rw [if_neg z0, if_neg z1, if_neg z2, if_neg z3, if_neg z4, if_neg z5, if_neg z6]
    · rw [D, if_neg z0, if_neg z1, if_neg z2, if_neg z3, if_neg z4, if_neg z5, if_neg z6]
    · unfold f_X12_thrown
      rw [up2_e]
