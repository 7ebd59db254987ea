/-! what was found -/
theorem RR_FD {k q : Nat → Nat} {U : Nat → S32} {V : Nat → S64} (hR : RR k q U V) : ∃ n, n ≤ 24 ∧ U 4 0 5 = nI n ∧ (up2 (U 19) 0 2 0) 0 71 = nI n ∧ U 4 0 6 = (up2 (U 19) 0 2 0) 0 72 ∧ (U 4 0 6 = -1 ∨ ∃ a, a ≤ n ∧ U 4 0 6 = nI a) := by
  obtain ⟨np, nt, nr, -, -, -, ⟨n, h1, h2, h3, h4, h5, -⟩, -⟩ := hR
  refine ⟨n, h1, h2, ?_, ?_, h5⟩
  · rw [up_t _ (by decide)]; exact h3
  · rw [up_t _ (by decide)]; exact h4
/-- finds and the reference's rows of them change alone -/
theorem RR_F {k q : Nat → Nat} {U : Nat → S32} {V : Nat → S64} {F' M' : S32} (hR : RR k q U V) (hr : ∀ r, r ≠ 0 → r ≠ 74 → pj M' r = pj (U 19) r) (h0 : ∀ i, i ≠ 71 → i ≠ 72 → pj M' 0 i = pj (U 19) 0 i) (hF : ∀ nt, fdOK (U 4) (pj (U 19)) nt → nt ≤ 12 → fdOK F' (pj M') nt) : RR k q (va_up (va_up U 4 F') 19 M') V := by
  obtain ⟨np, nt, nr, ⟨hb, hbi, hlw⟩, ⟨hw, hwi, hwb, hst, hnb⟩, ⟨ht, hz, hwo⟩, hfd, him, hud⟩ := hR
  refine ⟨np, nt, nr, ⟨hb.c (fun r h1 h2 => hr r (by omega) (by omega)) (h0 _ (by decide) (by decide)) (h0 _ (by decide) (by decide)) (h0 _ (by decide) (by decide)), hbi, hlw.c (fun r h1 h2 => hr r (by omega) (by omega)) (h0 _ (by decide) (by decide))⟩, ⟨hw.c (fun r h1 h2 => hr r (by omega) (by omega)), hwi, hwb, ?_, hnb⟩, ⟨ht.c (h0 _ (by decide) (by decide)) (hr _ (by decide) (by decide)), ?_, ?_⟩, hF nt hfd hb.1.2.1, him.c (h0 _ (by decide) (by decide)) (hr _ (by decide) (by decide)) (hr _ (by decide) (by decide)), hud.c (h0 _ (by decide) (by decide)) (hr _ (by decide) (by decide))⟩
  · intro t h
    show U 1 11 t = pj M' 50 t
    rw [hr 50 (by decide) (by decide)]
    exact hst t h
  · show U 12 0 2 = pj M' 0 4 ∧ U 12 0 3 = pj M' 0 5
    rw [h0 4 (by decide) (by decide), h0 5 (by decide) (by decide)]
    exact hz
  · intro j hj
    show pj M' 4 j = _
    rw [hr 4 (by decide) (by decide)]
    exact hwo j hj
theorem sp35 (fu : Nat) : SP35 RR fu := by
  intro k q U V y1 hR
  obtain ⟨n, hn, f5, m5, f6, hl⟩ := RR_FD hR
  unfold f_X11_known f_X12_known f_X12_isIn
  simp only [tx_let_q]
  rw [f5, m5]
  by_cases a1 : y1 < -1
  · rw [if_pos a1, if_pos a1]
    refine ⟨_, _, _, rfl, rfl, ?_⟩
    exact RR_F hR (fun r h1 h2 => pj_row _ _ h1) (fun i h1 h2 => congrFun (congrFun (pj_thrown (U 19) 0) 0) i) (fun nt h _ => by rw [pj_thrown]; exact h)
  rw [if_neg a1, if_neg a1]
  by_cases a2 : y1 ≤ nI n
  · rw [if_pos a2, if_neg (Int32.not_lt.mpr a2), tx_b1_q, if_neg one_ne]
    refine ⟨_, _, _, rfl, rfl, ?_⟩
    refine RR_F hR (fun r h1 h2 => by rw [pj_row _ _ h1, pj_row _ _ h1]) (fun i h1 h2 => by rw [pj_f _ _ h2]; exact congrFun (congrFun (pj_thrown (U 19) 0) 0) i) (fun nt h hnt => ?_)
    obtain ⟨n', g1, g2, g3, g4, g5, g6⟩ := h
    have en : n' = n := by
      have e := g2.symm.trans f5
      exact (nI_eq (by omega) (by omega)).mp e
    subst en
    refine ⟨n', g1, ?_, ?_, ?_, ?_, ?_⟩
    · rw [up2_i _ _ _ (by decide)]; exact g2
    · rw [pj_f _ _ (by decide), pj_thrown]; exact g3
    · rw [up2_e, pj_e _ _ (by decide)]
    · rw [up2_e]
      by_cases b : y1 < 0
      · left
        have := Int32.lt_iff_toInt_lt.mp b
        have h2 := Int32.le_iff_toInt_le.mp (Int32.not_lt.mp a1)
        apply Int32.toInt_inj.mp
        have e1 : (0 : Int32).toInt = 0 := rfl
        have e2 : (-1 : Int32).toInt = -1 := rfl
        omega
      · right
        obtain ⟨j, hj, rfl⟩ := nI_of b
        exact ⟨j, (nI_leI hj (by omega)).mp a2, rfl⟩
    · intro i hi
      rw [up2_n _ _ _ (by decide), up2_n _ _ _ (by decide), up2_n _ _ _ (by decide), up2_n _ _ _ (by decide), pj_row _ _ (by decide), pj_thrown]
      exact g6 i hi
  · rw [if_neg a2, if_pos (Int32.not_le.mp a2)]
    refine ⟨_, _, _, rfl, rfl, ?_⟩
    exact RR_F hR (fun r h1 h2 => pj_row _ _ h1) (fun i h1 h2 => congrFun (congrFun (pj_thrown (U 19) 0) 0) i) (fun nt h _ => by rw [pj_thrown]; exact h)
