/-! a new object -/
def plM (M : S32) : S32 := up2 (up2 (up2 (up2 (up2 (up2 (up2 (up2 (up2 (up2 (up2 (up2 (up2 (up2 M 0 16 0) 0 17 0) 0 18 0) 0 19 0) 0 43 0) 21 0 0) 33 3 0) 21 1 0) 33 4 0) 21 2 0) 33 5 0) 22 3 20) 22 4 5) 22 5 0
theorem plM_f (fu : Nat) (hf : 1000 ≤ fu) (v : S64) (M : S32) : f_X12_plain fu v M = some (plM M) := by
  obtain ⟨f, rfl⟩ : ∃ f, fu = f + 4 := ⟨fu - 4, by omega⟩
  rfl
theorem rlw4 (i : Nat) : rl 4 i = true := by simp [rl]
theorem init_q (fu : Nat) (hf : 1000 ≤ fu) : INIT RR fu := by
  have hB : bkU i_X0_u (plM i_X12_u) 0 0 0 := ⟨⟨by omega, by omega, by omega⟩, ⟨rfl, rfl⟩, ⟨rfl, rfl⟩, ⟨rfl, rfl⟩, fun p hp => absurd hp (by omega), fun p hp => absurd hp (by omega), fun p hp => absurd hp (by omega), rfl, rfl, rfl⟩
  have hbi : bkIn i_X0_u 0 0 0 := ⟨fun p hp => absurd hp (by omega), fun p hp => absurd hp (by omega), fun p hp => absurd hp (by omega), ⟨20, by omega, rfl⟩, ⟨5, by omega, by omega, rfl⟩, ⟨0, by omega, rfl⟩⟩
  have hl : lwU i_X5_u (plM i_X12_u) := by
    refine ⟨0, by omega, rfl, rfl, fun i hi => absurd hi (by omega), fun j hj => Or.inl ?_⟩
    have : j = 0 ∨ j = 1 ∨ j = 2 := by omega
    rcases this with rfl | rfl | rfl <;> exact ⟨rfl, rfl⟩
  obtain ⟨W, M', v', c1, c2, c3, c4, c5, ⟨c6, c7, c8, c9⟩, c10, c11⟩ := told_q fu hf (W3 := i_X10_u) (Tw := i_X10_u) (v := i_X12_v) hB hbi hl (Or.inl rfl) (Or.inl rfl)
  refine ⟨W, plM i_X12_u, M', v', c1, plM_f fu hf _ _, c2, fun k => ?_⟩
  show RX (k 0) (k 0) i_X11_u W i_X0_u i_X2_u i_X1_u i_X10_u i_X7_u i_X5_u i_X6_u (pj M') (v' 0 59) (v' 0 80) i_X10_u
  refine ⟨0, 0, 0, ⟨c3, hbi, c4⟩, c5, ⟨⟨0, by omega, rfl, ?_, fun j hj => absurd hj (by omega)⟩, ⟨?_, ?_⟩, fun j _ => ?_⟩, ⟨0, by omega, rfl, ?_, ?_, Or.inl rfl, fun i hi => absurd hi (by omega)⟩, ⟨?_, Or.inl rfl⟩, ⟨0, by omega, rfl, ?_, trivial⟩⟩
  · rw [pj_in (by decide), c10 1 (by omega)]; rfl
  · rw [pj_in (by decide), c10 4 (by omega)]; rfl
  · rw [pj_in (by decide), c10 5 (by omega)]; rfl
  · rw [pj_in (rlw4 j), c11 4 (by decide) (by omega)]; rfl
  · rw [pj_in (by decide), c6]; rfl
  · rw [pj_in (by decide), c7]; rfl
  · rw [pj_in (by decide), c9]; rfl
  · rw [pj_in (by decide), c8]; rfl
