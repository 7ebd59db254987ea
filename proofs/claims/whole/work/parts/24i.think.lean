/-! thoughts are had, and fade -/
theorem think_loop (fu : Nat) {B L : S32} {b np nt nr x : Nat} {S : Nat → Prop} (v : S64) : ∀ (m t : Nat) (W M : S32) (nc nf : Nat), WR B L W M b np nt nr x S → t + m = nt → m < nc → m < nf →
    ∃ W' M', f_X10_think_L2 fu B nc W (nI t) = some W' ∧ f_X12_weekGoes_L7 fu nf M v (nI b) (nI t) = f_X12_weekGoes_L105 fu fu M' v (nI b) 0 ∧ WR B L W' M' b np nt nr x S ∧ FR b M M' ∧ (∀ q, q ≠ 11 → q ≠ 12 → W' q = W q) ∧ (∀ q, q ≠ 50 → q ≠ 51 → M' q = M q) := by
  intro m
  induction m with
  | zero =>
    intro t W M nc nf h ht hc hf2
    obtain ⟨nc, rfl⟩ := pos_ex hc
    obtain ⟨nf, rfl⟩ := pos_ex hf2
    have htn : t = nt := by omega
    subst htn
    obtain ⟨⟨hb, ⟨⟨hnp, hnt, hnr⟩, ⟨b1, m1⟩, ⟨b5, m5⟩, -⟩, -⟩, -⟩ := id h
    refine ⟨W, M, ?_, ?_, h, FR.refl _ _, fun _ _ _ => rfl, fun _ _ _ => rfl⟩
    · show f_X10_think_J2 _ _ _ _ _ = _
      unfold f_X10_think_J2
      rw [b5, if_pos (nI_le (by omega) (by omega))]
    · show f_X12_weekGoes_J7 _ _ _ _ _ _ = _
      unfold f_X12_weekGoes_J7
      rw [m5, if_pos (nI_le (by omega) (by omega))]
  | succ m ih =>
    intro t W M nc nf h ht hc hf2
    obtain ⟨nc, rfl⟩ := pos_ex hc
    obtain ⟨nf, rfl⟩ := pos_ex hf2
    obtain ⟨⟨hb, ⟨⟨hnp, hnt, hnr⟩, ⟨b1, m1⟩, ⟨b5, m5⟩, ⟨b10, m10⟩, hbt, hbi⟩, hlw, hfl⟩, ⟨hth, hpp, hw0⟩, hin⟩ := id h
    have htn : t < nt := by omega
    have C : f_X10_think_L2 fu B (nc + 1) W (nI t) = if W 11 t = 0 ∧ B 9 t = W 0 1 then f_X10_think_L2 fu B nc (up2 (up2 W 11 t 1) 12 t (B 7 t)) (nI (t + 1)) else f_X10_think_L2 fu B nc W (nI (t + 1)) := by
      show f_X10_think_J2 _ _ _ _ _ = _
      unfold f_X10_think_J2 f_X10_think_J66
      have ck := fun k : Option S32 => tx_ck_q (j := t) (n := 12) (by omega) (by omega) k
      rw [b5, if_neg (ge_lit (by omega) (by omega)), if_neg (ge12 (by omega)), nI_clamp (by omega), ck, nI_1]
      by_cases h1 : W 11 t = 0
      · rw [if_pos h1, ck]
        by_cases h2 : B 9 t = W 0 1
        · rw [if_pos h2, if_pos ⟨h1, h2⟩, ck, tx_let_q, ck, ck, tx_let_q]
          rfl
        · rw [if_neg h2, if_neg (fun z => h2 z.2)]
          rfl
      · rw [if_neg h1, if_neg (fun z => h1 z.1)]
        rfl
    have R : f_X12_weekGoes_L7 fu (nf + 1) M v (nI b) (nI t) = if M 50 (12 * b + t) = 0 ∧ M 28 t = M 59 b ∧ ¬ (M 26 t = M 0 66 ∨ nI t = M 0 67) then f_X12_weekGoes_L7 fu nf (up2 (up2 M 50 (12 * b + t) 1) 51 (12 * b + t) (M 26 t)) v (nI b) (nI (t + 1)) else f_X12_weekGoes_L7 fu nf M v (nI b) (nI (t + 1)) := by
      show f_X12_weekGoes_J7 _ _ _ _ _ _ = _
      unfold f_X12_weekGoes_J7 f_X12_weekGoes_J97
      have ck := fun k : Option (S32 × S64) => tx_ck_q (j := 12 * b + t) (n := 24) (by omega) (by omega) k
      have ck' := fun k : Option (S32 × S64) => tx_ck_q (j := t) (n := 24) (by omega) (by omega) k
      rw [m5, if_neg (ge_lit (by omega) (by omega)), ix12, nI_clamp (n := 12 * b + t) (by omega), nI_clamp (n := t) (by omega), nI_clamp (n := b) (by omega), nI_1, ck]
      by_cases h1 : M 50 (12 * b + t) = 0
      · rw [if_pos h1, ck', ck2 hb]
        by_cases h2 : M 28 t = M 59 b
        · rw [if_pos h2, ck']
          by_cases h3 : M 26 t = M 0 66
          · rw [if_pos h3, if_neg (fun z => z.2.2 (Or.inl h3))]
            rfl
          · rw [if_neg h3]
            by_cases h4 : nI t = M 0 67
            · rw [if_pos h4, if_neg (fun z => z.2.2 (Or.inr h4))]
              rfl
            · rw [if_neg h4, if_pos ⟨h1, h2, fun z => z.elim h3 h4⟩, ck, tx_let_q, ck', ck, tx_let_q, up2_n _ _ _ (show (26 : Nat) ≠ 50 by decide)]
              rfl
        · rw [if_neg h2, if_neg (fun z => h2 z.2.1)]
          rfl
      · rw [if_neg h1, if_neg (fun z => h1 z.1)]
        rfl
    obtain ⟨hs, hh2, -⟩ := hth t htn
    obtain ⟨t7, t8, t9, t10⟩ := hbt t htn
    have key : (W 11 t = 0 ∧ B 9 t = W 0 1) ↔ (M 50 (12 * b + t) = 0 ∧ M 28 t = M 59 b ∧ ¬ (M 26 t = M 0 66 ∨ nI t = M 0 67)) := by
      rw [t9, hw0]
      rcases hs with ⟨e1, e2⟩ | ⟨e1, e2, e3⟩
      · constructor
        · rintro ⟨a1, a2⟩
          exact ⟨e1 ▸ a1, a2, e2 a1⟩
        · rintro ⟨a1, a2, -⟩
          exact ⟨e1.trans a1, a2⟩
      · constructor
        · rintro ⟨a1, -⟩
          rw [e1] at a1
          exact absurd a1 (by decide)
        · rintro ⟨-, -, a3⟩
          exact absurd e3 a3
    by_cases hc1 : W 11 t = 0 ∧ B 9 t = W 0 1
    · rw [if_pos hc1] at C
      rw [if_pos (key.mp hc1), ← t7] at R
      obtain ⟨⟨a, ha, ea⟩, -⟩ := hbi.2.1 t htn
      obtain ⟨W', M', g1, g2, g3, g4, g5, g6⟩ := ih (t + 1) _ _ nc nf (h.th htn (s := 1) (y := B 7 t) (Or.inl ⟨rfl, a, ha, ea⟩)) (by omega) (by omega) (by omega)
      refine ⟨W', M', C.trans g1, R.trans g2, g3, FR.trans (((FR.refl b M).up _ (by unfold sc; omega)).up _ (by unfold sc; omega)) g4, fun q h1 h2 => ?_, fun q h1 h2 => ?_⟩
      · rw [g5 q h1 h2, up2_n _ _ _ h2, up2_n _ _ _ h1]
      · rw [g6 q h1 h2, up2_n _ _ _ h2, up2_n _ _ _ h1]
    · rw [if_neg hc1] at C
      rw [if_neg (fun z => hc1 (key.mpr z))] at R
      obtain ⟨W', M', g1, g2, g3, g4, g5, g6⟩ := ih (t + 1) _ _ nc nf h (by omega) (by omega) (by omega)
      exact ⟨W', M', C.trans g1, R.trans g2, g3, g4, g5, g6⟩
theorem fade_loop (fu : Nat) (hf : 1000 ≤ fu) {B L : S32} {b np nt nr x : Nat} {S : Nat → Prop} (hS : ∀ p, p < np → S p) : ∀ (m t : Nat) (W : S32) (vL vN : S64) (M : S32) (v : S64) (nc nf : Nat), WR B L W M b np nt nr x S → t + m = nt → m < nc → m < nf →
    ∃ W' vL' vN' M' v', f_X10_forget_L2 fu B L nc W vL vN (nI t) = some (W', vL', vN') ∧ f_X12_weekGoes_L146 fu nf M v (nI b) (nI t) = some (up2 M' 59 b (M' 59 b + 1), v') ∧ WR B L W' M' b np nt nr x S ∧ FR b M M' ∧ vF v v' ∧ (∀ q, q ≠ 11 → q ≠ 12 → W' q = W q) ∧ M' 0 60 = M 0 60 ∧ (∀ q, 52 ≤ q → M' q = M q) := by
  intro m
  induction m with
  | zero =>
    intro t W vL vN M v nc nf h ht hc hf2
    obtain ⟨nc, rfl⟩ := pos_ex hc
    obtain ⟨nf, rfl⟩ := pos_ex hf2
    have htn : t = nt := by omega
    subst htn
    obtain ⟨⟨hb, ⟨⟨hnp, hnt, hnr⟩, ⟨b1, m1⟩, ⟨b5, m5⟩, -⟩, -⟩, -⟩ := id h
    refine ⟨W, vL, vN, M, v, ?_, ?_, h, FR.refl _ _, vF.refl _, fun _ _ _ => rfl, rfl, fun _ _ => rfl⟩
    · show f_X10_forget_J2 _ _ _ _ _ _ _ _ = _
      unfold f_X10_forget_J2
      rw [b5, if_pos (nI_le (by omega) (by omega))]
    · show f_X12_weekGoes_J146 _ _ _ _ _ _ = _
      unfold f_X12_weekGoes_J146
      rw [m5, if_pos (nI_le (by omega) (by omega)), ck2 hb, ck2 hb, tx_let_q, nI_clamp (by omega)]
  | succ m ih =>
    intro t W vL vN M v nc nf h ht hc hf2
    obtain ⟨nc, rfl⟩ := pos_ex hc
    obtain ⟨nf, rfl⟩ := pos_ex hf2
    obtain ⟨⟨hb, ⟨⟨hnp, hnt, hnr⟩, ⟨b1, m1⟩, ⟨b5, m5⟩, ⟨b10, m10⟩, hbt, hbi⟩, hlw, hfl⟩, ⟨hth, hpp, hw0⟩, hin⟩ := id h
    have htn : t < nt := by omega
    have hone := hth.one htn
    obtain ⟨hs, hh2, -⟩ := hth t htn
    obtain ⟨t7, t8, t9, t10⟩ := hbt t htn
    have ckc := fun k : Option (S32 × S64 × S64) => tx_ck_q (j := t) (n := 12) (by omega) (by omega) k
    have ck := fun k : Option (S32 × S64) => tx_ck_q (j := 12 * b + t) (n := 24) (by omega) (by omega) k
    have ck' := fun k : Option (S32 × S64) => tx_ck_q (j := t) (n := 24) (by omega) (by omega) k
    have C : f_X10_forget_L2 fu B L (nc + 1) W vL vN (nI t) = if W 11 t = 1 then (tx_b3 (f_X10_hideOf fu W B L vL vN (nI t)) fun (r_7 : Int32) (v_L_8 : S64) (v_N_9 : S64) => if (W 0 1 - B 9 t) ≤ r_7 then f_X10_forget_L2 fu B L nc W v_L_8 v_N_9 (nI (t + 1)) else f_X10_forget_L2 fu B L nc (up2 (up2 W 11 t 2) 12 t (-1)) v_L_8 v_N_9 (nI (t + 1))) else f_X10_forget_L2 fu B L nc W vL vN (nI (t + 1)) := by
      show f_X10_forget_J2 _ _ _ _ _ _ _ _ = _
      unfold f_X10_forget_J2 f_X10_forget_J65
      rw [b5, if_neg (ge_lit (by omega) (by omega)), if_neg (ge12 (by omega)), nI_clamp (by omega), ckc, nI_1]
      by_cases h1 : W 11 t = 1
      · rw [if_pos h1, if_pos h1, ckc]
        simp only [ckc, tx_let_q]
      · rw [if_neg h1, if_neg h1]
        rfl
    by_cases h1 : W 11 t = 1
    · rw [if_pos h1] at C
      obtain ⟨p, hp, ep⟩ : ∃ p, p < np ∧ W 12 t = nI p := by
        rcases hin.2.1 t htn with ⟨-, e⟩ | ⟨e | e, -⟩
        · exact e
        · rw [h1] at e; exact absurd e (by decide)
        · rw [h1] at e; exact absurd e (by decide)
      obtain ⟨d, vL', vN', z, v1, v2, d1, d2, d3, d4, d5, d6⟩ := hids fu hf h vL vN v htn hp (hS p hp) ep
      rw [d2, tx_b3_q] at C
      have R : f_X12_weekGoes_L146 fu (nf + 1) M v (nI b) (nI t) = if (W 0 1 - B 9 t) ≤ nI d then f_X12_weekGoes_L146 fu nf (up2 M 0 48 z) v2 (nI b) (nI (t + 1)) else f_X12_weekGoes_L146 fu nf (up2 (up2 (up2 M 0 48 z) 50 (12 * b + t) 2) 51 (12 * b + t) (-1)) v2 (nI b) (nI (t + 1)) := by
        show f_X12_weekGoes_J146 _ _ _ _ _ _ = _
        unfold f_X12_weekGoes_J146 f_X12_weekGoes_J175 f_X12_fades
        rw [m5, if_neg (ge_lit (by omega) (by omega)), ix12, nI_clamp (n := 12 * b + t) (by omega), nI_clamp (n := t) (by omega), nI_clamp (n := b) (by omega), nI_1, ck, if_pos (hone.mp h1), ck, tx_let_q, ck', ← hh2, ep, ← t8, d3, tx_b1_q, d4, tx_b1_q]
        have d5' : f_X12_boundLaw fu M v1 (2 : Int32) ((8 : Int32) + W 6 p) (99 : Int32) = some (nI d, up2 M 0 48 z, v2) := d5
        rw [d5', tx_b3_q, ck2 hb, ck', up2_n M _ _ (show (59 : Nat) ≠ 0 by decide), up2_n M _ _ (show (28 : Nat) ≠ 0 by decide), ← hw0, ← t9]
        by_cases h2 : W 0 1 - B 9 t ≤ nI d
        · rw [if_pos h2, if_neg (Int32.not_lt.mpr h2)]
          rfl
        · rw [if_neg h2, if_pos (Int32.not_le.mp h2), ck, tx_let_q, ck, tx_let_q]
          rfl
      have h2 := h.u0 (i := 48) z (Or.inl rfl)
      by_cases hc1 : W 0 1 - B 9 t ≤ nI d
      · rw [if_pos hc1] at C R
        obtain ⟨W', vL2, vN2, M', v', g1, g2, g3, g4, g5, g6, g7, g8⟩ := ih (t + 1) W vL' vN' _ v2 nc nf h2 (by omega) (by omega) (by omega)
        exact ⟨W', vL2, vN2, M', v', C.trans g1, R.trans g2, g3, FR.trans ((FR.refl b M).u48 z) g4, d6.trans g5, g6, g7.trans (up2_i _ _ _ (by decide)), fun q hq => (g8 q hq).trans (up2_n _ _ _ (by omega))⟩
      · rw [if_neg hc1] at C R
        obtain ⟨W', vL2, vN2, M', v', g1, g2, g3, g4, g5, g6, g7, g8⟩ := ih (t + 1) _ vL' vN' _ v2 nc nf (h2.th htn (s := 2) (y := -1) (Or.inr ⟨rfl, rfl⟩)) (by omega) (by omega) (by omega)
        refine ⟨W', vL2, vN2, M', v', C.trans g1, R.trans g2, g3, FR.trans ((((FR.refl b M).u48 z).up _ (by unfold sc; omega)).up _ (by unfold sc; omega)) g4, d6.trans g5, fun q a1 a2 => ?_, ?_, fun q hq => ?_⟩
        · rw [g6 q a1 a2, up2_n _ _ _ a2, up2_n _ _ _ a1]
        · rw [g7, up2_n _ _ _ (by decide), up2_n _ _ _ (by decide), up2_i _ _ _ (by decide)]
        · rw [g8 q hq, up2_n _ _ _ (by omega), up2_n _ _ _ (by omega), up2_n _ _ _ (by omega)]
    · rw [if_neg h1] at C
      have R : f_X12_weekGoes_L146 fu (nf + 1) M v (nI b) (nI t) = f_X12_weekGoes_L146 fu nf M v (nI b) (nI (t + 1)) := by
        show f_X12_weekGoes_J146 _ _ _ _ _ _ = _
        unfold f_X12_weekGoes_J146 f_X12_weekGoes_J175
        rw [m5, if_neg (ge_lit (by omega) (by omega)), ix12, nI_clamp (n := 12 * b + t) (by omega), nI_1, ck, if_neg (fun z => h1 (hone.mpr z))]
        rfl
      obtain ⟨W', vL2, vN2, M', v', g1, g2, g3, g4, g5, g6, g7, g8⟩ := ih (t + 1) W vL vN M v nc nf h (by omega) (by omega) (by omega)
      exact ⟨W', vL2, vN2, M', v', C.trans g1, R.trans g2, g3, g4, g5, g6, g7, g8⟩
