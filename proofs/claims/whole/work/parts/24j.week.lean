/-! one week, and many -/
theorem WR.pay {B L W M : S32} {b np nt nr x : Nat} {S : Nat → Prop} (h : WR B L W M b np nt nr x S) {p a : Nat} (d : Nat) (hp : p < np) (hS : S p) (ha : a ≤ 999) : WR B L (payW W p a d) (payM M (6 * b + p) a d) b np nt nr x S := by
  obtain ⟨-, p7, p8, -, -⟩ := h.2.1.2.1 p hS
  unfold payW payM
  rw [← p7, ← p8]
  exact h.pp hp ⟨a - min a d, by omega, rfl⟩ ⟨0, by omega, rfl⟩
theorem WR.wk {B L W M : S32} {b np nt nr x : Nat} {S : Nat → Prop} (h : WR B L W M b np nt nr x S) : WR B L (up2 W 0 1 (W 0 1 + 1)) (up2 M 59 b (M 59 b + 1)) b np nt nr x S := by
  have e : EQ0 M (up2 M 59 b (M 59 b + 1)) := (EQ0.refl M).up _ _ (by decide)
  obtain ⟨⟨h1, h2, h3, h4⟩, ⟨h5, h6, h7⟩, h8, h9, h10, h11, h12⟩ := h
  refine ⟨⟨h1, h2.c e, h3.e e, flK.c (M := M) ?_ e⟩, ⟨fun t ht => ?_, fun p hp => ?_, ?_⟩, fun p hp => ?_, fun u hu => ?_, fun u hu => ?_, ?_, ?_⟩
  · exact h4
  · rw [bar.c e]
    exact h5 t ht
  · exact h6 p hp
  · rw [up2_e, up2_e, h7]
  · exact h8 p hp
  · exact h9 u hu
  · exact h10 u hu
  · rw [up2_i _ _ _ (by decide)]; exact h11
  · rw [up2_i _ _ _ (by decide)]; exact h12
/-- some state of the reference beside the class's -/
def PH (B L W : S32) (b np nt nr x : Nat) (x3 : Int32) : Prop := ∃ M v, WR B L W M b np nt nr x (fun p => p < np) ∧ drOK W M v x3 ∧ M 0 65 = 0
/-- taxes while doors below q are visited in week w -/
def wkD (W : S32) (np w q : Nat) : Prop := ∀ p, p < np → (∃ a, a ≤ 999 * (w + if p < q then 1 else 0) ∧ W 7 p = nI a) ∧ (∃ a, a ≤ 999 * (w + if p < q then 1 else 0) ∧ W 8 p = nI a)
/-- what is paid grows -/
def moD (W W' : S32) (np q : Nat) : Prop := ∀ p, p < np → ∃ c, c ≤ (if q ≤ p then 999 else 0) ∧ W' 7 p = W 7 p + nI c
def mo (W W' : S32) (np k : Nat) : Prop := ∀ p, p < np → ∃ c, c ≤ 999 * k ∧ W' 7 p = W 7 p + nI c
theorem i32_a3 (a b c : Int32) : a + b + c = a + (b + c) := by grind
theorem mo.trans {W W' W'' : S32} {np k l : Nat} (h : mo W W' np k) (h2 : mo W' W'' np l) : mo W W'' np (k + l) := by
  intro p hp
  obtain ⟨c, h1, e1⟩ := h p hp
  obtain ⟨d, h3, e2⟩ := h2 p hp
  exact ⟨c + d, by omega, by rw [e2, e1, i32_a3, nI_add]⟩
theorem mo.refl {W W' : S32} {np : Nat} (k : Nat) (h : W' 7 = W 7) : mo W W' np k := fun p _ => ⟨0, by omega, by rw [h, add_n0]⟩
theorem doors (fu : Nat) (hf : 1000 ≤ fu) {B L : S32} {b np nt nr x w : Nat} {x3 : Int32} (hw : w ≤ 20000) : ∀ (m q : Nat) (W : S32) (vL vN : S64) (M : S32) (v : S64) (nc nf : Nat), WR B L W M b np nt nr x (fun p => p < np) → drOK W M v x3 → M 0 65 = 0 → M 59 b - M 59 b / 4 * 4 = 3 → wkD W np w q → q + m = np → m < nc → m < nf →
    ∃ W' vL' vN', (∀ K2 w1 w3, f_X10_goWeeks_L42 fu B L K2 nc W vL vN w1 x3 w3 (nI np) (nI q) = f_X10_goWeeks_J42 fu B L K2 (fun _ _ _ _ _ _ _ _ => none) W' vL' vN' w1 x3 w3 (nI np) (nI np)) ∧ (W' 0 15 = 0 → W 0 15 = 0) ∧ W' 0 1 = W 0 1 ∧ W' 0 2 = W 0 2 ∧ (wkD W' np w np ∧ moD W W' np q) ∧ PH B L W' b np nt nr x x3 ∧
      ((W 0 2 = M 58 b ∨ W' 0 15 = 0) → ∃ M' v', f_X12_weekGoes_L105 fu nf M v (nI b) (nI q) = f_X12_weekGoes_J144 fu M' v' (nI b) ∧ WR B L W' M' b np nt nr x (fun p => p < np) ∧ drOK W' M' v' x3 ∧ dF W W' v v' x3 ∧ FR b M M' ∧ rdS W W' M M' nt) := by
  intro m
  induction m with
  | zero =>
    intro q W vL vN M v nc nf h hd h65 h59 hk hq hc hf2
    obtain ⟨nc, rfl⟩ := pos_ex hc
    obtain ⟨nf, rfl⟩ := pos_ex hf2
    have hqn : q = np := by omega
    subst hqn
    obtain ⟨⟨hb, ⟨⟨hnp, hnt, hnr⟩, ⟨b1, m1⟩, ⟨b5, m5⟩, -⟩, -⟩, -⟩ := id h
    refine ⟨W, vL, vN, ?_, id, rfl, rfl, ⟨hk, fun p _ => ⟨0, by omega, (add_n0 _).symm⟩⟩, ⟨M, v, h, hd, h65⟩, fun _ => ⟨M, v, ?_, h, hd, dF.refl _ _ _, FR.refl _ _, rdS.refl _ _ _⟩⟩
    · intro K2 w1 w3
      show f_X10_goWeeks_J42 _ _ _ _ _ _ _ _ _ _ _ _ _ = _
      unfold f_X10_goWeeks_J42
      rw [if_pos (nI_le (by omega) (by omega)), if_pos (nI_le (by omega) (by omega))]
    · show f_X12_weekGoes_J105 _ _ _ _ _ _ = _
      unfold f_X12_weekGoes_J105
      rw [m1, if_pos (nI_le (by omega) (by omega))]
  | succ m ih =>
    intro q W vL vN M v nc nf h hd h65 h59 hk hq hc hf2
    obtain ⟨nc, rfl⟩ := pos_ex hc
    obtain ⟨nf, rfl⟩ := pos_ex hf2
    obtain ⟨⟨hb, ⟨⟨hnp, hnt, hnr⟩, ⟨b1, m1⟩, ⟨b5, m5⟩, ⟨b10, m10⟩, hbt, hbi⟩, hlw, hfl⟩, ⟨hth, hpp, hw0⟩, hin⟩ := id h
    have hqn : q < np := by omega
    have clq := nI_clamp (n := q) (by omega)
    have ckq := fun k : Option (S32 × S64 × S64) => tx_ck_q (j := q) (n := 6) (by omega) (by omega) k
    have C : ∀ K2 w1 w3, f_X10_goWeeks_L42 fu B L K2 (nc + 1) W vL vN w1 x3 w3 (nI np) (nI q) = tx_b1 (f_X0_isReader fu B (W 10 q)) fun (r_14 : Int32) => if r_14 = (0 : Int32) then f_X10_goWeeks_L42 fu B L K2 nc W vL vN w1 x3 w3 (nI np) (nI (q + 1)) else tx_b4 (f_X10_dueAt fu B L W vL vN (nI q) (W 10 q) x3) fun (r_18 : Int32) (u_T_19 : S32) (v_L_20 : S64) (v_N_21 : S64) => tx_b1 (f_X10_pay fu B u_T_19 (nI q) r_18) fun (u_T_23 : S32) => f_X10_goWeeks_L42 fu B L K2 nc (up2 u_T_23 9 q 0) v_L_20 v_N_21 w1 x3 w3 (nI np) (nI (q + 1)) := by
      intro K2 w1 w3
      show f_X10_goWeeks_J42 _ _ _ _ _ _ _ _ _ _ _ _ _ = _
      unfold f_X10_goWeeks_J42 f_X10_goWeeks_J94
      rw [if_neg (ge_lit (by omega) (by omega)), clq, nI_1, ckq]
      simp only [ckq, tx_let_q]
    have R : f_X12_weekGoes_L105 fu (nf + 1) M v (nI b) (nI q) = tx_b2 (f_X12_visits fu M v (nI b) (nI q)) fun (u_T_31 : S32) (v_T_32 : S64) => f_X12_weekGoes_L105 fu nf u_T_31 v_T_32 (nI b) (nI (q + 1)) := by
      show f_X12_weekGoes_J105 _ _ _ _ _ _ = _
      unfold f_X12_weekGoes_J105 f_X12_weekGoes_J132
      rw [m1, if_neg (ge_lit (by omega) (by omega)), if_pos h65, ck2 hb, nI_clamp (n := b) (by omega), if_pos h59, nI_1]
      rfl
    have V : f_X12_visits fu M v (nI b) (nI q) = if (0 : Int32) ≤ W 10 q then f_X12_visits_L23 fu fu M v (nI b) (nI q) (W 10 q) 0 0 else some (M, v) := by
      unfold f_X12_visits
      rw [ix6, tx_ck_q (by omega) (by omega), nI_clamp (n := 6 * b + q) (by omega), tx_let_q, (hpp q hqn).2.2.2.2]
    rcases (hin.1 q hqn).2.2 with ⟨hr0, e10⟩ | ⟨r, hr, e10⟩
    · -- no reader
      rw [e10] at C V
      rw [if_neg (by decide)] at V
      have e0 : f_X0_isReader fu B (-1) = some 0 := by
        rcases s_cReader fu B b10 hnr (-1) with ⟨⟨r, hr, e⟩, -⟩ | ⟨-, e⟩
        · exact absurd e.symm (m1_ne (by omega))
        · exact e
      rw [V, tx_b2_q] at R
      have hk' : wkD W np w (q + 1) := by
        intro p hp
        obtain ⟨⟨a1, a2, a3⟩, ⟨c1, c2, c3⟩⟩ := hk p hp
        refine ⟨⟨a1, ?_, a3⟩, ⟨c1, ?_, c3⟩⟩
        · by_cases z : p < q
          · rw [if_pos z] at a2; rw [if_pos (by omega)]; exact a2
          · rw [if_neg z] at a2; split <;> omega
        · by_cases z : p < q
          · rw [if_pos z] at c2; rw [if_pos (by omega)]; exact c2
          · rw [if_neg z] at c2; split <;> omega
      obtain ⟨W', vL', vN', g1, g2, g3, g4, g5, g6, g7⟩ := ih (q + 1) W vL vN M v nc nf h hd h65 h59 hk' (by omega) (by omega) (by omega)
      refine ⟨W', vL', vN', fun K2 w1 w3 => ?_, g2, g3, g4, ⟨g5.1, fun p hp => ?_⟩, g6, fun hc => ?_⟩
      · rw [C K2 w1 w3, e0, tx_b1_q, if_pos rfl]
        exact g1 K2 w1 w3
      · obtain ⟨c, h1, h2⟩ := g5.2 p hp
        refine ⟨c, ?_, h2⟩
        by_cases z : q + 1 ≤ p
        · rw [if_pos z] at h1; rw [if_pos (by omega)]; exact h1
        · rw [if_neg z] at h1; omega
      · obtain ⟨M', v', k1, k2⟩ := g7 hc
        exact ⟨M', v', R.trans k1, k2⟩
    · rw [e10] at C V
      rw [if_pos (nI_pos' (by omega))] at V
      obtain ⟨d, a, W1, vL1, vN1, d1, d2, d3, d4, d5, d6, d7⟩ := visit1 fu hf hqn (show (fun p => p < np) q from hqn) hr h vL vN hd
      have C2 : ∀ K2 w1 w3, f_X10_goWeeks_L42 fu B L K2 (nc + 1) W vL vN w1 x3 w3 (nI np) (nI q) = f_X10_goWeeks_L42 fu B L K2 nc (payW W1 q a d) vL1 vN1 w1 x3 w3 (nI np) (nI (q + 1)) := by
        intro K2 w1 w3
        rw [C K2 w1 w3, c_isR fu b10 hnr hr, tx_b1_q, if_neg one_ne, d4, tx_b4_q, pay_c fu b1 hnp hqn d2 d1 d3, tx_b1_q]
        rfl
      have hk1 : wkD (payW W1 q a d) np w (q + 1) := by
        intro p hp
        obtain ⟨⟨a1, a2, a3⟩, ⟨c1, c2, c3⟩⟩ := hk p hp
        have e7 : W1 7 p = nI a1 := (d5 7 p (by decide) (by omega)).trans a3
        have e8 : W1 8 p = nI c1 := (d5 8 p (by decide) (by omega)).trans c3
        unfold payW
        by_cases z : p = q
        · subst z
          rw [if_neg (by omega)] at a2 c2
          rw [if_pos (by omega)]
          refine ⟨⟨a1 + min a d, by omega, ?_⟩, ⟨c1 + (d - min a d), by omega, ?_⟩⟩
          · simp only [up2_a]
            simp
            rw [e7, nI_add]
          · simp only [up2_a]
            simp
            rw [e8, nI_add]
        · refine ⟨⟨a1, ?_, ?_⟩, ⟨c1, ?_, ?_⟩⟩
          · by_cases z2 : p < q
            · rw [if_pos z2] at a2; rw [if_pos (by omega)]; exact a2
            · rw [if_neg z2] at a2; rw [if_neg (by omega)]; exact a2
          · simp only [up2_a, z, and_false, if_false]
            exact e7
          · by_cases z2 : p < q
            · rw [if_pos z2] at c2; rw [if_pos (by omega)]; exact c2
            · rw [if_neg z2] at c2; rw [if_neg (by omega)]; exact c2
          · simp only [up2_a, z, and_false, if_false]
            exact e8
      have p15 : (payW W1 q a d) 0 15 = W1 0 15 := rfl
      have p1 : (payW W1 q a d) 0 1 = W 0 1 := d5 0 1 (by decide) (by omega)
      have p2 : (payW W1 q a d) 0 2 = W 0 2 := d5 0 2 (by decide) (by omega)
      have mono : ∀ W', moD (payW W1 q a d) W' np (q + 1) → moD W W' np q := by
        intro W' hm p hp
        obtain ⟨c, h1, h2⟩ := hm p hp
        have e7 : W1 7 p = W 7 p := d5 7 p (by decide) (by omega)
        by_cases z : p = q
        · subst z
          rw [if_neg (by omega)] at h1
          have : c = 0 := by omega
          subst this
          refine ⟨min a d, by rw [if_pos (by omega)]; omega, ?_⟩
          rw [h2, add_n0, ← e7]
          unfold payW
          simp only [up2_a]
          simp
        · refine ⟨c, ?_, ?_⟩
          · by_cases z2 : q + 1 ≤ p
            · rw [if_pos z2] at h1; rw [if_pos (by omega)]; exact h1
            · rw [if_neg z2] at h1; omega
          · rw [h2, ← e7]
            unfold payW
            simp only [up2_a, z, and_false, if_false]
      -- a step with a state of the reference
      have step : ∀ (M0 : S32) (v0 : S64), WR B L W M0 b np nt nr x (fun p => p < np) → drOK W M0 v0 x3 → M0 0 65 = 0 → M0 59 b - M0 59 b / 4 * 4 = 3 → (W 0 2 = M0 58 b ∨ W1 0 15 = 0) →
          ∃ M2 v2, f_X12_visits_L23 fu fu M0 v0 (nI b) (nI q) (nI r) 0 0 = some (M2, v2) ∧ WR B L (payW W1 q a d) M2 b np nt nr x (fun p => p < np) ∧ drOK (payW W1 q a d) M2 v2 x3 ∧ M2 0 65 = 0 ∧ M2 59 b - M2 59 b / 4 * 4 = 3 ∧ M2 58 b = M0 58 b ∧ dF W (payW W1 q a d) v0 v2 x3 ∧ FR b M0 M2 ∧ rdS W (payW W1 q a d) M0 M2 nt := by
        intro M0 v0 hM0 hd0 h650 h590 hc0
        obtain ⟨d', a', W1', vL1', vN1', c1, c2, c3, c4, c5, c6, c7⟩ := visit1 fu hf hqn (show (fun p => p < np) q from hqn) hr hM0 vL vN hd0
        rw [d4] at c4
        injection c4 with c4
        injection c4 with e1 c4
        injection c4 with e2 c4
        have e1 : d = d' := (nI_eq (by omega) (by omega)).mp e1
        subst e1
        subst e2
        have ea : a = a' := (nI_eq (by omega) (by omega)).mp (d3.symm.trans c3)
        subst ea
        obtain ⟨M1, v1, f1, f2, f3, f4, f5, f6, f7⟩ := c7 hc0
        refine ⟨_, v1, f1, f2.pay d hqn hqn d2, ?_, ?_, ?_, ?_, ?_, ?_, ?_⟩
        · exact f3.c (by unfold payM; rfl) rfl rfl
        · show M1 0 65 = 0
          rw [f5 0 65 (by unfold sc; omega)]; exact h650
        · show M1 59 b - M1 59 b / 4 * 4 = 3
          rw [f6 59 (by omega)]; exact h590
        · show M1 58 b = _
          rw [f6 58 (by omega)]
        · exact ⟨f4.1, f4.2.1, f4.2.2⟩
        · unfold payM
          exact (((f5.up _ (by unfold sc; omega)).up _ (by unfold sc; omega)).up _ (by unfold sc; omega)).up _ (by unfold sc; omega)
        · exact f7.trans (rdS.c rfl rfl)
      by_cases hc0 : W 0 2 = M 58 b ∨ W1 0 15 = 0
      · obtain ⟨M2, v2, s1, s2, s3, s4, s5, s6, s7, s8, s9⟩ := step M v h hd h65 h59 hc0
        rw [V, s1, tx_b2_q] at R
        obtain ⟨W', vL', vN', g1, g2, g3, g4, g5, g6, g7⟩ := ih (q + 1) (payW W1 q a d) vL1 vN1 M2 v2 nc nf s2 s3 s4 s5 hk1 (by omega) (by omega) (by omega)
        refine ⟨W', vL', vN', fun K2 w1 w3 => (C2 K2 w1 w3).trans (g1 K2 w1 w3), fun z => d6 (g2 z), g3.trans p1, g4.trans p2, ⟨g5.1, mono W' g5.2⟩, g6, fun hc => ?_⟩
        have hc' : (payW W1 q a d) 0 2 = M2 58 b ∨ W' 0 15 = 0 := by
          rcases hc with hc | hc
          · left; rw [p2, s6]; exact hc
          · exact Or.inr hc
        obtain ⟨M', v', k1, k2, k3, k4, k5, k6⟩ := g7 hc'
        exact ⟨M', v', R.trans k1, k2, k3, s7.trans k4, s8.trans k5, s9.trans k6⟩
      · obtain ⟨M2, v2, s1, s2, s3, s4, s5, s6, s7, s8, s9⟩ := step (up2 M 58 b (W 0 2)) v (h.u58 b _) (hd.c rfl rfl rfl) h65 h59 (Or.inl (up2_e _ _ _ _).symm)
        obtain ⟨W', vL', vN', g1, g2, g3, g4, g5, g6, g7⟩ := ih (q + 1) (payW W1 q a d) vL1 vN1 M2 v2 nc nf s2 s3 s4 s5 hk1 (by omega) (by omega) (by omega)
        refine ⟨W', vL', vN', fun K2 w1 w3 => (C2 K2 w1 w3).trans (g1 K2 w1 w3), fun z => d6 (g2 z), g3.trans p1, g4.trans p2, ⟨g5.1, mono W' g5.2⟩, g6, fun hc => ?_⟩
        rcases hc with hc | hc
        · exact absurd (Or.inl hc) hc0
        · exact absurd (Or.inr (g2 hc)) hc0
