/-! tried otherwise -/
/-- the reference's side once its flags are set -/
theorem tr_end (fu : Nat) (hf : 1000 ≤ fu) {k q : Nat → Nat} {U : Nat → S32} {V : Nat → S64} (hR : RR k q U V) {np nt nr w n : Nat} (hN : NW (U 2) (U 17) (U 1) (up2 (U 19) 0 2 0) np nt nr w) (hn : n ≤ 99) {Wc M1 : S32} (hP : PF (up2 (U 19) 0 2 0) M1) (h : WR (U 2) (U 17) Wc M1 1 np nt nr 99 (fun p => p < np)) (h61 : M1 0 61 = 0) (h65 : M1 0 65 = 0) (hk : wkOK Wc np w) (hrt : Wc 0 2 = M1 58 1) :
    ∃ r W' vL' vN' M' v', f_X9_paidIf_J103 fu (U 6) (U 1) (U 2) (U 17) Wc (V 17) (V 8) (nI n) = some (r, W', vL', vN') ∧ f_X12_tried_J137 fu M1 (V 19) (nI n) = some (r, M', v') ∧ TI (up2 (U 19) 0 2 0) (V 19) W' M' v' := by
  obtain ⟨⟨hnp, hnt, hnr⟩, ⟨b1, m1⟩, -⟩ := id hN.1
  obtain ⟨W', vL', vN', M', v', g1, g2, g3, g4, g5, g6, g7⟩ := trial fu hf (n := n) hN (TI.first hR) (V 17) (V 8) (by omega) hP h h61 h65 hk hrt
  have hP2 : PF M' (pT M') := pT_pf M'
  have h54 : ∀ b p, (pT M') 54 (6 * b + p) = M' 54 (6 * b + p) := fun b p => by rw [pT_n M' (by decide)]
  have e12 : (pT M') 0 12 = nI np := (hP2 0 12 (by decide)).trans g4.1.2.1.2
  have s1 : f_X12_paidAll fu (pT M') v' 1 = some (sP W' np) := m_sP fu hf v' (b := 1) e12 hnp (by omega) (fun p hp => by rw [h54]; exact (g5.2.1.2.1 p hp).2.1)
  have s3 : f_X12_paidAll fu (pT M') v' 0 = some (sP (U 1) np) := m_sP fu hf v' (b := 0) e12 hnp (by omega) (fun p hp => by rw [h54, Nat.mul_zero, Nat.zero_add]; exact (g4.1.2.2.2.2.2.2.2.2.1 p hp).2.1)
  refine ⟨sP W' np - sP (U 1) np, W', vL', vN', pT M', v', ?_, ?_, ⟨g3.1.trans hP2, g3.2⟩⟩
  · unfold f_X9_paidIf_J103
    rw [g1, tx_b3_q, c_sP fu hf b1 hnp, c_sP fu hf b1 hnp, tx_b1_q, tx_b1_q]
  · unfold f_X12_tried_J137
    rw [g2, tx_b2_q, pT_f, tx_b1_q, s1, s3, tx_b1_q, tx_b1_q]
def flM (M : S32) (z2 z6 z3 z4 : Int32) : S32 := up2 (up2 (up2 (up2 M 0 62 z2) 0 66 z6) 0 63 z3) 0 64 z4
theorem flM_v (M : S32) (z2 z6 z3 z4 : Int32) : flM M z2 z6 z3 z4 0 62 = z2 ∧ flM M z2 z6 z3 z4 0 66 = z6 ∧ flM M z2 z6 z3 z4 0 63 = z3 ∧ flM M z2 z6 z3 z4 0 64 = z4 ∧ flM M z2 z6 z3 z4 0 61 = M 0 61 ∧ flM M z2 z6 z3 z4 0 65 = M 0 65 ∧ flM M z2 z6 z3 z4 0 67 = M 0 67 ∧ flM M z2 z6 z3 z4 0 68 = M 0 68 ∧ flM M z2 z6 z3 z4 0 69 = M 0 69 ∧ (∀ i, i < 48 → flM M z2 z6 z3 z4 0 i = M 0 i) := by
  unfold flM
  refine ⟨?_, ?_, ?_, ?_, ?_, ?_, ?_, ?_, ?_, fun i hi => by rw [up2_i _ _ _ (by omega), up2_i _ _ _ (by omega), up2_i _ _ _ (by omega), up2_i _ _ _ (by omega)]⟩ <;> simp [up2_a]
theorem flM_n (M : S32) (z2 z6 z3 z4 : Int32) {r : Nat} (h : r ≠ 0) : flM M z2 z6 z3 z4 r = M r := by
  unfold flM
  rw [up2_n _ _ _ h, up2_n _ _ _ h, up2_n _ _ _ h, up2_n _ _ _ h]
theorem flM_pf (M : S32) (z2 z6 z3 z4 : Int32) : PF M (flM M z2 z6 z3 z4) := by
  unfold flM
  exact ((((PF.refl M).up _ (by decide)).up _ (by decide)).up _ (by decide)).up _ (by decide)
/-- dull thoughts taken away from the tried world -/
theorem du_loop (fu : Nat) (v : S64) (x3 : Int32) (M0 : S32) : ∀ (m i : Nat) (M : S32) (n : Nat), i + m = 6 → m < n → PF M0 M → (∀ r, r ≠ 56 → M r = M0 r) → (∀ p, p < i → M 56 (6 + p) = 0) → ∃ M', f_X12_tried_L108 fu n M v 1 x3 (nI i) = f_X12_tried_J137 fu M' v x3 ∧ PF M0 M' ∧ (∀ r, r ≠ 56 → M' r = M0 r) ∧ (∀ p, p < 6 → M' 56 (6 + p) = 0) := by
  intro m
  induction m with
  | zero =>
    intro i M n hi hn h1 h2 h3
    obtain ⟨n, rfl⟩ := pos_ex hn
    have : i = 6 := by omega
    subst this
    refine ⟨M, ?_, h1, h2, h3⟩
    show f_X12_tried_J108 _ _ _ _ _ _ _ = _
    unfold f_X12_tried_J108
    rw [if_pos (by decide)]
  | succ m ih =>
    intro i M n hi hn h1 h2 h3
    obtain ⟨n, rfl⟩ := pos_ex hn
    obtain ⟨M', g1, g2⟩ := ih (i + 1) (up2 M 56 (6 + i) 0) n (by omega) (by omega) (h1.up _ (hi6 (by simp) (by omega))) (fun r hr => (up2_n _ _ _ hr).trans (h2 r hr)) (fun p hp => by
      rw [up2_a]
      by_cases e : p = i
      · rw [if_pos ⟨rfl, by omega⟩]
      · rw [if_neg (fun z => e (by omega))]; exact h3 p (by omega))
    refine ⟨M', ?_, g2⟩
    rw [← g1]
    show f_X12_tried_J108 _ _ _ _ _ _ _ = _
    unfold f_X12_tried_J108
    rw [if_neg (ge6 (by omega)), if_pos rfl, show (6 : Int32) + nI i = nI (6 + i) from by rw [show (6 : Int32) = nI 6 from rfl, nI_add], tx_ck_q (by omega) (by omega), tx_let_q, tx_let_q, nI_clamp (by omega), nI_1]
/-- thinking nothing more -/
theorem tn_loop (fu : Nat) {B : S32} (Y : S32) {nt : Nat} (b5 : B 0 5 = nI nt) (hnt : nt ≤ 12) (y : Int32) (W0 : S32) : ∀ (m i : Nat) (W : S32) (n : Nat), i + m = nt → m < n → (∀ r, r ≠ 11 → W r = W0 r) → (∀ t, t < nt → W 11 t = if t < i ∧ W0 11 t = 0 ∧ B 7 t = y then 2 else W0 11 t) → ∃ W', f_X9_thinkNothing_L2 fu Y B n W y (nI i) = some W' ∧ (∀ r, r ≠ 11 → W' r = W0 r) ∧ (∀ t, t < nt → W' 11 t = if W0 11 t = 0 ∧ B 7 t = y then 2 else W0 11 t) := by
  intro m
  induction m with
  | zero =>
    intro i W n hi hn h1 h2
    obtain ⟨n, rfl⟩ := pos_ex hn
    refine ⟨W, ?_, h1, fun t ht => ?_⟩
    · show f_X9_thinkNothing_J2 _ _ _ _ _ _ _ = _
      unfold f_X9_thinkNothing_J2
      rw [b5, if_pos (nI_le (by omega) (by omega))]
    · rw [h2 t ht]
      simp only [show t < i from by omega, true_and]
  | succ m ih =>
    intro i W n hi hn h1 h2
    obtain ⟨n, rfl⟩ := pos_ex hn
    have hit : i < nt := by omega
    have ei : W 11 i = W0 11 i := by rw [h2 i hit, if_neg (fun z => by omega)]
    have ck := fun k : Option S32 => tx_ck_q (j := i) (n := 12) (by omega) (by omega) k
    have C : f_X9_thinkNothing_L2 fu Y B (n + 1) W y (nI i) = if W0 11 i = 0 ∧ B 7 i = y then f_X9_thinkNothing_L2 fu Y B n (up2 W 11 i 2) y (nI (i + 1)) else f_X9_thinkNothing_L2 fu Y B n W y (nI (i + 1)) := by
      show f_X9_thinkNothing_J2 _ _ _ _ _ _ _ = _
      unfold f_X9_thinkNothing_J2 f_X9_thinkNothing_J60
      rw [b5, if_neg (ge_lit (by omega) (by omega)), if_neg (ge12 (by omega)), nI_clamp (by omega), ck, ei, nI_1]
      by_cases e1 : W0 11 i = 0
      · rw [if_pos e1, ck]
        by_cases e2 : B 7 i = y
        · rw [if_pos e2, if_pos ⟨e1, e2⟩, ck]; rfl
        · rw [if_neg e2, if_neg (fun z => e2 z.2)]; rfl
      · rw [if_neg e1, if_neg (fun z => e1 z.1)]; rfl
    by_cases e : W0 11 i = 0 ∧ B 7 i = y
    · rw [C, if_pos e]
      refine ih (i + 1) _ n (by omega) (by omega) (fun r hr => (up2_n _ _ _ hr).trans (h1 r hr)) (fun t ht => ?_)
      rw [up2_a]
      by_cases z : t = i
      · rw [if_pos ⟨rfl, z⟩, if_pos ⟨by omega, z ▸ e⟩]
      · rw [if_neg (fun q => z q.2), h2 t ht]
        by_cases z2 : t < i
        · simp only [z2, show t < i + 1 from by omega, true_and]
        · simp only [z2, show ¬ t < i + 1 from by omega, false_and]
    · rw [C, if_neg e]
      refine ih (i + 1) _ n (by omega) (by omega) h1 (fun t ht => ?_)
      rw [h2 t ht]
      by_cases z : t = i
      · subst z
        rw [if_neg (fun q => by omega), if_neg (fun q => e q.2)]
      · by_cases z2 : t < i
        · simp only [z2, show t < i + 1 from by omega, true_and]
        · simp only [z2, show ¬ t < i + 1 from by omega, false_and]
