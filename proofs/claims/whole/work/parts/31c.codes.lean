/-! a week of visits; the first of the most; codes by digits -/
theorem weekV (fu : Nat) (hf : 1000 ≤ fu) {B L Wc W1 M : S32} (v : S64) {np nt nr : Nat} (hth : f_X10_think fu B Wc = some W1) {dl : Nat → Nat → Nat} (hdl : dlK fu B L W1 np nt nr dl) {ro : Nat → Nat} (hro : ∀ p, p < np → ro p < nr) (hZ : WR B L Wc M 1 np nt nr 100 (fun _ => False)) (hC : ∀ p, p < np → dC Wc M p (ro p)) (h61 : M 0 61 = 0) (h65 : M 0 65 = 1) (hrt : Wc 0 2 = M 58 1) :
    ∃ Mf vf, f_X12_weekGoes fu M v 1 = some (Mf, vf) ∧ (∀ p, p < np → Mf 54 (6 + p) + Mf 55 (6 + p) = W1 7 p + W1 8 p + nI (dl p (ro p))) ∧ FR 1 M Mf ∧ vf 0 59 = v 0 59 ∧ vf 0 80 = v 0 80 := by
  have hnt := hZ.1.2.1.1.2.1
  have hnp := hZ.1.2.1.1.1
  have hnr := hZ.1.2.1.1.2.2
  obtain ⟨W', M1, a1, a2, a3, a4, a5, a6⟩ := think_loop fu v nt 0 Wc (up2 M 0 60 0) fu fu (hZ.u0 0 (Or.inr rfl)) (by omega) (by omega) (by omega)
  have eW : W' = W1 := by
    have a1' : f_X10_think fu B Wc = some W' := a1
    rw [hth] at a1'
    injection a1' with a1'
    exact a1'.symm
  subst eW
  have m60 : ∀ r, r ≠ 0 → (up2 M 0 60 0) r = M r := fun r h => up2_n _ _ _ h
  have hC1 : ∀ p, 0 ≤ p → p < np → dC W' M1 p (ro p) := by
    intro p _ hp
    unfold dC
    rw [a5 5 (by decide) (by decide), a5 7 (by decide) (by decide), a5 8 (by decide) (by decide), a5 9 (by decide) (by decide), a6 53 (by decide) (by decide), a6 54 (by decide) (by decide), a6 55 (by decide) (by decide), a6 56 (by decide) (by decide), a6 57 (by decide) (by decide), m60 53 (by decide), m60 54 (by decide), m60 55 (by decide), m60 56 (by decide), m60 57 (by decide)]
    exact hC p hp
  have f1 : ∀ i, i ≠ 60 → M1 0 i = M 0 i := fun i hi => by rw [a6 0 (by decide) (by decide), up2_i _ _ _ hi]
  obtain ⟨M2, v2, b1, b2, b3, -, b5, b6, b7, b8⟩ := doorsV fu hf a3.2.2 hdl hro np 0 M1 v fu (by omega) (by omega) a3 hC1 (by rw [f1 61 (by decide)]; exact h61) (by rw [f1 65 (by decide)]; exact h65) (by rw [a5 0 (by decide) (by decide), a6 58 (by decide) (by decide), m60 58 (by decide)]; exact hrt)
  -- a world with what the reference has
  obtain ⟨Wv, qv⟩ : ∃ Wv, Wv = rw2 (rw2 (rw2 (rw2 (rw2 W' 5 (fun i => M2 53 (6 + i))) 7 (fun i => M2 54 (6 + i))) 8 (fun i => M2 55 (6 + i))) 9 (fun i => M2 56 (6 + i))) 10 (fun i => M2 57 (6 + i)) := ⟨_, rfl⟩
  have v5 : Wv 5 = fun i => M2 53 (6 + i) := by rw [qv, rw2_n _ _ (by decide), rw2_n _ _ (by decide), rw2_n _ _ (by decide), rw2_n _ _ (by decide), rw2_r]
  have v7 : Wv 7 = fun i => M2 54 (6 + i) := by rw [qv, rw2_n _ _ (by decide), rw2_n _ _ (by decide), rw2_n _ _ (by decide), rw2_r]
  have v8 : Wv 8 = fun i => M2 55 (6 + i) := by rw [qv, rw2_n _ _ (by decide), rw2_n _ _ (by decide), rw2_r]
  have v9 : Wv 9 = fun i => M2 56 (6 + i) := by rw [qv, rw2_n _ _ (by decide), rw2_r]
  have v10 : Wv 10 = fun i => M2 57 (6 + i) := by rw [qv, rw2_r]
  have vr : ∀ r, r ≠ 5 → r ≠ 7 → r ≠ 8 → r ≠ 9 → r ≠ 10 → Wv r = W' r := fun r h5 h7 h8 h9 h10 => by rw [qv, rw2_n _ _ h10, rw2_n _ _ h9, rw2_n _ _ h8, rw2_n _ _ h7, rw2_n _ _ h5]
  have hWv : WR B L Wv M2 1 np nt nr 100 (fun p => p < np) := by
    obtain ⟨⟨k1, k2, k3, k4⟩, ⟨k5, k6, k7⟩, ⟨k8, k9, k10, k11, k12⟩⟩ := b2
    refine ⟨⟨k1, k2, k3, ?_⟩, ⟨?_, fun p hp => ?_, ?_⟩, ⟨fun p hp => ?_, ?_, ?_, ?_, ?_⟩⟩
    · unfold flK
      rw [vr 6 (by decide) (by decide) (by decide) (by decide) (by decide), vr 14 (by decide) (by decide) (by decide) (by decide) (by decide), vr 15 (by decide) (by decide) (by decide) (by decide) (by decide)]
      exact k4
    · unfold thR
      rw [vr 11 (by decide) (by decide) (by decide) (by decide) (by decide), vr 12 (by decide) (by decide) (by decide) (by decide) (by decide), vr 13 (by decide) (by decide) (by decide) (by decide) (by decide)]
      exact k5
    · rw [v5, v7, v8, v9, v10]
      exact ⟨rfl, rfl, rfl, rfl, rfl⟩
    · rw [vr 0 (by decide) (by decide) (by decide) (by decide) (by decide)]; exact k7
    · obtain ⟨-, c2, c3⟩ := b3 p (by omega) hp
      rw [v5, v9, v10, b5]
      exact ⟨c2, ⟨0, by omega, c3⟩, Or.inr ⟨ro p, hro p hp, (hC1 p (by omega) hp).2.2.2.2⟩⟩
    · unfold wdTt
      rw [vr 11 (by decide) (by decide) (by decide) (by decide) (by decide), vr 12 (by decide) (by decide) (by decide) (by decide) (by decide)]
      exact k9
    · rw [vr 13 (by decide) (by decide) (by decide) (by decide) (by decide)]; exact k10
    · rw [vr 0 (by decide) (by decide) (by decide) (by decide) (by decide)]; exact k11
    · rw [vr 0 (by decide) (by decide) (by decide) (by decide) (by decide)]; exact k12
  obtain ⟨-, -, -, M3, v3, -, e2, -, e4, e5, -, -, e8⟩ := fade_loop fu hf (S := fun p => p < np) (fun p hp => hp) nt 0 Wv v v M2 v2 fu fu hWv (by omega) (by omega) (by omega)
  refine ⟨up2 M3 59 1 (M3 59 1 + 1), v3, ?_, fun p hp => ?_, ?_, ?_, ?_⟩
  · unfold f_X12_weekGoes
    rw [tx_let_q]
    have a2' : f_X12_weekGoes_L7 fu fu (up2 M 0 60 0) v 1 0 = f_X12_weekGoes_L105 fu fu M1 v 1 0 := a2
    have b1' : f_X12_weekGoes_L105 fu fu M1 v 1 0 = f_X12_weekGoes_J144 fu M2 v2 1 := b1
    rw [a2', b1']
    exact e2
  · rw [up2_n _ _ _ (by decide), up2_n _ _ _ (by decide), e8 54 (by omega), e8 55 (by omega)]
    exact (b3 p (by omega) hp).1
  · exact ((((FR.refl 1 M).u60 0).trans a4).trans (b6.trans e4)).up _ (by unfold sc; omega)
  · rw [e5 0 (by decide) (by decide)]; exact b7
  · rw [e5 0 (by decide) (by decide)]; exact b8
def sN (e : Nat → Nat) : Nat → Nat → Nat
  | 0, _ => 0
  | m + 1, t => e t + sN e m (t + 1)
theorem sN_le {e : Nat → Nat} {c : Nat} (h : ∀ p, e p ≤ c) : ∀ m t, sN e m t ≤ c * m := by
  intro m
  induction m with
  | zero => intro t; exact Nat.le_refl _
  | succ m ih =>
    intro t
    show e t + sN e m (t + 1) ≤ _
    have := ih (t + 1)
    have := h t
    rw [Nat.mul_succ]
    omega
theorem sN_mono {e e' : Nat → Nat} : ∀ m t, (∀ p, t ≤ p → p < t + m → e p ≤ e' p) → sN e m t ≤ sN e' m t ∧ (sN e' m t ≤ sN e m t → ∀ p, t ≤ p → p < t + m → e p = e' p) := by
  intro m
  induction m with
  | zero => intro t _; exact ⟨Nat.le_refl _, fun _ p h1 h2 => absurd h2 (by omega)⟩
  | succ m ih =>
    intro t h
    obtain ⟨a, b⟩ := ih (t + 1) (fun p h1 h2 => h p (by omega) (by omega))
    have ht := h t (Nat.le_refl _) (by omega)
    refine ⟨?_, fun z p h1 h2 => ?_⟩
    · show e t + sN e m (t + 1) ≤ e' t + sN e' m (t + 1)
      omega
    · have z' : e' t + sN e' m (t + 1) ≤ e t + sN e m (t + 1) := z
      by_cases ep : p = t
      · subst ep; omega
      · exact b (by omega) p (by omega) (by omega)
theorem sN_congr {e e' : Nat → Nat} (m t : Nat) (h : ∀ p, t ≤ p → p < t + m → e p = e' p) : sN e m t = sN e' m t := by
  have h1 := (sN_mono (e := e) (e' := e') m t (fun p a b => by rw [h p a b]; exact Nat.le_refl _)).1
  have h2 := (sN_mono (e := e') (e' := e) m t (fun p a b => by rw [h p a b]; exact Nat.le_refl _)).1
  omega
theorem fd_sum {f g f0 g0 : Nat → Int32} {e : Nat → Nat} {np : Nat} (h : ∀ p, p < np → f p + g p = f0 p + g0 p + nI (e p)) : ∀ m t (a b c d : Int32), t + m ≤ np → fd (fun (t : Nat) (a : Int32) => a + f t) m t a + fd (fun (t : Nat) (a : Int32) => a + g t) m t b - fd (fun (t : Nat) (a : Int32) => a + f0 t) m t c - fd (fun (t : Nat) (a : Int32) => a + g0 t) m t d = a + b - c - d + nI (sN e m t) := by
  intro m
  induction m with
  | zero =>
    intro t a b c d _
    show a + b - c - d = a + b - c - d + nI 0
    rw [add_n0]
  | succ m ih =>
    intro t a b c d ht
    have e1 := ih (t + 1) (a + f t) (b + g t) (c + f0 t) (d + g0 t) (by omega)
    have e2 := h t (by omega)
    show fd (fun (t : Nat) (a : Int32) => a + f t) m (t + 1) (a + f t) + fd (fun (t : Nat) (a : Int32) => a + g t) m (t + 1) (b + g t) - fd (fun (t : Nat) (a : Int32) => a + f0 t) m (t + 1) (c + f0 t) - fd (fun (t : Nat) (a : Int32) => a + g0 t) m (t + 1) (d + g0 t) = a + b - c - d + nI (e t + sN e m (t + 1))
    rw [e1, ← nI_add]
    generalize nI (sN e m (t + 1)) = u at *
    generalize nI (e t) = w at *
    generalize f t = x1 at *
    generalize g t = x2 at *
    generalize f0 t = x3 at *
    generalize g0 t = x4 at *
    clear e1 ih
    grind
theorem more_q (fu : Nat) (hf : 1000 ≤ fu) {B L W0 M : S32} (v : S64) {np nt nr w : Nat} (hN : NW B L W0 M np nt nr w) {e : Nat → Nat} (h : ∀ p, p < np → M 54 (6 + p) + M 55 (6 + p) = W0 7 p + W0 8 p + nI (e p)) : f_X12_more fu M v = some (nI (sN e np 0)) := by
  obtain ⟨⟨hnp, hnt, hnr⟩, ⟨b1, m1⟩, -, -, -, -, -, -, hwp, -⟩ := hN.1
  have e1 : f_X12_paidAll fu M v 1 = _ := fl_paidAll (v := v) (b := 1) fu m1 hnp (by omega) np 0 fu 0 (by omega) (by omega)
  have e2 : f_X12_owedAll fu M v 1 = _ := fl_owedAll (v := v) (b := 1) fu m1 hnp (by omega) np 0 fu 0 (by omega) (by omega)
  have e3 : f_X12_paidAll fu M v 0 = _ := fl_paidAll (v := v) (b := 0) fu m1 hnp (by omega) np 0 fu 0 (by omega) (by omega)
  have e4 : f_X12_owedAll fu M v 0 = _ := fl_owedAll (v := v) (b := 0) fu m1 hnp (by omega) np 0 fu 0 (by omega) (by omega)
  unfold f_X12_more
  rw [e1, tx_b1_q, e2, tx_b1_q, e3, tx_b1_q, e4, tx_b1_q]
  have s := fd_sum (f := fun t => M 54 (6 * 1 + t)) (g := fun t => M 55 (6 * 1 + t)) (f0 := fun t => M 54 (6 * 0 + t)) (g0 := fun t => M 55 (6 * 0 + t)) (e := e) (np := np) (fun p hp => by
    show M 54 (6 * 1 + p) + M 55 (6 * 1 + p) = M 54 (6 * 0 + p) + M 55 (6 * 0 + p) + nI (e p)
    rw [z60, show 6 * 1 + p = 6 + p by omega, h p hp, (hwp p hp).2.1, (hwp p hp).2.2.1]) np 0 0 0 0 0 (by omega)
  rw [s]
  congr 1
  show (0 : Int32) + 0 - 0 - 0 + nI (sN e np 0) = nI (sN e np 0)
  generalize nI (sN e np 0) = z
  grind
/-! the first of the most -/
def FA (f : Nat → Nat) (n a : Nat) : Prop := a < n ∧ (∀ j, j < n → f j ≤ f a) ∧ ∀ j, j < a → f j < f a
theorem FA.uniq {f : Nat → Nat} {n a b : Nat} (h : FA f n a) (g : FA f n b) : a = b := by
  rcases Nat.lt_trichotomy a b with z | z | z
  · have := g.2.2 a z
    have := h.2.1 b g.1
    omega
  · exact z
  · have := h.2.2 b z
    have := g.2.1 a h.1
    omega
theorem FA.step {f : Nat → Nat} {n a : Nat} (h : FA f n a) : (f n ≤ f a → FA f (n + 1) a) ∧ (f a < f n → FA f (n + 1) n) := by
  refine ⟨fun z => ⟨by have := h.1; omega, fun j hj => ?_, h.2.2⟩, fun z => ⟨by omega, fun j hj => ?_, fun j hj => ?_⟩⟩
  · by_cases e : j = n
    · subst e; exact z
    · exact h.2.1 j (by omega)
  · by_cases e : j = n
    · subst e; exact Nat.le_refl _
    · have := h.2.1 j (by omega); omega
  · have := h.2.1 j hj; omega
theorem FA.one (f : Nat → Nat) : FA f 1 0 := ⟨by omega, fun j hj => by rw [show j = 0 by omega]; exact Nat.le_refl _, fun j hj => absurd hj (by omega)⟩
theorem FA.ex (f : Nat → Nat) : ∀ n, 0 < n → ∃ a, FA f n a := by
  intro n
  induction n with
  | zero => intro h; exact absurd h (by omega)
  | succ n ih =>
    intro _
    rcases Nat.eq_zero_or_pos n with e | e
    · subst e; exact ⟨0, FA.one f⟩
    · obtain ⟨a, h⟩ := ih e
      by_cases z : f n ≤ f a
      · exact ⟨a, h.step.1 z⟩
      · exact ⟨n, h.step.2 (by omega)⟩
/-! digits -/
def dg (nr k c p : Nat) : Nat := c / nr ^ (k - 1 - p) % nr
def cdN (nr : Nat) (f : Nat → Nat) : Nat → Nat
  | 0 => 0
  | k + 1 => cdN nr f k * nr + f k
theorem dg_s {nr k c p : Nat} (hp : p < k) : dg nr (k + 1) c p = dg nr k (c / nr) p := by
  unfold dg
  rw [show k + 1 - 1 - p = (k - 1 - p) + 1 by omega, Nat.pow_succ, Nat.mul_comm, ← Nat.div_div_eq_div_mul]
theorem dg_l (nr k c : Nat) : dg nr (k + 1) c k = c % nr := by
  unfold dg
  rw [show k + 1 - 1 - k = 0 by omega, Nat.pow_zero, Nat.div_one]
theorem cd_dg {nr : Nat} (h0 : 0 < nr) {f : Nat → Nat} : ∀ k, (∀ p, p < k → f p < nr) → cdN nr f k < nr ^ k ∧ ∀ p, p < k → dg nr k (cdN nr f k) p = f p := by
  intro k
  induction k with
  | zero => intro _; exact ⟨by show 0 < nr ^ 0; rw [Nat.pow_zero]; omega, fun p hp => absurd hp (by omega)⟩
  | succ k ih =>
    intro h
    obtain ⟨a, b⟩ := ih (fun p hp => h p (by omega))
    have hk := h k (by omega)
    have ed : (cdN nr f k * nr + f k) / nr = cdN nr f k := by
      rw [Nat.mul_comm, Nat.mul_add_div h0, Nat.div_eq_of_lt hk, Nat.add_zero]
    have em : (cdN nr f k * nr + f k) % nr = f k := by
      rw [Nat.mul_comm, Nat.mul_add_mod, Nat.mod_eq_of_lt hk]
    refine ⟨?_, fun p hp => ?_⟩
    · show cdN nr f k * nr + f k < nr ^ (k + 1)
      rw [Nat.pow_succ]
      have h1 : (cdN nr f k + 1) * nr ≤ nr ^ k * nr := Nat.mul_le_mul_right nr a
      rw [Nat.add_mul, Nat.one_mul] at h1
      omega
    · show dg nr (k + 1) (cdN nr f k * nr + f k) p = f p
      by_cases e : p = k
      · subst e
        rw [dg_l, em]
      · rw [dg_s (by omega), ed]
        exact b p (by omega)
theorem cd_le {nr : Nat} (h0 : 0 < nr) {f : Nat → Nat} : ∀ k c, (∀ p, p < k → f p ≤ dg nr k c p) → cdN nr f k ≤ c := by
  intro k
  induction k with
  | zero => intro c _; exact Nat.zero_le _
  | succ k ih =>
    intro c h
    have a := ih (c / nr) (fun p hp => by rw [← dg_s hp]; exact h p (by omega))
    have b := h k (by omega)
    rw [dg_l] at b
    show cdN nr f k * nr + f k ≤ c
    have h1 : cdN nr f k * nr ≤ c / nr * nr := Nat.mul_le_mul_right nr a
    have h2 := Nat.div_add_mod c nr
    rw [Nat.mul_comm] at h2
    omega
