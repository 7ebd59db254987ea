/-! what is due at each door by each reader -/
theorem i32_canc {x y z : Int32} (h : x + y = x + z) : y = z := by grind
theorem WR.cf {B L W W2 M : S32} {b np nt nr x : Nat} {S : Nat → Prop} (h : WR B L W M b np nt nr x S) (hc : cF W W2) (h13 : ∀ t, t < nt → W2 13 t = 0 ∨ W2 13 t = 1) (h15 : W2 0 15 = 0 ∨ W2 0 15 = 1) (hx : 100 ≤ x) : WR B L W2 M b np nt nr x S := by
  obtain ⟨⟨k1, k2, k3, k4⟩, ⟨k5, k6, k7⟩, ⟨k8, k9, k10, k11, k12⟩⟩ := h
  have z : ∀ r i, r ≠ 13 → r ≠ 0 → W2 r i = W r i := fun r i a c => hc r i a (fun w => c w.1)
  refine ⟨⟨k1, k2, k3, fun p hp => ?_, fun r hr => ?_⟩, ⟨fun t ht => ?_, fun p hp => ?_, ?_⟩, ⟨fun p hp => ?_, fun t ht => ?_, h13, ?_, h15⟩⟩
  · rw [z 6 p (by decide) (by decide)]; exact k4.1 p hp
  · rw [z 14 r (by decide) (by decide), z 15 r (by decide) (by decide)]; exact k4.2 r hr
  · rw [z 11 t (by decide) (by decide), z 12 t (by decide) (by decide)]
    exact ⟨(k5 t ht).1, (k5 t ht).2.1, fun w => absurd w (by omega)⟩
  · rw [z 5 p (by decide) (by decide), z 7 p (by decide) (by decide), z 8 p (by decide) (by decide), z 9 p (by decide) (by decide), z 10 p (by decide) (by decide)]; exact k6 p hp
  · rw [hc 0 1 (by decide) (by omega)]; exact k7
  · rw [z 5 p (by decide) (by decide), z 9 p (by decide) (by decide), z 10 p (by decide) (by decide)]; exact k8 p hp
  · rw [z 11 t (by decide) (by decide), z 12 t (by decide) (by decide)]; exact k9 t ht
  · rw [hc 0 2 (by decide) (by omega)]; exact k11
def cFb (W W2 : S32) (nt : Nat) : Prop := cF W W2 ∧ (∀ t, t < nt → W2 13 t = 0 ∨ W2 13 t = 1) ∧ (W2 0 15 = 0 ∨ W2 0 15 = 1)
/-- what is due at the doors: dl -/
def dlK (fu : Nat) (B L W : S32) (np nt nr : Nat) (dl : Nat → Nat → Nat) : Prop := ∀ p r, p < np → r < nr → dl p r ≤ 999 ∧ ∀ W2, cFb W W2 nt → ∀ vL vN, ∃ W' vL' vN', f_X10_dueAt fu B L W2 vL vN (nI p) (nI r) 0 = some (nI (dl p r), W', vL', vN') ∧ cFb W W' nt
theorem dl_ex (fu : Nat) (hf : 1000 ≤ fu) {B L W M : S32} (v : S64) {np nt nr : Nat} (h : WR B L W M 1 np nt nr 100 (fun p => p < np)) (h61 : M 0 61 = 0) (hrt : W 0 2 = M 58 1) : ∃ dl, dlK fu B L W np nt nr dl := by
  have key : ∀ p r, p < np → r < nr → ∃ d, d ≤ 999 ∧ ∀ W2, cFb W W2 nt → ∀ vL vN, ∃ W' vL' vN', f_X10_dueAt fu B L W2 vL vN (nI p) (nI r) 0 = some (nI d, W', vL', vN') ∧ cFb W W' nt := by
    intro p r hp hr
    obtain ⟨d, a, W1, l1, n1, hd, ha, e5, g1, g2, g3, g4⟩ := visit1 fu hf (S := fun p => p < np) hp hp hr h v v (v := v) ⟨h61, Or.inl rfl⟩
    obtain ⟨M1, v1, c1, c2, c3, c4, c5, c6, c7⟩ := g4 (Or.inl hrt)
    refine ⟨d, hd, fun W2 hW vL vN => ?_⟩
    have h2 := h.cf hW.1 hW.2.1 hW.2.2 (by omega)
    obtain ⟨d2, a2, W3, l3, n3, hd2, ha2, e52, f1, f2, f3, f4⟩ := visit1 fu hf (S := fun p => p < np) hp hp hr h2 vL vN (v := v) ⟨h61, Or.inl rfl⟩
    obtain ⟨M3, v3, q1, q2, q3, q4, q5, q6, q7⟩ := f4 (Or.inl ((hW.1 0 2 (by decide) (by omega)).trans hrt))
    have ea : a = a2 := by
      have e1 : W1 5 p = W 5 p := g2 5 p (by decide) (by omega)
      have e2 : W3 5 p = W2 5 p := f2 5 p (by decide) (by omega)
      have e3 : W2 5 p = W 5 p := hW.1 5 p (by decide) (by omega)
      refine (nI_eq (by omega) (by omega)).mp ?_
      rw [← e5, ← e52, e1, e2, e3]
    subst ea
    rw [c1] at q1
    injection q1 with q1
    injection q1 with q1 _
    have p54 : payM M1 (6 * 1 + p) a d 54 (6 * 1 + p) = M 54 (6 * 1 + p) + nI (min a d) := by
      unfold payM
      rw [up2_n _ _ _ (by decide), up2_n _ _ _ (by decide), up2_e, c6 54 (by omega)]
    have p55 : payM M1 (6 * 1 + p) a d 55 (6 * 1 + p) = M 55 (6 * 1 + p) + nI (d - min a d) := by
      unfold payM
      rw [up2_n _ _ _ (by decide), up2_e, c6 55 (by omega)]
    have r54 : payM M3 (6 * 1 + p) a d2 54 (6 * 1 + p) = M 54 (6 * 1 + p) + nI (min a d2) := by
      unfold payM
      rw [up2_n _ _ _ (by decide), up2_n _ _ _ (by decide), up2_e, q6 54 (by omega)]
    have r55 : payM M3 (6 * 1 + p) a d2 55 (6 * 1 + p) = M 55 (6 * 1 + p) + nI (d2 - min a d2) := by
      unfold payM
      rw [up2_n _ _ _ (by decide), up2_e, q6 55 (by omega)]
    rw [q1, r54] at p54
    rw [q1, r55] at p55
    have s1 := (nI_eq (by omega) (by omega)).mp (i32_canc p54)
    have s2 := (nI_eq (by omega) (by omega)).mp (i32_canc p55)
    have ed : d2 = d := by omega
    subst ed
    exact ⟨W3, l3, n3, f1, hW.1.trans f2, q2.2.2.2.2.1, q2.2.2.2.2.2.2⟩
  refine ⟨fun p r => if h : p < np ∧ r < nr then Classical.choose (key p r h.1 h.2) else 0, fun p r hp hr => ?_⟩
  have hpr : p < np ∧ r < nr := ⟨hp, hr⟩
  have e : (if h : p < np ∧ r < nr then Classical.choose (key p r h.1 h.2) else 0) = Classical.choose (key p r hp hr) := dif_pos hpr
  have sp := Classical.choose_spec (key p r hp hr)
  rw [← e] at sp
  exact sp
/-! the reference's week in which every door is visited -/
theorem WR.wide {B L W M : S32} {b np nt nr x : Nat} {S : Nat → Prop} (h : WR B L W M b np nt nr x S) : WR B L W M b np nt nr 100 (fun _ => False) := by
  obtain ⟨k1, ⟨k5, k6, k7⟩, k8⟩ := h
  exact ⟨k1, ⟨fun t ht => ⟨(k5 t ht).1, (k5 t ht).2.1, fun w => absurd w (by omega)⟩, fun p hp => hp.elim, k7⟩, k8⟩
theorem WR.zc {B L W M M' : S32} {np nt nr : Nat} (h : WR B L W M 1 np nt nr 100 (fun _ => False)) (e : ∀ r, r < 53 ∨ r = 59 → M' r = M r) : WR B L W M' 1 np nt nr 100 (fun _ => False) := by
  obtain ⟨⟨k1, k2, k3, k4⟩, ⟨k5, k6, k7⟩, k8⟩ := h
  have eq : EQ0 M M' := ⟨fun r _ hr => e r (by omega), fun i _ _ => by rw [e 0 (by omega)]⟩
  refine ⟨⟨k1, k2.c eq, k3.e eq, k4.c eq⟩, ⟨fun t ht => ?_, fun p hp => hp.elim, ?_⟩, k8⟩
  · rw [bar.c eq, e 50 (by omega), e 51 (by omega), e 52 (by omega)]
    exact k5 t ht
  · rw [e 59 (by omega)]; exact k7
theorem WR.zw {B L W W' M : S32} {np nt nr : Nat} {S : Nat → Prop} (h : WR B L W' M 1 np nt nr 100 S) (hW : ∀ r i, r ≠ 5 → r ≠ 7 → r ≠ 8 → r ≠ 9 → r ≠ 10 → r ≠ 13 → ¬ (r = 0 ∧ (i = 3 ∨ i = 15)) → W' r i = W r i) (hin : inR W np nt nr) : WR B L W M 1 np nt nr 100 (fun _ => False) := by
  obtain ⟨⟨k1, k2, k3, k4⟩, ⟨k5, k6, k7⟩, k8⟩ := h
  refine ⟨⟨k1, k2, k3, fun p hp => ?_, fun r hr => ?_⟩, ⟨fun t ht => ?_, fun p hp => hp.elim, ?_⟩, hin⟩
  · rw [← hW 6 p (by decide) (by decide) (by decide) (by decide) (by decide) (by decide) (by omega)]; exact k4.1 p hp
  · rw [← hW 14 r (by decide) (by decide) (by decide) (by decide) (by decide) (by decide) (by omega), ← hW 15 r (by decide) (by decide) (by decide) (by decide) (by decide) (by decide) (by omega)]; exact k4.2 r hr
  · rw [← hW 11 t (by decide) (by decide) (by decide) (by decide) (by decide) (by decide) (by omega), ← hW 12 t (by decide) (by decide) (by decide) (by decide) (by decide) (by decide) (by omega)]
    exact ⟨(k5 t ht).1, (k5 t ht).2.1, fun w => absurd w (by omega)⟩
  · rw [← hW 0 1 (by decide) (by decide) (by decide) (by decide) (by decide) (by decide) (by omega)]; exact k7
/-- the door p as the class has it, the reader r chosen -/
def dC (W M : S32) (p r : Nat) : Prop := W 5 p = M 53 (6 + p) ∧ W 7 p = M 54 (6 + p) ∧ W 8 p = M 55 (6 + p) ∧ W 9 p = M 56 (6 + p) ∧ M 57 (6 + p) = nI r
theorem WR.at {B L W M : S32} {np nt nr p r : Nat} (h : WR B L W M 1 np nt nr 100 (fun _ => False)) (hc : dC W M p r) (hr : r < nr) : WR B L (up2 W 10 p (nI r)) M 1 np nt nr 100 (fun q => q = p) := by
  obtain ⟨⟨k1, k2, k3, k4⟩, ⟨k5, k6, k7⟩, ⟨k8, k9, k10, k11, k12⟩⟩ := h
  obtain ⟨c1, c2, c3, c4, c5⟩ := hc
  refine ⟨⟨k1, k2, k3, k4⟩, ⟨k5, fun q hq => ?_, k7⟩, ⟨fun q hq => ?_, k9, k10, k11, k12⟩⟩
  · have e : q = p := hq
    subst e
    refine ⟨c1, c2, c3, c4, ?_⟩
    rw [up2_e]
    exact c5.symm
  · obtain ⟨a1, a2, a3⟩ := k8 q hq
    refine ⟨a1, a2, ?_⟩
    by_cases e : q = p
    · subst e
      rw [up2_e]
      exact Or.inr ⟨r, hr, rfl⟩
    · rw [up2_i _ _ _ e]
      exact a3
theorem doorsV (fu : Nat) (hf : 1000 ≤ fu) {B L W : S32} {np nt nr : Nat} (hin : inR W np nt nr) {dl : Nat → Nat → Nat} (hdl : dlK fu B L W np nt nr dl) {ro : Nat → Nat} (hro : ∀ p, p < np → ro p < nr) : ∀ m q M v n, q + m = np → m < n → WR B L W M 1 np nt nr 100 (fun _ => False) → (∀ p, q ≤ p → p < np → dC W M p (ro p)) → M 0 61 = 0 → M 0 65 = 1 → W 0 2 = M 58 1 →
    ∃ M' v', f_X12_weekGoes_L105 fu n M v 1 (nI q) = f_X12_weekGoes_J144 fu M' v' 1 ∧ WR B L W M' 1 np nt nr 100 (fun _ => False) ∧ (∀ p, q ≤ p → p < np → M' 54 (6 + p) + M' 55 (6 + p) = W 7 p + W 8 p + nI (dl p (ro p)) ∧ (∃ a, a ≤ 999 ∧ M' 53 (6 + p) = nI a) ∧ M' 56 (6 + p) = 0) ∧ (∀ p, p < q → ∀ r, 53 ≤ r → r ≤ 56 → M' r (6 + p) = M r (6 + p)) ∧ M' 57 = M 57 ∧ FR 1 M M' ∧ v' 0 59 = v 0 59 ∧ v' 0 80 = v 0 80 := by
  intro m
  induction m with
  | zero =>
    intro q M v n hq hn hZ hC h61 h65 hrt
    obtain ⟨n, rfl⟩ := pos_ex hn
    have hnp := hZ.1.2.1.1.1
    refine ⟨M, v, ?_, hZ, fun p h1 h2 => absurd h2 (by omega), fun _ _ _ _ _ => rfl, rfl, FR.refl _ _, rfl, rfl⟩
    show f_X12_weekGoes_J105 _ _ _ _ _ _ = _
    unfold f_X12_weekGoes_J105
    rw [hZ.1.2.1.2.1.2, if_pos (nI_le (by omega) (by omega))]
  | succ m ih =>
    intro q M v n hq hn hZ hC h61 h65 hrt
    obtain ⟨n, rfl⟩ := pos_ex hn
    have hnp := hZ.1.2.1.1.1
    have hnr := hZ.1.2.1.1.2.2
    have hqn : q < np := by omega
    have hCq := hC q (Nat.le_refl _) hqn
    have hrq := hro q hqn
    have hWq := hZ.at hCq hrq
    obtain ⟨d, a, W1, l1, n1, hd, ha, e5, g1, g2, g3, g4⟩ := visit1 fu hf (S := fun p => p = q) hqn rfl hrq hWq v v (v := v) ⟨h61, Or.inl rfl⟩
    obtain ⟨M1, v1, c1, c2, c3, c4, c5, c6, c7⟩ := g4 (Or.inl hrt)
    obtain ⟨hd9, hdW⟩ := hdl q (ro q) hqn hrq
    obtain ⟨Wx, lx, nx, x1, -⟩ := hdW W ⟨cF.refl _, hin.2.2.1, hin.2.2.2.2⟩ v v
    have ed : d = dl q (ro q) := by
      rw [da10, x1] at g1
      injection g1 with g1
      injection g1 with g1 _
      exact ((nI_eq (by omega) (by omega)).mp g1).symm
    subst ed
    have i6 : 6 * 1 + q = 6 + q := by omega
    rw [i6] at c1
    have hM1 : ∀ r, r < 53 ∨ r = 57 ∨ r = 58 ∨ r = 59 → (payM M1 (6 + q) a (dl q (ro q))) r = M1 r := fun r hr => by
      unfold payM
      rw [up2_n _ _ _ (by omega), up2_n _ _ _ (by omega), up2_n _ _ _ (by omega), up2_n _ _ _ (by omega)]
    have hMi : ∀ r i, i ≠ 6 + q → (payM M1 (6 + q) a (dl q (ro q))) r i = M1 r i := fun r i hi => by
      unfold payM
      rw [up2_a, if_neg (fun z => hi z.2), up2_a, if_neg (fun z => hi z.2), up2_a, if_neg (fun z => hi z.2), up2_a, if_neg (fun z => hi z.2)]
    have hZ1 : WR B L W M1 1 np nt nr 100 (fun _ => False) := c2.zw (fun r i h5 h7 h8 h9 h10 h13 h0 => by
      rw [g2 r i h13 h0, up2_n _ _ _ h10]) hin
    have hZ2 := hZ1.zc (M' := payM M1 (6 + q) a (dl q (ro q))) (fun r hr => hM1 r (by omega))
    have fr1 : FR 1 M (payM M1 (6 + q) a (dl q (ro q))) := by
      unfold payM
      exact (((c5.up _ (by unfold sc; omega)).up _ (by unfold sc; omega)).up _ (by unfold sc; omega)).up _ (by unfold sc; omega)
    obtain ⟨M', v', k1, k2, k3, k4, k5, k6, k7, k8⟩ := ih (q + 1) (payM M1 (6 + q) a (dl q (ro q))) v1 n (by omega) (by omega) hZ2 (fun p h1 h2 => by
      unfold dC
      rw [hMi 53 _ (by omega), hMi 54 _ (by omega), hMi 55 _ (by omega), hMi 56 _ (by omega), hMi 57 _ (by omega), c6 53 (by omega), c6 54 (by omega), c6 55 (by omega), c6 56 (by omega), c6 57 (by omega)]
      exact hC p (by omega) h2) (by rw [fr1 0 61 (by unfold sc; omega)]; exact h61) (by rw [fr1 0 65 (by unfold sc; omega)]; exact h65) (by rw [fr1 58 1 (by unfold sc; omega)]; exact hrt)
    refine ⟨M', v', ?_, k2, fun p h1 h2 => ?_, fun p h1 r r1 r2 => ?_, ?_, fr1.trans k6, k7.trans (c4.2.2 rfl).1, k8.trans (c4.2.1 80 (by decide))⟩
    · rw [← k1]
      show f_X12_weekGoes_J105 _ _ _ _ _ _ = _
      unfold f_X12_weekGoes_J105 f_X12_weekGoes_J132 f_X12_visits
      have e6 : (6 : Int32) * 1 + nI q = nI (6 + q) := by
        have := ix6 1 q
        rw [i6] at this
        exact this
      have c1' : f_X12_visits_L23 fu fu M v 1 (nI q) (nI (ro q)) 0 0 = some (payM M1 (6 + q) a (dl q (ro q)), v1) := c1
      rw [hZ.1.2.1.2.1.2, if_neg (nI_ge hqn (by omega)), h65, if_neg one_ne, e6, tx_ck_q (j := 6 + q) (by omega) (by omega), nI_clamp (n := 6 + q) (by omega), hCq.2.2.2.2, tx_let_q, if_pos (nI_pos' (by omega)), c1', tx_b2_q, tx_let_q, nI_1]
    · by_cases e : p = q
      · subst e
        have r3 := k4 p (by omega)
        rw [r3 53 (by omega) (by omega), r3 54 (by omega) (by omega), r3 55 (by omega) (by omega), r3 56 (by omega) (by omega)]
        refine ⟨?_, ⟨a - min a (dl p (ro p)), by omega, ?_⟩, ?_⟩
        · have q54 : payM M1 (6 + p) a (dl p (ro p)) 54 (6 + p) = W 7 p + nI (min a (dl p (ro p))) := by
            unfold payM
            rw [up2_n _ _ _ (by decide), up2_n _ _ _ (by decide), up2_e, c6 54 (by omega), hCq.2.1]
          have q55 : payM M1 (6 + p) a (dl p (ro p)) 55 (6 + p) = W 8 p + nI (dl p (ro p) - min a (dl p (ro p))) := by
            unfold payM
            rw [up2_n _ _ _ (by decide), up2_e, c6 55 (by omega), hCq.2.2.1]
          have en : nI (dl p (ro p)) = nI (min a (dl p (ro p))) + nI (dl p (ro p) - min a (dl p (ro p))) := by
            rw [nI_add]
            congr 1
            omega
          rw [q54, q55, en]
          generalize W 7 p = w7
          generalize W 8 p = w8
          generalize nI (min a (dl p (ro p))) = y1
          generalize nI (dl p (ro p) - min a (dl p (ro p))) = y2
          grind
        · unfold payM
          rw [up2_n _ _ _ (by decide), up2_n _ _ _ (by decide), up2_n _ _ _ (by decide), up2_e]
        · unfold payM
          rw [up2_e]
      · exact k3 p (by omega) h2
    · rw [k4 p (by omega) r r1 r2, hMi r _ (by omega), c6 r r1]
    · rw [k5, hM1 57 (by omega), c6 57 (by omega)]
