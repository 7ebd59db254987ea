/-! what is paid at a door -/
def payM (M : S32) (i a d : Nat) : S32 := up2 (up2 (up2 (up2 M 53 i (nI (a - min a d))) 54 i (M 54 i + nI (min a d))) 55 i (M 55 i + nI (d - min a d))) 56 i 0
def payW (W : S32) (p a d : Nat) : S32 := up2 (up2 (up2 (up2 W 5 p (nI (a - min a d))) 7 p (W 7 p + nI (min a d))) 8 p (W 8 p + nI (d - min a d))) 9 p 0
theorem add_n0 (x : Int32) : x + nI 0 = x := by
  show x + 0 = x
  exact Int32.add_zero x
theorem pay_c (fu : Nat) {B W : S32} {np : Nat} (b1 : B 0 1 = nI np) (hnp : np ≤ 6) {p a d : Nat} (hp : p < np) (ha : a ≤ 999) (hd : d ≤ 999) (h5 : W 5 p = nI a) : f_X10_pay fu B W (nI p) (nI d) = some (up2 (up2 (up2 W 5 p (nI (a - min a d))) 7 p (W 7 p + nI (min a d))) 8 p (W 8 p + nI (d - min a d))) := by
  have ck := fun k : Option S32 => tx_ck_q (j := p) (n := 6) (by omega) (by omega) k
  have cl := nI_clamp (n := p) (by omega)
  have e : (if nI a < nI d then nI a else nI d) = nI (min a d) := by
    by_cases q : a < d
    · rw [if_pos (nI_lt q (by omega)), Nat.min_eq_left (by omega)]
    · rw [if_neg (nI_nlt (by omega) (by omega)), Nat.min_eq_right (by omega)]
  unfold f_X10_pay
  rw [c_isM fu b1 hnp hp, tx_b1_q, if_neg one_ne, cl, ck, tx_let_q, h5, e, ck, ck, tx_let_q, ck, ck, tx_let_q, ck, ck, tx_let_q]
  rw [pk_sub (by omega), pk_sub (by omega), up2_n _ _ _ (show (7 : Nat) ≠ 5 by decide), up2_n _ _ _ (show (8 : Nat) ≠ 7 by decide), up2_n _ _ _ (show (8 : Nat) ≠ 5 by decide)]
/-- a visit: what is due, and the reference's rows behind it -/
theorem visit1 (fu : Nat) (hf : 1000 ≤ fu) {B L : S32} {b np nt nr x : Nat} {S : Nat → Prop} {p r : Nat} (hp : p < np) (hS : S p) (hr : r < nr) {x3 : Int32} {W M : S32} (h : WR B L W M b np nt nr x S) (vL vN : S64) {v : S64} (hd : drOK W M v x3) :
    ∃ d a W1 vL' vN', d ≤ 999 ∧ a ≤ 999 ∧ W1 5 p = nI a ∧ f_X10_dueAt fu B L W vL vN (nI p) (nI r) x3 = some (nI d, W1, vL', vN') ∧ cF W W1 ∧ (W1 0 15 = 0 → W 0 15 = 0) ∧
      ((W 0 2 = M 58 b ∨ W1 0 15 = 0) → ∃ M1 v', f_X12_visits_L23 fu fu M v (nI b) (nI p) (nI r) 0 0 = some (payM M1 (6 * b + p) a d, v') ∧ WR B L W1 M1 b np nt nr x S ∧ drOK W1 M1 v' x3 ∧ dF W W1 v v' x3 ∧ FR b M M1 ∧ (∀ q, 53 ≤ q → M1 q = M q) ∧ rdS W W1 M M1 nt) := by
  have hnt0 : nt ≤ 12 := h.1.2.1.1.2.1
  obtain ⟨W', vL', vN', M', v', best', g0, g1, g2, g3, g4, g5, g6, g7, g8, g9⟩ := vis_loop fu hf hp hS hr nt 0 W vL vN M v 0 fu fu h hd (by omega) (by omega) (by omega) (by omega)
  have g1' : f_X10_dueAt fu B L W vL vN (nI p) (nI r) x3 = f_X10_dueAt_J77 fu B L W' vL' vN' (nI p) (nI r) (nI best') := g1
  have g2' : f_X12_visits_L23 fu fu M v (nI b) (nI p) (nI r) 0 0 = f_X12_visits_J23 fu (fun _ _ _ _ _ _ _ => none) M' v' (nI b) (nI p) (nI r) (nI best') (nI nt) := g2
  obtain ⟨⟨hb, ⟨⟨hnp, hnt, hnr⟩, ⟨b1, m1⟩, ⟨b5, m5⟩, ⟨b10, m10⟩, hbt, hbi⟩, hlw, hfl⟩, ⟨hth, hpp, hw0⟩, hin⟩ := id g3
  obtain ⟨p5, p7, p8, p9, p10⟩ := hpp p hS
  obtain ⟨⟨a, ha, ea⟩, -⟩ := hin.1 p hp
  have hi : 6 * b + p < 12 := by omega
  have ck := fun k : Option (S32 × S64) => tx_ck_q (j := 6 * b + p) (n := 12) hi (by omega) k
  have cl := nI_clamp (n := 6 * b + p) (by omega)
  have z15 : W' 0 15 = 0 → W 0 15 = 0 := fun z => (g7 0 15 (by decide) (by omega)).symm.trans z
  have g7' : cF W W' := fun q i h1 h2 => g7 q i h1 (fun z => h2 ⟨z.1, Or.inl z.2⟩)
  have J250 : ∀ M v, f_X12_visits_J250 fu M v (nI b) (nI p) = some (up2 M 56 (6 * b + p) 0, v) := by
    intro M v
    unfold f_X12_visits_J250
    rw [ix6, ck, cl, tx_let_q]
  unfold f_X12_visits_J23 at g2'
  rw [m5, if_pos (nI_le (by omega) (by omega))] at g2'
  unfold f_X10_dueAt_J77 at g1'
  by_cases hb0 : best' = 0
  · subst hb0
    rw [if_pos (by decide), J250] at g2'
    rw [if_pos (by decide)] at g1'
    refine ⟨0, a, W', vL', vN', by omega, ha, ea, g1', g7', z15, fun _ => ⟨M', v', ?_, g3, g4, g5, g6, g8, g9⟩⟩
    rw [g2']
    unfold payM
    rw [Nat.min_eq_right (Nat.zero_le a), Nat.sub_zero, add_n0, add_n0, up2_self M' (p5.symm.trans ea), up2_self M' rfl, up2_self M' rfl]
  · have hbp : ¬ nI best' ≤ (0 : Int32) := nI_nle (by omega) (by omega)
    obtain ⟨d, y, vL2, vN2, v2, d1, d2, d3, d4, d5, d6⟩ := dues fu hf g3 vL' vN' v' hp hS hr g0
    rw [if_neg hbp, d2, tx_b4_q] at g1'
    have cF1 : cF W (up2 W' 0 15 y) := by
      intro q i h1 h2
      rw [up2_a, if_neg (fun z => h2 ⟨z.1, Or.inr z.2⟩)]
      exact g7' q i h1 h2
    refine ⟨d, a, up2 W' 0 15 y, vL2, vN2, d1, ha, ?_, g1', cF1, ?_, fun hc => ?_⟩
    · rw [up2_n _ _ _ (by decide)]; exact ea
    · rw [up2_e]
      intro z
      exact z15 (d4 z)
    · have hc2 : W' 0 2 = M' 58 b ∨ y = 0 := by
        rcases hc with hc | hc
        · left
          rw [g7 0 2 (by decide) (by omega), g8 58 (by omega)]
          exact hc
        · right
          rw [up2_e] at hc
          exact hc
      obtain ⟨z, v3, f1, f2⟩ := d6 hc2
      refine ⟨up2 M' 0 48 z, v3, ?_, (g3.u0 z (Or.inl rfl)).f (Or.inr ⟨rfl, d3⟩), ?_, ?_, g6.u48 z, fun q hq => (up2_n _ _ _ (by omega)).trans (g8 q hq), ?_⟩
      · rw [g2', if_neg hbp, m_skill fu v' hnr hfl hr, tx_b1_q, d5, tx_b1_q, ck2 hb, nI_clamp (n := b) (by omega)]
        have f1' : f_X12_boundLaw fu M' v2 (1 : Int32) ((nI best' * M' 58 b) / 100) (999 : Int32) = some (nI d, up2 M' 0 48 z, v3) := f1
        rw [f1', tx_b3_q, ix6, tx_let_q, ck, cl, up2_n _ _ _ (show (53 : Nat) ≠ 0 by decide), ← p5, ea]
        have J209 : ∀ part, part ≤ a → part ≤ d → f_X12_visits_J209 fu (up2 M' 0 48 z) v3 (nI b) (nI p) (nI d) (nI (6 * b + p)) (nI part) = some (up2 (up2 (up2 (up2 (up2 M' 0 48 z) 53 (6 * b + p) (nI (a - part))) 54 (6 * b + p) ((up2 M' 0 48 z) 54 (6 * b + p) + nI part)) 55 (6 * b + p) ((up2 M' 0 48 z) 55 (6 * b + p) + nI (d - part))) 56 (6 * b + p) 0, v3) := by
          intro part h1 h2
          unfold f_X12_visits_J209
          rw [ck, ck, cl, tx_let_q, ck, ck, tx_let_q, ck, ck, tx_let_q, J250, up2_n (up2 M' 0 48 z) _ _ (show (54 : Nat) ≠ 53 by decide), up2_n _ _ _ (show (55 : Nat) ≠ 54 by decide), up2_n (up2 M' 0 48 z) _ _ (show (55 : Nat) ≠ 53 by decide), up2_n M' _ _ (show (53 : Nat) ≠ 0 by decide), ← p5, ea, pk_sub h1, pk_sub h2]
        unfold payM
        by_cases q : a ≤ d
        · rw [if_pos (nI_le q (by omega)), ck, J209 a (by omega) q, Nat.min_eq_left q]
        · rw [if_neg (nI_ge (by omega) (by omega)), J209 d (by omega) (by omega), Nat.min_eq_right (by omega)]
      · exact g4.c (up2_i _ _ _ (by decide)) (up2_i _ _ _ (by decide)) (by rw [f2 0 (by decide) (by decide)])
      · exact g5.trans (dF.of x3 f2 (up2_i _ _ _ (by decide)))
      · exact g9.trans (rdS.c (up2_n _ _ _ (by decide)) (up2_i _ _ _ (by decide)))
