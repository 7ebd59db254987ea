/-! one door is visited -/
def cF3 (W W' : S32) : Prop := ∀ q i, q ≠ 13 → ¬ (q = 0 ∧ i = 3) → W' q i = W q i
theorem cF3.refl (W : S32) : cF3 W W := fun _ _ _ _ => rfl
theorem cF3.trans {W W' W'' : S32} (h : cF3 W W') (h2 : cF3 W' W'') : cF3 W W'' := fun q i a c => (h2 q i a c).trans (h q i a c)
def cF (W W' : S32) : Prop := ∀ q i, q ≠ 13 → ¬ (q = 0 ∧ (i = 3 ∨ i = 15)) → W' q i = W q i
theorem cF.refl (W : S32) : cF W W := fun _ _ _ _ => rfl
theorem cF.trans {W W' W'' : S32} (h : cF W W') (h2 : cF W' W'') : cF W W'' := fun q i a c => (h2 q i a c).trans (h q i a c)
def rdS (W W' M M' : S32) (nt : Nat) : Prop := ∀ u, u < nt → (isB (M 0 60) u → isB (M' 0 60) u) ∧ (isB (M' 0 60) u → isB (M 0 60) u ∨ W' 13 u = 1) ∧ (W' 13 u = W 13 u ∨ (W' 13 u = 1 ∧ isB (M' 0 60) u))
theorem rdS.refl (W M : S32) (nt : Nat) : rdS W W M M nt := fun _ _ => ⟨id, Or.inl, Or.inl rfl⟩
theorem rdS.trans {W W' W'' M M' M'' : S32} {nt : Nat} (h : rdS W W' M M' nt) (h2 : rdS W' W'' M' M'' nt) : rdS W W'' M M'' nt := by
  intro u hu
  obtain ⟨a1, a2, a3⟩ := h u hu
  obtain ⟨c1, c2, c3⟩ := h2 u hu
  refine ⟨fun z => c1 (a1 z), fun z => ?_, ?_⟩
  · rcases c2 z with z | z
    · rcases a2 z with z | z
      · exact Or.inl z
      · rcases c3 with e | ⟨e, -⟩
        · exact Or.inr (e.trans z)
        · exact Or.inr e
    · exact Or.inr z
  · rcases c3 with e | e
    · rcases a3 with e' | ⟨e', e''⟩
      · exact Or.inl (e.trans e')
      · exact Or.inr ⟨e.trans e', c1 e''⟩
    · exact Or.inr e
theorem rdS.c {W W' M M' : S32} {nt : Nat} (h : W' 13 = W 13) (e : M' 0 60 = M 0 60) : rdS W W' M M' nt := by
  intro u _
  rw [h, e]
  exact ⟨id, Or.inl, Or.inl rfl⟩
theorem vis_loop (fu : Nat) (hf : 1000 ≤ fu) {B L : S32} {b np nt nr x : Nat} {S : Nat → Prop} {p r : Nat} (hp : p < np) (hS : S p) (hr : r < nr) {x3 : Int32} : ∀ (m t : Nat) (W : S32) (vL vN : S64) (M : S32) (v : S64) (best nc nf : Nat), WR B L W M b np nt nr x S → drOK W M v x3 → best ≤ 99 → t + m = nt → m < nc → m < nf →
    ∃ W' vL' vN' M' v' best', best' ≤ 99 ∧
      f_X10_dueAt_L6 fu B L nc W vL vN (nI p) (nI r) x3 (nI best) (nI t) = f_X10_dueAt_J77 fu B L W' vL' vN' (nI p) (nI r) (nI best') ∧
      f_X12_visits_L23 fu nf M v (nI b) (nI p) (nI r) (nI best) (nI t) = f_X12_visits_J23 fu (fun _ _ _ _ _ _ _ => none) M' v' (nI b) (nI p) (nI r) (nI best') (nI nt) ∧
      WR B L W' M' b np nt nr x S ∧ drOK W' M' v' x3 ∧ dF W W' v v' x3 ∧ FR b M M' ∧ cF3 W W' ∧ (∀ q, 53 ≤ q → M' q = M q) ∧ rdS W W' M M' nt := by
  intro m
  induction m with
  | zero =>
    intro t W vL vN M v best nc nf h hd hbest ht hc hf2
    obtain ⟨nc, rfl⟩ := pos_ex hc
    obtain ⟨nf, rfl⟩ := pos_ex hf2
    have htn : t = nt := by omega
    subst htn
    obtain ⟨⟨hb, ⟨⟨hnp, hnt, hnr⟩, ⟨b1, m1⟩, ⟨b5, m5⟩, -⟩, -⟩, -⟩ := id h
    refine ⟨W, vL, vN, M, v, best, hbest, ?_, ?_, h, hd, dF.refl _ _ _, FR.refl _ _, cF3.refl _, fun _ _ => rfl, rdS.refl _ _ _⟩
    · show f_X10_dueAt_J6 _ _ _ _ _ _ _ _ _ _ _ _ = _
      unfold f_X10_dueAt_J6
      rw [b5, if_pos (nI_le (by omega) (by omega))]
    · show f_X12_visits_J23 _ _ _ _ _ _ _ _ _ = _
      unfold f_X12_visits_J23
      rw [m5, if_pos (nI_le (by omega) (by omega)), if_pos (nI_le (by omega) (by omega))]
  | succ m ih =>
    intro t W vL vN M v best nc nf h hd hbest ht hc hf2
    obtain ⟨nc, rfl⟩ := pos_ex hc
    obtain ⟨nf, rfl⟩ := pos_ex hf2
    obtain ⟨⟨hb, ⟨⟨hnp, hnt, hnr⟩, ⟨b1, m1⟩, ⟨b5, m5⟩, ⟨b10, m10⟩, hbt, hbi⟩, hlw, hfl⟩, ⟨hth, hpp, hw0⟩, hin⟩ := id h
    have htn : t < nt := by omega
    -- going on
    have go : ∀ W1 vL1 vN1 M1 v1 best1, best1 ≤ 99 → WR B L W1 M1 b np nt nr x S → drOK W1 M1 v1 x3 → dF W W1 v v1 x3 → FR b M M1 → cF3 W W1 → (∀ q, 53 ≤ q → M1 q = M q) → rdS W W1 M M1 nt →
        f_X10_dueAt_L6 fu B L (nc + 1) W vL vN (nI p) (nI r) x3 (nI best) (nI t) = f_X10_dueAt_L6 fu B L nc W1 vL1 vN1 (nI p) (nI r) x3 (nI best1) (nI (t + 1)) →
        f_X12_visits_L23 fu (nf + 1) M v (nI b) (nI p) (nI r) (nI best) (nI t) = f_X12_visits_L23 fu nf M1 v1 (nI b) (nI p) (nI r) (nI best1) (nI (t + 1)) →
        ∃ W' vL' vN' M' v' best', best' ≤ 99 ∧
          f_X10_dueAt_L6 fu B L (nc + 1) W vL vN (nI p) (nI r) x3 (nI best) (nI t) = f_X10_dueAt_J77 fu B L W' vL' vN' (nI p) (nI r) (nI best') ∧
          f_X12_visits_L23 fu (nf + 1) M v (nI b) (nI p) (nI r) (nI best) (nI t) = f_X12_visits_J23 fu (fun _ _ _ _ _ _ _ => none) M' v' (nI b) (nI p) (nI r) (nI best') (nI nt) ∧
          WR B L W' M' b np nt nr x S ∧ drOK W' M' v' x3 ∧ dF W W' v v' x3 ∧ FR b M M' ∧ cF3 W W' ∧ (∀ q, 53 ≤ q → M' q = M q) ∧ rdS W W' M M' nt := by
      intro W1 vL1 vN1 M1 v1 best1 k1 k2 k3 k4 k5 k6 k7 k8 e1 e2
      obtain ⟨W', vL', vN', M', v', best', g0, g1, g2, g3, g4, g5, g6, g7, g8, g9⟩ := ih (t + 1) W1 vL1 vN1 M1 v1 best1 nc nf k2 k3 k1 (by omega) (by omega) (by omega)
      exact ⟨W', vL', vN', M', v', best', g0, e1.trans g1, e2.trans g2, g3, g4, k4.trans g5, k5.trans g6, k6.trans g7, fun q hq => (g8 q hq).trans (k7 q hq), k8.trans g9⟩
    have C : f_X10_dueAt_L6 fu B L (nc + 1) W vL vN (nI p) (nI r) x3 (nI best) (nI t) = if W 11 t = 1 ∧ W 12 t = nI p then (tx_b4 (f_X10_reads fu B L W vL vN (nI r) (nI t) x3) fun (r_7 : Int32) (u_T_8 : S32) (v_L_9 : S64) (v_N_10 : S64) => if r_7 = (0 : Int32) then f_X10_dueAt_L6 fu B L nc u_T_8 v_L_9 v_N_10 (nI p) (nI r) x3 (nI best) (nI (t + 1)) else f_X10_dueAt_L6 fu B L nc (up2 u_T_8 13 t 1) v_L_9 v_N_10 (nI p) (nI r) x3 (if nI best < B 8 t then B 8 t else nI best) (nI (t + 1))) else f_X10_dueAt_L6 fu B L nc W vL vN (nI p) (nI r) x3 (nI best) (nI (t + 1)) := by
      show f_X10_dueAt_J6 _ _ _ _ _ _ _ _ _ _ _ _ = _
      unfold f_X10_dueAt_J6 f_X10_dueAt_J71
      rw [b5, if_neg (ge_lit (by omega) (by omega)), if_neg (ge12 (by omega)), c_heldAt fu b5 hnt htn, tx_b1_q, nI_clamp (by omega), nI_1]
      have ck := fun k : Option (Int32 × S32 × S64 × S64) => tx_ck_q (j := t) (n := 12) (by omega) (by omega) k
      simp only [ck, tx_let_q]
      by_cases hh : W 11 t = 1 ∧ W 12 t = nI p
      · rw [if_pos hh, if_pos hh, if_neg one_ne]
      · rw [if_neg hh, if_neg hh, if_pos rfl]
    have R : f_X12_visits_L23 fu (nf + 1) M v (nI b) (nI p) (nI r) (nI best) (nI t) = if M 50 (12 * b + t) = 1 then (if M 51 (12 * b + t) = nI p then (tx_b3 (f_X12_isReadAt fu M v (nI b) (nI t) (nI p) (nI r)) fun (r_24 : Int32) (u_T_25 : S32) (v_T_26 : S64) => if r_24 = (0 : Int32) then f_X12_visits_L23 fu nf u_T_25 v_T_26 (nI b) (nI p) (nI r) (nI best) (nI (t + 1)) else f_X12_visits_L23 fu nf (up2 (up2 u_T_25 52 (12 * b + t) 1) 0 60 (u_T_25 0 60 ||| ((1 : Int32) <<< (nI t &&& 31)))) v_T_26 (nI b) (nI p) (nI r) (if u_T_25 27 t ≤ nI best then nI best else u_T_25 27 t) (nI (t + 1))) else f_X12_visits_L23 fu nf M v (nI b) (nI p) (nI r) (nI best) (nI (t + 1))) else f_X12_visits_L23 fu nf M v (nI b) (nI p) (nI r) (nI best) (nI (t + 1)) := by
      show f_X12_visits_J23 _ _ _ _ _ _ _ _ _ = _
      unfold f_X12_visits_J23 f_X12_visits_J129 f_X12_visits_J131
      have ck := fun k : Option (S32 × S64) => tx_ck_q (j := 12 * b + t) (n := 24) (by omega) (by omega) k
      have ck' := fun k : Option (S32 × S64) => tx_ck_q (j := t) (n := 24) (by omega) (by omega) k
      rw [m5, if_neg (ge_lit (by omega) (by omega)), ix12, nI_clamp (n := 12 * b + t) (by omega), nI_clamp (n := t) (by omega), nI_1, ck]
      by_cases h1 : M 50 (12 * b + t) = 1
      · rw [if_pos h1, if_pos h1, ck]
        by_cases h2 : M 51 (12 * b + t) = nI p
        · rw [if_pos h2, if_pos h2]
          congr 1
          funext r24 u25 v26
          by_cases h3 : r24 = 0
          · rw [if_pos h3, if_pos h3]
            rfl
          · rw [if_neg h3, if_neg h3, ck, tx_let_q, tx_let_q, ck', up2_n _ _ _ (by decide), up2_n _ _ _ (by decide), up2_n _ _ _ (show (0 : Nat) ≠ 52 by decide)]
            by_cases h4 : u25 27 t ≤ nI best
            · rw [if_pos h4, if_pos h4]
              rfl
            · rw [if_neg h4, if_neg h4, ck']
              rfl
        · rw [if_neg h2, if_neg h2]
          rfl
      · rw [if_neg h1, if_neg h1]
        rfl
    obtain ⟨-, hh2, -⟩ := hth t htn
    have hone := hth.one htn
    by_cases hh : W 11 t = 1 ∧ W 12 t = nI p
    · rw [if_pos hh] at C
      rw [if_pos (hone.mp hh.1), if_pos (hh2 ▸ hh.2)] at R
      obtain ⟨k, W1, vL1, vN1, z, v1, g1, g2, g3, g4, g5, g6⟩ := rds fu hf h vL vN v htn hp hS hr hh.2 hd
      rw [g1, tx_b4_q] at C
      rw [g2, tx_b3_q] at R
      have hW1 : WR B L W1 (up2 M 0 48 z) b np nt nr x S := by
        rcases g4 with rfl | ⟨y, rfl⟩
        · exact h.u0 z (Or.inl rfl)
        · exact (h.u0 z (Or.inl rfl)).f (Or.inl rfl)
      have hcF : cF3 W W1 := by
        rcases g4 with rfl | ⟨y, rfl⟩
        · exact cF3.refl _
        · intro q i _ hq
          rw [up2_a, if_neg (fun z => hq ⟨z.1, z.2⟩)]
      have h13 : W1 13 = W 13 := by
        rcases g4 with rfl | ⟨y, rfl⟩
        · rfl
        · exact up2_n _ _ _ (by decide)
      rcases g3 with rfl | rfl
      · rw [if_pos rfl] at C R
        exact go W1 vL1 vN1 _ v1 best hbest hW1 g5 g6 ((FR.refl _ _).u48 z) hcF (fun q hq => up2_n _ _ _ (by omega)) (rdS.c h13 (up2_i _ _ _ (by decide))) C R
      · rw [if_neg one_ne] at C R
        obtain ⟨-, ⟨a8, ha0, ha8, e8⟩, -⟩ := hbi.2.1 t htn
        obtain ⟨-, t8, -, -⟩ := hbt t htn
        rw [up2_n M 48 z (show (27 : Nat) ≠ 0 by decide), ← t8, e8, up2_i _ _ _ (show (60 : Nat) ≠ 48 by decide)] at R
        rw [e8] at C
        have eb : (if nI best < nI a8 then nI a8 else nI best) = nI (if best < a8 then a8 else best) ∧ (if nI a8 ≤ nI best then nI best else nI a8) = nI (if best < a8 then a8 else best) := by
          by_cases q : best < a8
          · rw [if_pos q, if_pos (nI_lt q (by omega)), if_neg (nI_ge q (by omega))]
            exact ⟨rfl, rfl⟩
          · rw [if_neg q, if_neg (nI_nlt (by omega) (by omega)), if_pos (nI_le (by omega) (by omega))]
            exact ⟨rfl, rfl⟩
        rw [eb.1] at C
        rw [eb.2] at R
        refine go (up2 W1 13 t 1) vL1 vN1 _ v1 _ (by split <;> omega) ((hW1.rd htn).u0 _ (Or.inr rfl)) ?_ ?_ ?_ ?_ ?_ ?_ C R
        · exact g5.c (by rw [up2_i _ _ _ (by decide), up2_n _ _ _ (by decide)]) (by rw [up2_n _ _ _ (by decide)]) rfl
        · exact ⟨g6.1, g6.2.1, fun z => ⟨(g6.2.2 z).1, by rw [up2_n _ _ _ (by decide)]; exact (g6.2.2 z).2⟩⟩
        · exact (((FR.refl b M).u48 z).up _ (by unfold sc; omega)).u60 _
        · intro q i h1 h2
          rw [up2_n _ _ _ h1]
          exact hcF q i h1 h2
        · intro q hq
          by_cases h52 : q = 52
          · omega
          · rw [up2_n _ _ _ (by omega), up2_n _ _ _ h52, up2_n _ _ _ (by omega)]
        · intro u hu
          rw [up2_e]
          have hb2 := isB_or (M 0 60) (u := u) (t := t) (by omega) (by omega)
          rw [hb2, up2_a]
          by_cases hut : u = t
          · rw [if_pos ⟨rfl, hut⟩]
            exact ⟨fun z => Or.inl z, fun _ => Or.inr rfl, Or.inr ⟨rfl, Or.inr hut⟩⟩
          · rw [if_neg (fun z => hut z.2), h13]
            exact ⟨fun z => Or.inl z, fun z => Or.inl (z.resolve_right hut), Or.inl rfl⟩
    · rw [if_neg hh] at C
      have R2 : f_X12_visits_L23 fu (nf + 1) M v (nI b) (nI p) (nI r) (nI best) (nI t) = f_X12_visits_L23 fu nf M v (nI b) (nI p) (nI r) (nI best) (nI (t + 1)) := by
        by_cases h1 : M 50 (12 * b + t) = 1
        · have h2 : ¬ M 51 (12 * b + t) = nI p := fun z => hh ⟨hone.mpr h1, hh2.trans z⟩
          rw [if_pos h1, if_neg h2] at R
          exact R
        · rw [if_neg h1] at R
          exact R
      exact go W vL vN M v best hbest h hd (dF.refl _ _ _) (FR.refl _ _) (cF3.refl _) (fun _ _ => rfl) (rdS.refl _ _ _) C R2
