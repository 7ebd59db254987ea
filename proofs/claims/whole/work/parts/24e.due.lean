theorem kn (fu : Nat) {B L W M : S32} {b np nt nr x : Nat} {S : Nat → Prop} (h : WR B L W M b np nt nr x S) (v : S64) {t r : Nat} (ht : t < nt) (hr : r < nr) :
    ∃ k, f_X10_knowsTongue fu W B (nI r) (nI t) = some k ∧ f_X12_knows fu M v (nI r) (nI t) = some k ∧ (k = 0 ∨ k = 1) := by
  obtain ⟨⟨hb, ⟨⟨hnp, hnt, hnr⟩, ⟨b1, m1⟩, ⟨b5, m5⟩, ⟨b10, m10⟩, hbt, hbi⟩, hlw, hfl⟩, -⟩ := h
  obtain ⟨-, -, -, t10⟩ := hbt t ht
  obtain ⟨-, -, -, a, ha, ea⟩ := hbi.2.1 t ht
  obtain ⟨-, h15⟩ := hfl.2 r hr
  have C : f_X10_knowsTongue fu W B (nI r) (nI t) = if ((W 15 r >>> (B 10 t &&& 31)) &&& (1 : Int32)) = (1 : Int32) then (some (1 : Int32)) else (some (0 : Int32)) := by
    unfold f_X10_knowsTongue
    rw [c_isR fu b10 hnr hr, tx_b1_q, if_neg one_ne, c_isT fu b5 hnt ht, tx_b1_q, if_neg one_ne, tx_ck_q (by omega) (by omega), tx_ck_q (by omega) (by omega), nI_clamp (by omega), nI_clamp (by omega)]
  rw [C]
  unfold f_X12_knows f_X12_knows_J25 f_X12_isOf
  rw [tx_ck_q (j := r) (by omega) (by omega), tx_ck_q (j := t) (by omega) (by omega), nI_clamp (n := r) (by omega), nI_clamp (n := t) (by omega), ← t10]
  rcases h15 with ⟨f0, e⟩ | ⟨f1, e⟩
  · rw [if_pos f0, ← e]
    by_cases hc : ((W 15 r >>> (B 10 t &&& 31)) &&& (1 : Int32)) = (1 : Int32)
    · rw [if_pos hc]
      exact ⟨1, rfl, rfl, Or.inr rfl⟩
    · rw [if_neg hc]
      exact ⟨0, rfl, rfl, Or.inl rfl⟩
  · rw [if_neg (show ¬ M 0 63 = 0 by rw [f1]; exact one_ne), e, ea]
    have : a = 0 ∨ a = 1 ∨ a = 2 ∨ a = 3 := by omega
    refine ⟨1, ?_, rfl, Or.inr rfl⟩
    rcases this with rfl | rfl | rfl | rfl <;> decide
/-! the next number -/
theorem l_mask (x : Int64) : ∃ m, m < 2 ^ 31 ∧ x &&& (2147483647 : Int64) = lN m := by
  refine ⟨x.toBitVec.toNat % 2 ^ 31, Nat.mod_lt _ (by decide), ?_⟩
  apply Int64.toBitVec_inj.mp
  apply BitVec.eq_of_toNat_eq
  have e : (lN (x.toBitVec.toNat % 2 ^ 31)).toBitVec.toNat = x.toBitVec.toNat % 2 ^ 31 := by
    show (BitVec.ofNat 64 _).toNat = _
    rw [BitVec.toNat_ofNat]
    exact Nat.mod_eq_of_lt (by have := Nat.mod_lt x.toBitVec.toNat (show 0 < 2 ^ 31 by decide); omega)
  rw [Int64.toBitVec_and, BitVec.toNat_and, e]
  exact Nat.and_two_pow_sub_one_eq_mod _ 31
theorem dr (fu : Nat) {W M : S32} {v : S64} (h : nbOK W (v 0 59)) : ∃ y z d, f_X10_draw fu W = some (y, up2 W 0 3 z) ∧ f_X12_number1 fu M v 100 = some (y - y / 100 * 100, up4 v 0 59 d) ∧ nbOK (up2 W 0 3 z) d := by
  obtain ⟨n, hn, e1, e2⟩ := h
  obtain ⟨m, hm, em⟩ := l_mask (lN n * (1103515245 : Int64) + (12345 : Int64))
  refine ⟨nI m / (65536 : Int32), nI m, lN m, ?_, ?_, m, hm, up2_e _ _ _ _, rfl⟩
  · unfold f_X10_draw
    rw [tx_let_q, e1, nI_l hn, em, lN_i, up2_e]
  · unfold f_X12_number1
    rw [tx_let_q, e2, em, up4_e]
    unfold tx_nl
    rw [if_neg (by decide), show (100 : Int32).toInt64 = lN 100 from by decide, show (65536 : Int64) = lN 65536 from rfl, pk_lDiv (by omega) (by omega) (by omega), pk_lRem (by omega) (by omega) (by omega), lN_i, show (65536 : Int32) = nI 65536 from rfl, show (100 : Int32) = nI 100 from rfl, pk_div hm (by omega) (by omega), pk_rem (by omega) (by omega) (by omega)]
/-- drawing: either none is asked for, or both have the same number -/
def drOK (W M : S32) (v : S64) (x3 : Int32) : Prop := M 0 61 = x3 ∧ (x3 = 0 ∨ (x3 = 1 ∧ nbOK W (v 0 59)))
/-- what stays of the reference's longs, and of the class's number -/
def dF (W W' : S32) (v v' : S64) (x3 : Int32) : Prop := (∀ r, r ≠ 0 → r ≠ 47 → r ≠ 48 → v' r = v r) ∧ (∀ i, i ≠ 59 → v' 0 i = v 0 i) ∧ (x3 = 0 → v' 0 59 = v 0 59 ∧ W' 0 3 = W 0 3)
theorem dF.refl (W : S32) (v : S64) (x3 : Int32) : dF W W v v x3 := ⟨fun _ _ _ _ => rfl, fun _ _ => rfl, fun _ => ⟨rfl, rfl⟩⟩
theorem dF.trans {W W' W'' : S32} {v v' v'' : S64} {x3 : Int32} (h : dF W W' v v' x3) (h2 : dF W' W'' v' v'' x3) : dF W W'' v v'' x3 :=
  ⟨fun r a b c => (h2.1 r a b c).trans (h.1 r a b c), fun i a => (h2.2.1 i a).trans (h.2.1 i a), fun z => ⟨(h2.2.2 z).1.trans (h.2.2 z).1, (h2.2.2 z).2.trans (h.2.2 z).2⟩⟩
theorem dF.of {W W' : S32} {v v' : S64} (x3 : Int32) (h : vF v v') (hW : W' 0 3 = W 0 3) : dF W W' v v' x3 :=
  ⟨fun r _ b c => h r b c, fun i _ => by rw [h 0 (by decide) (by decide)], fun _ => ⟨by rw [h 0 (by decide) (by decide)], hW⟩⟩
theorem drOK.c {W W' M M' : S32} {v v' : S64} {x3 : Int32} (h : drOK W M v x3) (h1 : M' 0 61 = M 0 61) (h2 : W' 0 3 = W 0 3) (h3 : v' 0 59 = v 0 59) : drOK W' M' v' x3 := by
  unfold drOK nbOK at *
  rw [h1, h2, h3]
  exact h
/-- whether a thought is read -/
theorem rds (fu : Nat) (hf : 1000 ≤ fu) {B L W M : S32} {b np nt nr x : Nat} {S : Nat → Prop} (h : WR B L W M b np nt nr x S) (vL vN v : S64) {t p r : Nat} (ht : t < nt) (hp : p < np) (hS : S p) (hr : r < nr) (hh : W 12 t = nI p) {x3 : Int32} (hd : drOK W M v x3) :
    ∃ k W' vL' vN' z v', f_X10_reads fu B L W vL vN (nI r) (nI t) x3 = some (k, W', vL', vN') ∧ f_X12_isReadAt fu M v (nI b) (nI t) (nI p) (nI r) = some (k, up2 M 0 48 z, v') ∧ (k = 0 ∨ k = 1) ∧ (W' = W ∨ ∃ y, W' = up2 W 0 3 y) ∧ drOK W' (up2 M 0 48 z) v' x3 ∧ dF W W' v v' x3 := by
  obtain ⟨k, k1, k2, k3⟩ := kn fu h v ht hr
  obtain ⟨d1, d2⟩ := id hd
  unfold f_X10_reads f_X12_isReadAt
  rw [k1, k2, tx_b1_q, tx_b1_q]
  rcases k3 with rfl | rfl
  · rw [if_pos rfl, if_pos rfl]
    exact ⟨0, W, vL, vN, M 0 48, v, rfl, by rw [up2_self M rfl], Or.inl rfl, Or.inl rfl, by rw [up2_self M rfl]; exact hd, dF.refl _ _ _⟩
  rw [if_neg one_ne, if_neg one_ne]
  obtain ⟨e, vL', vN', z, v', g1, g2, g3⟩ := rdOf fu hf h vL vN v ht hp hS hr hh
  rw [g1, g2, tx_b3_q, tx_b3_q]
  have u61 : (up2 M 0 48 z) 0 61 = x3 := by rw [up2_i _ _ _ (by decide)]; exact d1
  have hd2 : drOK W (up2 M 0 48 z) v' x3 := hd.c (up2_i _ _ _ (by decide)) rfl (by rw [g3 0 (by decide) (by decide)])
  have hF : dF W W v v' x3 := dF.of x3 g3 rfl
  rw [u61]
  unfold f_X12_isReadAt_J35 f_X10_reads_J48
  rcases d2 with rfl | ⟨rfl, hn⟩
  · rw [if_pos rfl, if_pos rfl]
    by_cases e0 : e = 0
    · rw [if_pos e0, e0]
      exact ⟨0, W, vL', vN', z, v', rfl, rfl, Or.inl rfl, Or.inl rfl, hd2, hF⟩
    · rw [if_neg e0]
      by_cases e1 : e = 100
      · rw [if_pos e1, e1]
        exact ⟨1, W, vL', vN', z, v', rfl, rfl, Or.inr rfl, Or.inl rfl, hd2, hF⟩
      · rw [if_neg e1]
        by_cases e2 : e < 50
        · rw [if_pos e2, if_pos e2]
          exact ⟨0, W, vL', vN', z, v', rfl, rfl, Or.inl rfl, Or.inl rfl, hd2, hF⟩
        · rw [if_neg e2, if_neg e2]
          exact ⟨1, W, vL', vN', z, v', rfl, rfl, Or.inr rfl, Or.inl rfl, hd2, hF⟩
  · rw [if_neg one_ne, if_neg one_ne]
    by_cases e0 : e = 0
    · rw [if_pos e0, if_pos e0, e0]
      exact ⟨0, W, vL', vN', z, v', rfl, rfl, Or.inl rfl, Or.inl rfl, hd2, hF⟩
    · rw [if_neg e0, if_neg e0]
      by_cases e1 : e = 100
      · rw [if_pos e1, if_pos e1, e1]
        exact ⟨1, W, vL', vN', z, v', rfl, rfl, Or.inr rfl, Or.inl rfl, hd2, hF⟩
      · rw [if_neg e1, if_neg e1]
        have hn2 : nbOK W (v' 0 59) := by rw [g3 0 (by decide) (by decide)]; exact hn
        obtain ⟨y, z2, dd, a1, a2, a3⟩ := dr fu (M := up2 M 0 48 z) (v := v') hn2
        rw [a1, a2, tx_b2_q, tx_b2_q]
        have hd3 : drOK (up2 W 0 3 z2) (up2 M 0 48 z) (up4 v' 0 59 dd) 1 := ⟨u61, Or.inr ⟨rfl, by rw [up4_e]; exact a3⟩⟩
        have hF3 : dF W (up2 W 0 3 z2) v (up4 v' 0 59 dd) 1 := ⟨fun r a b c => (up4_n _ _ _ a).trans (g3 r b c), fun i a => (up4_i _ _ _ a).trans (by rw [g3 0 (by decide) (by decide)]), fun z => absurd z one_ne⟩
        by_cases e2 : e ≤ y - y / 100 * 100
        · rw [if_pos e2, if_pos e2]
          exact ⟨0, _, vL', vN', z, _, rfl, rfl, Or.inl rfl, Or.inr ⟨_, rfl⟩, hd3, hF3⟩
        · rw [if_neg e2, if_neg e2]
          exact ⟨1, _, vL', vN', z, _, rfl, rfl, Or.inr rfl, Or.inr ⟨_, rfl⟩, hd3, hF3⟩
/-- what is due for the best -/
theorem dues (fu : Nat) (hf : 1000 ≤ fu) {B L W M : S32} {b np nt nr x : Nat} {S : Nat → Prop} (h : WR B L W M b np nt nr x S) (vL vN v : S64) {p r best : Nat} (hp : p < np) (hS : S p) (hr : r < nr) (hbest : best ≤ 99) :
    ∃ d y vL' vN' v', d ≤ 999 ∧ f_X10_dueOf fu B L W vL vN (nI p) (nI r) (nI best) = some (nI d, up2 W 0 15 y, vL', vN') ∧ (y = 0 ∨ y = 1) ∧ (y = 0 → W 0 15 = 0) ∧ f_X12_layNames fu M v (nI b) (nI best) (W 14 r) (nI p) = some v' ∧
      ((W 0 2 = M 58 b ∨ y = 0) → ∃ z v'', f_X12_boundLaw fu M v' (nI 1) ((nI best * M 58 b) / 100) (nI 999) = some (nI d, up2 M 0 48 z, v'') ∧ vF v v'') := by
  obtain ⟨⟨hb, ⟨⟨hnp, hnt, hnr⟩, ⟨b1, m1⟩, ⟨b5, m5⟩, ⟨b10, m10⟩, hbt, hbi⟩, ⟨n, hn, -, -, hk, hlw⟩, hfl⟩, ⟨hth, hpp, hw0⟩, hin⟩ := id h
  obtain ⟨vN', v', n1, n2, n3, n4⟩ := nm fu hf h vN v hp hS (nI r) (W 14 r) (nI best) (Or.inl ⟨r, hr, rfl, rfl⟩)
  obtain ⟨⟨ra, hra, era⟩, hbit⟩ := hin.2.2.2
  have hq : nI best * W 0 2 / 100 = nI (best * ra / 100) := by
    rw [era, pk_mul, show (100 : Int32) = nI 100 from rfl]
    have : best * ra ≤ 99 * 100 := Nat.mul_le_mul hbest hra
    exact pk_div (by omega) (by omega) (by omega)
  have hq2 : best * ra / 100 ≤ 999 := by
    have : best * ra ≤ 99 * 100 := Nat.mul_le_mul hbest hra
    omega
  have or0 : W 0 15 ||| (0 : Int32) = W 0 15 := by rcases hbit with e | e <;> rw [e] <;> rfl
  have or1 : W 0 15 ||| (1 : Int32) = 1 := by rcases hbit with e | e <;> rw [e] <;> rfl
  have J0 : ∀ vL vN, f_X10_dueOf_J43 fu B L W vL vN (nI best) (-9223372036854775808 : Int64) = some (nI (best * ra / 100), up2 W 0 15 1, vL, vN) := by
    intro vL vN
    unfold f_X10_dueOf_J43 f_X10_dueOf_J62 f_X10_dueOf_J90
    rw [if_pos ((lg_cmp_eq _ _).mpr rfl), or1, tx_bz_1, tx_let_q, if_pos ((lg_cmp_eq _ _).mpr rfl), up2_i _ _ _ (by decide), hq, win_i fu _ (by decide), show (999 : Int32) = nI 999 from rfl, win_s fu hq2 (by omega)]
    rfl
  have J1 : ∀ vL vN s, ¬ s = (-9223372036854775808 : Int64) → f_X10_dueOf_J43 fu B L W vL vN (nI best) s = some ((if (0 : Int64) ≤ s then (if s ≤ (nI 999).toInt64 then s.toInt32 else nI 999) else 0), up2 W 0 15 (W 0 15), vL, vN) := by
    intro vL vN s hs
    unfold f_X10_dueOf_J43 f_X10_dueOf_J62 f_X10_dueOf_J90
    rw [if_neg (fun z => hs ((lg_cmp_eq _ _).mp z)), or0, tx_bz_q hbit, tx_let_q, if_neg (fun z => hs ((lg_cmp_eq _ _).mp z)), win_l fu _ (by decide)]
    rfl
  have C : f_X10_dueOf fu B L W vL vN (nI p) (nI r) (nI best) = tx_b1 (f_X5_isTold fu L vL (nI 1)) fun (r_2 : Int32) => if r_2 = (0 : Int32) then (f_X10_dueOf_J43 fu B L W vL vN (nI best) (-9223372036854775808 : Int64)) else (tx_b2 (f_X5_work_oNr0 fu L vN' vL (nI 1)) fun (r_7 : Int64) (v_L_8 : S64) => f_X10_dueOf_J43 fu B L W v_L_8 vN' (nI best) r_7) := by
    unfold f_X10_dueOf
    rw [n1, tx_b1_q]
    rfl
  rcases hlw 1 (by omega) with hno | ⟨m33, a, c, hac, hc, l3, l4, m34, m35, hkn⟩
  · obtain ⟨i0, i1⟩ := lw_no fu vL (j := 1) (by omega) hno
    refine ⟨best * ra / 100, 1, vL, vN, v', hq2, ?_, Or.inr rfl, fun z => absurd z one_ne, n2, fun hc => ⟨M 0 48, v', ?_, fun r h1 _ => n3 r h1⟩⟩
    · rw [C, i0, tx_b1_q, if_pos rfl, J0]
    · rcases hc with hc | hc
      · rw [i1, up2_self M rfl, ← hc, hq]
      · exact absurd hc one_ne
  · obtain ⟨s, vL', q', z, v'', g1, g2, g3, g4⟩ := lw_yes fu hf (j := 1) (by omega) hn hk hac hc l3 l4 m33 m34 m35 hkn vL vN' v' n4 ((nI best * M 58 b) / 100) (most := 999) (by omega)
    have hT := isT1 fu vL (j := 1) (by omega) (by omega) l3
    rcases g4 with ⟨e1, e2⟩ | ⟨e1, e2⟩
    · obtain ⟨d, hd, ed⟩ := win_lr s 999 (by omega)
      refine ⟨d, W 0 15, vL', vN', v', hd, ?_, hbit, fun z => z, n2, fun _ => ⟨z, v'', ?_, fun r h1 h2 => (g3 r h2).trans (n3 r h1)⟩⟩
      · rw [C, hT, tx_b1_q, if_neg one_ne, g1, tx_b2_q, J1 _ _ _ e1, ed]
      · rw [g2, e2, ed]
    · refine ⟨best * ra / 100, 1, vL', vN', v', hq2, ?_, Or.inr rfl, fun z => absurd z one_ne, n2, fun hc => ⟨z, v'', ?_, fun r h1 h2 => (g3 r h2).trans (n3 r h1)⟩⟩
      · rw [C, hT, tx_b1_q, if_neg one_ne, g1, tx_b2_q, e1, J0]
      · rcases hc with hc | hc
        · rw [g2, e2, ← hc, hq]
        · exact absurd hc one_ne
/-- how long a thought is kept -/
theorem hids (fu : Nat) (hf : 1000 ≤ fu) {B L W M : S32} {b np nt nr x : Nat} {S : Nat → Prop} (h : WR B L W M b np nt nr x S) (vL vN v : S64) {t p : Nat} (ht : t < nt) (hp : p < np) (hS : S p) (hh : W 12 t = nI p) :
    ∃ d vL' vN' z v' v'', d ≤ 99 ∧ f_X10_hideOf fu W B L vL vN (nI t) = some (nI d, vL', vN') ∧ f_X12_layNames fu M v (nI b) (B 8 t) 0 (nI p) = some v' ∧ f_X12_wilesOf fu M v' (nI p) = some (W 6 p) ∧ f_X12_boundLaw fu M v' (nI 2) (8 + W 6 p) (nI 99) = some (nI d, up2 M 0 48 z, v'') ∧ vF v v'' := by
  obtain ⟨⟨hb, ⟨⟨hnp, hnt, hnr⟩, ⟨b1, m1⟩, ⟨b5, m5⟩, ⟨b10, m10⟩, hbt, hbi⟩, ⟨n, hn, -, -, hk, hlw⟩, hfl⟩, ⟨hth, hpp, hw0⟩, hin⟩ := id h
  obtain ⟨vN', v', n1, n2, n3, n4⟩ := nm fu hf h vN v hp hS (-1) 0 (B 8 t) (Or.inr ⟨rfl, rfl⟩)
  obtain ⟨-, wa, hwa, ewa⟩ := hfl.1 p hp
  have hq : (8 : Int32) + W 6 p = nI (8 + wa) := by rw [ewa, show (8 : Int32) = nI 8 from rfl, nI_add]
  have J0 : ∀ vL vN, f_X10_hideOf_J84 fu W B L vL vN (nI p) (-9223372036854775808 : Int64) = some (nI (8 + wa), vL, vN) := by
    intro vL vN
    unfold f_X10_hideOf_J84 f_X10_hideOf_J106
    rw [if_pos ((lg_cmp_eq _ _).mpr rfl), tx_ck_q (by omega) (by omega), nI_clamp (by omega), hq, win_i fu _ (by decide), show (99 : Int32) = nI 99 from rfl, win_s fu (by omega) (by omega)]
    rfl
  have J1 : ∀ vL vN s, ¬ s = (-9223372036854775808 : Int64) → f_X10_hideOf_J84 fu W B L vL vN (nI p) s = some ((if (0 : Int64) ≤ s then (if s ≤ (nI 99).toInt64 then s.toInt32 else nI 99) else 0), vL, vN) := by
    intro vL vN s hs
    unfold f_X10_hideOf_J84 f_X10_hideOf_J106
    rw [if_neg (fun z => hs ((lg_cmp_eq _ _).mp z)), win_l fu _ (by decide)]
    rfl
  have C : f_X10_hideOf fu W B L vL vN (nI t) = tx_b1 (f_X5_isTold fu L vL (nI 2)) fun (r_2 : Int32) => if r_2 = (0 : Int32) then (f_X10_hideOf_J84 fu W B L vL vN (nI p) (-9223372036854775808 : Int64)) else (tx_b2 (f_X5_work_oNr0 fu L vN' vL (nI 2)) fun (r_7 : Int64) (v_L_8 : S64) => f_X10_hideOf_J84 fu W B L v_L_8 vN' (nI p) r_7) := by
    unfold f_X10_hideOf
    rw [c_isT fu b5 hnt ht, tx_b1_q, if_neg one_ne, tx_ck_q (by omega) (by omega), nI_clamp (by omega), hh]
    unfold f_X10_hideOf_J21
    rw [c_isM fu b1 hnp hp, tx_b1_q, if_neg one_ne, tx_ck_q (by omega) (by omega), nI_clamp (by omega), n1, tx_b1_q]
    rfl
  have mw := m_wiles fu v' hnp hfl hp
  rw [hq]
  rcases hlw 2 (by omega) with hno | ⟨m33, a, c, hac, hc, l3, l4, m34, m35, hkn⟩
  · obtain ⟨i0, i1⟩ := lw_no fu vL (j := 2) (by omega) hno
    refine ⟨8 + wa, vL, vN, M 0 48, v', v', by omega, ?_, n2, mw, ?_, fun r h1 _ => n3 r h1⟩
    · rw [C, i0, tx_b1_q, if_pos rfl, J0]
    · rw [i1, up2_self M rfl]
  · obtain ⟨s, vL', q', z, v'', g1, g2, g3, g4⟩ := lw_yes fu hf (j := 2) (by omega) hn hk hac hc l3 l4 m33 m34 m35 hkn vL vN' v' n4 (nI (8 + wa)) (most := 99) (by omega)
    have hT := isT1 fu vL (j := 2) (by omega) (by omega) l3
    rcases g4 with ⟨e1, e2⟩ | ⟨e1, e2⟩
    · obtain ⟨d, hd, ed⟩ := win_lr s 99 (by omega)
      refine ⟨d, vL', vN', z, v', v'', hd, ?_, n2, mw, ?_, fun r h1 h2 => (g3 r h2).trans (n3 r h1)⟩
      · rw [C, hT, tx_b1_q, if_neg one_ne, g1, tx_b2_q, J1 _ _ _ e1, ed]
      · rw [g2, e2, ed]
    · refine ⟨8 + wa, vL', vN', z, v', v'', by omega, ?_, n2, mw, ?_, fun r h1 h2 => (g3 r h2).trans (n3 r h1)⟩
      · rw [C, hT, tx_b1_q, if_neg one_ne, g1, tx_b2_q, e1, J0]
      · rw [g2, e2]
