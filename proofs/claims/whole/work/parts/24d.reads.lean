/-! how likely a thought is read; whether it is; what is due; how long it is kept -/
def vF (v v' : S64) : Prop := ∀ r, r ≠ 47 → r ≠ 48 → v' r = v r
theorem vF.refl (v : S64) : vF v v := fun _ _ _ => rfl
theorem vF.trans {v v' v'' : S64} (h : vF v v') (h2 : vF v' v'') : vF v v'' := fun r a b => (h2 r a b).trans (h r a b)
theorem nI0 : (0 : Int32) = nI 0 := rfl
theorem rdOf (fu : Nat) (hf : 1000 ≤ fu) {B L W M : S32} {b np nt nr x : Nat} {S : Nat → Prop} (h : WR B L W M b np nt nr x S) (vL vN v : S64) {t p r : Nat} (ht : t < nt) (hp : p < np) (hS : S p) (hr : r < nr) (hh : W 12 t = nI p) :
    ∃ e vL' vN' z v', f_X10_readOf fu W B L vL vN (nI t) (nI r) = some (e, vL', vN') ∧ f_X12_readOf fu M v (nI b) (nI t) (nI p) (nI r) = some (e, up2 M 0 48 z, v') ∧ vF v v' := by
  obtain ⟨⟨hb, ⟨⟨hnp, hnt, hnr⟩, ⟨b1, m1⟩, ⟨b5, m5⟩, ⟨b10, m10⟩, hbt, hbi⟩, ⟨n, hn, -, -, hk, hlw⟩, hfl⟩, ⟨hth, hpp, hw0⟩, hin⟩ := id h
  obtain ⟨p5, p7, p8, p9, p10⟩ := hpp p hS
  obtain ⟨-, t8, -, -⟩ := hbt t ht
  obtain ⟨vN', v', n1, n2, n3, n4⟩ := nm fu hf h vN v hp hS (nI r) (W 14 r) (B 8 t) (Or.inl ⟨r, hr, rfl, rfl⟩)
  obtain ⟨q, hq, wq⟩ := win_r fu ((((10 : Int32) * W 14 r) - ((5 : Int32) * W 6 p)) - ((10 : Int32) * W 9 p)) 100 (by omega)
  have wq2 : f_X12_within fu ((((10 : Int32) * W 14 r) - ((5 : Int32) * W 6 p)) - ((10 : Int32) * W 9 p)) (100 : Int32) = some (nI q) := wq
  -- the reference, up to its law
  have R : f_X12_readOf fu M v (nI b) (nI t) (nI p) (nI r) = tx_b3 (f_X12_boundLaw fu M v' (nI 0) (nI q) (nI 100)) fun (r_14 : Int32) (u_T_15 : S32) (v_T_16 : S64) => some (r_14, u_T_15, v_T_16) := by
    unfold f_X12_readOf
    rw [tx_ck_q (by omega) (by omega), nI_clamp (n := t) (by omega), m_skill fu v hnr hfl hr, tx_b1_q, ← t8, n2, tx_b1_q, m_skill fu v' hnr hfl hr, tx_b1_q, m_wiles fu v' hnp hfl hp, tx_b1_q, ix6, tx_ck_q (by omega) (by omega), nI_clamp (n := 6 * b + p) (by omega), ← p9, wq2, tx_b1_q]
    rfl
  -- the class, up to its law
  have C : f_X10_readOf fu W B L vL vN (nI t) (nI r) = tx_b1 (f_X5_isTold fu L vL (nI 0)) fun (r_12 : Int32) => if r_12 = (0 : Int32) then (f_X10_readOf_J97 fu W B L vL vN (nI r) (nI p) (-9223372036854775808 : Int64)) else (tx_b2 (f_X5_work_oNr0 fu L vN' vL (nI 0)) fun (r_18 : Int64) (v_L_19 : S64) => f_X10_readOf_J97 fu W B L v_L_19 vN' (nI r) (nI p) r_18) := by
    unfold f_X10_readOf
    rw [c_isT fu b5 hnt ht, tx_b1_q, if_neg one_ne, tx_ck_q (by omega) (by omega), nI_clamp (by omega), hh]
    unfold f_X10_readOf_J21
    rw [c_isM fu b1 hnp hp, tx_b1_q, if_neg one_ne, c_isR fu b10 hnr hr, tx_b1_q, if_neg one_ne]
    rw [tx_ck_q (by omega) (by omega), nI_clamp (by omega), n1, tx_b1_q]
    rfl
  have J0 : ∀ vL vN, f_X10_readOf_J97 fu W B L vL vN (nI r) (nI p) (-9223372036854775808 : Int64) = some (nI q, vL, vN) := by
    intro vL vN
    unfold f_X10_readOf_J97 f_X10_readOf_J140
    rw [if_pos ((lg_cmp_eq _ _).mpr rfl), tx_ck_q (by omega) (by omega), tx_ck_q (by omega) (by omega), tx_ck_q (by omega) (by omega), nI_clamp (by omega), nI_clamp (by omega), win_i fu _ (by decide), wq2]
    rfl
  have J1 : ∀ vL vN s, ¬ s = (-9223372036854775808 : Int64) → f_X10_readOf_J97 fu W B L vL vN (nI r) (nI p) s = some ((if (0 : Int64) ≤ s then (if s ≤ (nI 100).toInt64 then s.toInt32 else nI 100) else 0), vL, vN) := by
    intro vL vN s hs
    unfold f_X10_readOf_J97 f_X10_readOf_J140
    rw [if_neg (fun z => hs ((lg_cmp_eq _ _).mp z)), win_l fu _ (by decide)]
    rfl
  rcases hlw 0 (by omega) with hno | ⟨m33, a, c, hac, hc, l3, l4, m34, m35, hkn⟩
  · obtain ⟨i0, i1⟩ := lw_no fu vL (j := 0) (by omega) hno
    refine ⟨nI q, vL, vN, M 0 48, v', ?_, ?_, fun r h1 _ => n3 r h1⟩
    · rw [C, i0, tx_b1_q, if_pos rfl, J0]
    · rw [R, i1, up2_self M rfl]
      rfl
  · obtain ⟨s, vL', q', z, v'', g1, g2, g3, g4⟩ := lw_yes fu hf (j := 0) (by omega) hn hk hac hc l3 l4 m33 m34 m35 hkn vL vN' v' n4 (nI q) (most := 100) (by omega)
    refine ⟨q', vL', vN', z, v'', ?_, ?_, fun r h1 h2 => (g3 r h2).trans (n3 r h1)⟩
    · rw [C, isT1 fu vL (by omega) (by omega) l3, tx_b1_q, if_neg one_ne, g1, tx_b2_q]
      rcases g4 with ⟨e1, e2⟩ | ⟨e1, e2⟩
      · rw [J1 _ _ _ e1, e2]
      · rw [e1, J0, e2]
    · rw [R, g2]
      rfl
