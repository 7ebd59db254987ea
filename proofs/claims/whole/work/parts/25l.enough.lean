/-! dull thoughts enough -/
theorem up2_up2 (b : S32) (r i : Nat) (x y : Int32) : up2 (up2 b r i x) r i y = up2 b r i y := by
  funext q j
  simp only [up2_a]
  by_cases h : q = r ∧ j = i
  · rw [if_pos h, if_pos h]
  · rw [if_neg h, if_neg h, if_neg h]
theorem en_yes (fu : Nat) {M : S32} {nt : Nat} (m5 : M 0 13 = nI nt) (hnt : nt ≤ 12) (K : S32 → S64 → Int32 → Int32 → Option (Int32 × S32 × S64)) (v : S64) (p k r : Int32) : ∀ (m t n : Nat), t + m = nt → m < n → f_X12_enough_L64 fu K n M v p k r 1 (nI t) = K M v p (k + 1) := by
  intro m
  induction m with
  | zero =>
    intro t n ht hn
    obtain ⟨n, rfl⟩ := pos_ex hn
    show f_X12_enough_J64 _ _ _ _ _ _ _ _ _ _ = _
    unfold f_X12_enough_J64
    rw [m5, if_pos (nI_le (by omega) (by omega)), if_neg one_ne, tx_let_q]
  | succ m ih =>
    intro t n ht hn
    obtain ⟨n, rfl⟩ := pos_ex hn
    rw [← ih (t + 1) n (by omega) (by omega)]
    show f_X12_enough_J64 _ _ _ _ _ _ _ _ _ _ = _
    unfold f_X12_enough_J64 f_X12_enough_J116 f_X12_enough_J121
    rw [m5, if_neg (ge_lit (by omega) (by omega)), if_neg one_ne, tx_let_q, nI_1]
theorem en_loop (fu : Nat) (hf : 1000 ≤ fu) {B L W : S32} {np nt nr p r : Nat} (hp : p < np) (hr : r < nr) (k : Int32) : ∀ (m t : Nat) (vL vN : S64) (M : S32) (v : S64) (nc nf : Nat), WR B L W M 1 np nt nr 99 (fun p => p < np) → M 0 61 = 0 → (∀ t, t < nt → W 11 t = M 50 t ∧ W 12 t = M 51 t) → t + m = nt → m < nc → m < nf →
    ∃ res vL' vN' M' v', f_X10_readsAny_L2 fu B L nc W vL vN (nI p) (nI r) (nI t) = some (res, W, vL', vN') ∧ (∀ K, f_X12_enough_L64 fu K nf M v (nI p) k (nI r) 0 (nI t) = if res = 0 then some (k, M', v') else K M' v' (nI p) (k + 1)) ∧ FR 1 M M' ∧ v' 0 59 = v 0 59 ∧ v' 0 80 = v 0 80 := by
  intro m
  induction m with
  | zero =>
    intro t vL vN M v nc nf h h61 h0 ht hc hf2
    obtain ⟨nc, rfl⟩ := pos_ex hc
    obtain ⟨nf, rfl⟩ := pos_ex hf2
    obtain ⟨⟨hb, ⟨⟨hnp, hnt, hnr⟩, ⟨b1, m1⟩, ⟨b5, m5⟩, -⟩, -⟩, -⟩ := id h
    refine ⟨0, vL, vN, M, v, ?_, fun K => ?_, FR.refl _ _, rfl, rfl⟩
    · show f_X10_readsAny_J2 _ _ _ _ _ _ _ _ _ _ = _
      unfold f_X10_readsAny_J2
      rw [b5, if_pos (nI_le (by omega) (by omega))]
    · show f_X12_enough_J64 _ _ _ _ _ _ _ _ _ _ = _
      unfold f_X12_enough_J64
      rw [m5, if_pos (nI_le (by omega) (by omega)), if_pos rfl, if_pos rfl]
  | succ m ih =>
    intro t vL vN M v nc nf h h61 h0 ht hc hf2
    obtain ⟨nc, rfl⟩ := pos_ex hc
    obtain ⟨nf, rfl⟩ := pos_ex hf2
    obtain ⟨⟨hb, ⟨⟨hnp, hnt, hnr⟩, ⟨b1, m1⟩, ⟨b5, m5⟩, -⟩, -⟩, -⟩ := id h
    have htn : t < nt := by omega
    obtain ⟨e50, e51⟩ := h0 t htn
    have C : f_X10_readsAny_L2 fu B L (nc + 1) W vL vN (nI p) (nI r) (nI t) = if W 11 t = 1 ∧ W 12 t = nI p then (tx_b4 (f_X10_reads fu B L W vL vN (nI r) (nI t) 0) fun (r_7 : Int32) (u_T_8 : S32) (v_L_9 : S64) (v_N_10 : S64) => if r_7 = (0 : Int32) then f_X10_readsAny_L2 fu B L nc u_T_8 v_L_9 v_N_10 (nI p) (nI r) (nI (t + 1)) else some ((1 : Int32), u_T_8, v_L_9, v_N_10)) else f_X10_readsAny_L2 fu B L nc W vL vN (nI p) (nI r) (nI (t + 1)) := by
      show f_X10_readsAny_J2 _ _ _ _ _ _ _ _ _ _ = _
      unfold f_X10_readsAny_J2 f_X10_readsAny_J40
      rw [b5, if_neg (ge_lit (by omega) (by omega)), if_neg (ge12 (by omega)), c_heldAt fu b5 hnt htn, tx_b1_q, nI_1]
      by_cases hh : W 11 t = 1 ∧ W 12 t = nI p
      · rw [if_pos hh, if_pos hh, if_neg one_ne]; rfl
      · rw [if_neg hh, if_neg hh, if_pos rfl]; rfl
    have R : ∀ K, f_X12_enough_L64 fu K (nf + 1) M v (nI p) k (nI r) 0 (nI t) = if W 11 t = 1 ∧ W 12 t = nI p then (tx_b3 (f_X12_isReadAt fu M v (nI 1) (nI t) (nI p) (nI r)) fun (r_24 : Int32) (u_T_25 : S32) (v_T_26 : S64) => if r_24 = (0 : Int32) then f_X12_enough_L64 fu K nf u_T_25 v_T_26 (nI p) k (nI r) 0 (nI (t + 1)) else f_X12_enough_L64 fu K nf u_T_25 v_T_26 (nI p) k (nI r) 1 (nI (t + 1))) else f_X12_enough_L64 fu K nf M v (nI p) k (nI r) 0 (nI (t + 1)) := by
      intro K
      show f_X12_enough_J64 _ _ _ _ _ _ _ _ _ _ = _
      unfold f_X12_enough_J64 f_X12_enough_J116 f_X12_enough_J120 f_X12_enough_J121
      have ck := fun k : Option (Int32 × S32 × S64) => tx_ck_q (j := t) (n := 24) (by omega) (by omega) k
      rw [m5, if_neg (ge_lit (by omega) (by omega)), if_pos rfl, if_neg (nI_pos (by omega)), ck, nI_clamp (by omega), nI_1, ← e50, ← e51]
      by_cases h1 : W 11 t = 1
      · rw [if_pos h1, ck]
        by_cases h2 : W 12 t = nI p
        · rw [if_pos h2, if_pos ⟨h1, h2⟩]; rfl
        · rw [if_neg h2, if_neg (fun z => h2 z.2)]; rfl
      · rw [if_neg h1, if_neg (fun z => h1 z.1)]; rfl
    by_cases hh : W 11 t = 1 ∧ W 12 t = nI p
    · rw [if_pos hh] at C
      obtain ⟨kk, W', vL1, vN1, z, v1, g1, g2, g3, g4, g5, g6⟩ := rds fu hf h vL vN v htn hp (show (fun p => p < np) p from hp) hr hh.2 (x3 := 0) ⟨h61, Or.inl rfl⟩
      have eW : W' = W := by
        rcases g4 with e | ⟨y, e⟩
        · exact e
        · have e3 := (g6.2.2 rfl).2
          rw [e, up2_e] at e3
          rw [e, up2_self W e3.symm]
      subst eW
      rw [g1, tx_b4_q] at C
      have v59 := (g6.2.2 rfl).1
      have v80 := g6.2.1 80 (by decide)
      rcases g3 with rfl | rfl
      · rw [if_pos rfl] at C
        obtain ⟨res, vL', vN', M', v', k1, k2, k3, k4, k5⟩ := ih (t + 1) vL1 vN1 (up2 M 0 48 z) v1 nc nf (h.u0 z (Or.inl rfl)) (by rw [up2_i _ _ _ (by decide)]; exact h61) (fun t ht => by rw [up2_n _ _ _ (by decide), up2_n _ _ _ (by decide)]; exact h0 t ht) (by omega) (by omega) (by omega)
        refine ⟨res, vL', vN', M', v', C.trans k1, fun K => ?_, FR.trans ((FR.refl 1 M).u48 z) k3, k4.trans v59, k5.trans v80⟩
        rw [R K, if_pos hh, g2, tx_b3_q, if_pos rfl]
        exact k2 K
      · rw [if_neg one_ne] at C
        refine ⟨1, vL1, vN1, up2 M 0 48 z, v1, C, fun K => ?_, (FR.refl 1 M).u48 z, v59, v80⟩
        rw [R K, if_pos hh, g2, tx_b3_q, if_neg one_ne, if_neg one_ne]
        exact en_yes fu (by rw [up2_i _ _ _ (by decide)]; exact m5) hnt K v1 _ _ _ m (t + 1) nf (by omega) (by omega)
    · rw [if_neg hh] at C
      obtain ⟨res, vL', vN', M', v', k1, k2, k3⟩ := ih (t + 1) vL vN M v nc nf h h61 h0 (by omega) (by omega) (by omega)
      refine ⟨res, vL', vN', M', v', C.trans k1, fun K => ?_, k3⟩
      rw [R K, if_neg hh]
      exact k2 K
theorem en_no (fu : Nat) {B L W : S32} {nt nr : Nat} (b5 : B 0 5 = nI nt) (hnt : nt ≤ 12) (b10 : B 0 10 = nI nr) (hnr : nr ≤ 4) (vL vN : S64) (x : Int32) : ∀ (m t n : Nat), t + m = nt → m < n → f_X10_readsAny_L2 fu B L n W vL vN x (-1) (nI t) = some (0, W, vL, vN) := by
  have e0 : f_X0_isReader fu B (-1) = some 0 := by
    rcases s_cReader fu B b10 hnr (-1) with ⟨⟨r, hr, e⟩, -⟩ | ⟨-, e⟩
    · exact absurd e.symm (m1_ne (by omega))
    · exact e
  have rd : ∀ t, f_X10_reads fu B L W vL vN (-1) t 0 = some (0, W, vL, vN) := by
    intro t
    unfold f_X10_reads f_X10_knowsTongue
    rw [e0, tx_b1_q, if_pos rfl, tx_b1_q, if_pos rfl]
  intro m
  induction m with
  | zero =>
    intro t n ht hn
    obtain ⟨n, rfl⟩ := pos_ex hn
    show f_X10_readsAny_J2 _ _ _ _ _ _ _ _ _ _ = _
    unfold f_X10_readsAny_J2
    rw [b5, if_pos (nI_le (by omega) (by omega))]
  | succ m ih =>
    intro t n ht hn
    obtain ⟨n, rfl⟩ := pos_ex hn
    rw [← ih (t + 1) n (by omega) (by omega)]
    show f_X10_readsAny_J2 _ _ _ _ _ _ _ _ _ _ = _
    unfold f_X10_readsAny_J2 f_X10_readsAny_J40
    rw [b5, if_neg (ge_lit (by omega) (by omega)), if_neg (ge12 (by omega)), c_heldAt fu b5 hnt (by omega), tx_b1_q, nI_1, rd, tx_b4_q, if_pos rfl]
    by_cases hh : W 11 t = 1 ∧ W 12 t = x
    · rw [if_pos hh, if_neg one_ne]; rfl
    · rw [if_neg hh, if_pos rfl]; rfl
theorem en_no2 (fu : Nat) {M : S32} {nt : Nat} (m5 : M 0 13 = nI nt) (hnt : nt ≤ 12) (K : S32 → S64 → Int32 → Int32 → Option (Int32 × S32 × S64)) (v : S64) (p k : Int32) : ∀ (m t n : Nat), t + m = nt → m < n → f_X12_enough_L64 fu K n M v p k (-1) 0 (nI t) = some (k, M, v) := by
  intro m
  induction m with
  | zero =>
    intro t n ht hn
    obtain ⟨n, rfl⟩ := pos_ex hn
    show f_X12_enough_J64 _ _ _ _ _ _ _ _ _ _ = _
    unfold f_X12_enough_J64
    rw [m5, if_pos (nI_le (by omega) (by omega)), if_pos rfl]
  | succ m ih =>
    intro t n ht hn
    obtain ⟨n, rfl⟩ := pos_ex hn
    rw [← ih (t + 1) n (by omega) (by omega)]
    show f_X12_enough_J64 _ _ _ _ _ _ _ _ _ _ = _
    unfold f_X12_enough_J64 f_X12_enough_J120 f_X12_enough_J121
    rw [m5, if_neg (ge_lit (by omega) (by omega)), if_pos rfl, if_pos (by decide), tx_let_q, nI_1]
theorem du_loop2 (fu : Nat) (hf : 1000 ≤ fu) {B L W0 M0 : S32} {v0 : S64} {np nt nr w : Nat} (hN : NW B L W0 M0 np nt nr w) (Y : S32) (p0 k0 : Nat) {p d0 : Nat} (hp : p < np) (hd : d0 ≤ 9) (ed : W0 9 p = nI d0) {T0 Wc : S32} (hT0 : T0 0 15 = 0 ∨ T0 0 15 = 1) (hc : f_X10_copy fu W0 T0 = some Wc) : ∀ (m i : Nat) (T : S32) (vL vN : S64) (M : S32) (v : S64) (nc nf : Nat), (∀ y, up2 T 9 p y = up2 Wc 9 p y) → (T 0 15 = 0 ∨ T 0 15 = 1) → TI M0 v0 T M v → d0 + i + m = 10 → m < nc → m < nf →
    ∃ r T' vL' vN' M' v', f_X9_dullEnough_L23 fu Y W0 B L p0 k0 nc T vL vN (nI p) (nI i) = some (r, T', vL', vN', k0) ∧ f_X12_enough_L17 fu nf M v (nI p) (nI i) = some (r, M', v') ∧ TI M0 v0 T' M' v' := by
  obtain ⟨⟨hnp, hnt, hnr⟩, ⟨b1, m1⟩, ⟨b5, m5⟩, ⟨b10, m10⟩, -⟩ := id hN.1
  have ckc := fun k : Option (Int32 × S32 × S64 × S64 × Nat) => tx_ck_q (j := p) (n := 6) (by omega) (by omega) k
  have ckr := fun k : Option (Int32 × S32 × S64) => tx_ck_q (j := p) (n := 12) (by omega) (by omega) k
  have clp := nI_clamp (n := p) (by omega)
  intro m
  induction m with
  | zero =>
    intro i T vL vN M v nc nf hy hb hT hi hc1 hf2
    obtain ⟨nc, rfl⟩ := pos_ex hc1
    obtain ⟨nf, rfl⟩ := pos_ex hf2
    have e56 : M 56 p = nI d0 := ((hN.pf hT.1).1.2.2.2.2.2.2.2.2.1 p hp).2.2.2.1.symm.trans ed
    refine ⟨-2, T, vL, vN, M, v, ?_, ?_, hT⟩
    · show f_X9_dullEnough_J23 _ _ _ _ _ _ _ _ _ _ _ _ _ = _
      unfold f_X9_dullEnough_J23
      rw [ckc, clp, ed, show (9 : Int32) = nI 9 from rfl, pk_sub hd, if_pos (nI_lt (by omega) (by omega))]
    · show f_X12_enough_J17 _ _ _ _ _ _ = _
      unfold f_X12_enough_J17
      rw [ckr, clp, e56, nI_add, show (9 : Int32) = nI 9 from rfl, if_pos (nI_lt (by omega) (by omega))]
  | succ m ih =>
    intro i T vL vN M v nc nf hy hb hT hi hc1 hf2
    obtain ⟨nc, rfl⟩ := pos_ex hc1
    obtain ⟨nf, rfl⟩ := pos_ex hf2
    have hNM := hN.pf hT.1
    have e56 : M 56 p = nI d0 := (hNM.1.2.2.2.2.2.2.2.2.1 p hp).2.2.2.1.symm.trans ed
    obtain ⟨Wd, Ml, c1, c2, c3, c4, c5, c6, c7, c8, c9, c10, c11, c12, c13⟩ := tr_lay fu hf hNM v T0 hT0
    rw [hc] at c1
    injection c1 with c1
    subst c1
    have hNl := hNM.pf c3
    -- dull thoughts are laid
    have hW : WR B L (up2 Wc 9 p (nI (d0 + i))) (up2 Ml 56 (6 * 1 + p) (nI (d0 + i))) 1 np nt nr 99 (fun p => p < np) := by
      obtain ⟨a, ha, ea⟩ := (c5.2.2.1 p hp).1
      obtain ⟨q5, q7, q8, -, -⟩ := c5.2.1.2.1 p hp
      have := c5.pp hp (y5 := Wc 5 p) (y7 := Wc 7 p) (y8 := Wc 8 p) (y9 := nI (d0 + i)) ⟨a, ha, ea⟩ ⟨d0 + i, by omega, rfl⟩
      rw [up2_self Wc rfl, up2_self Wc rfl, up2_self Wc rfl, up2_self Ml q5.symm, up2_self Ml q7.symm, up2_self Ml q8.symm] at this
      exact this
    have hPl : PF Ml (up2 Ml 56 (6 * 1 + p) (nI (d0 + i))) := (PF.refl Ml).up _ (hi6 (by simp) (by omega))
    have e57 : Ml 57 p = W0 10 p := (hNl.1.2.2.2.2.2.2.2.2.1 p hp).2.2.2.2.1.symm
    have e56l : Ml 56 p = nI d0 := (hNl.1.2.2.2.2.2.2.2.2.1 p hp).2.2.2.1.symm.trans ed
    have C : f_X9_dullEnough_L23 fu Y W0 B L p0 k0 (nc + 1) T vL vN (nI p) (nI i) = tx_b4 (f_X10_readsAny fu B L (up2 Wc 9 p (nI (d0 + i))) vL vN (nI p) (W0 10 p)) fun (r_13 : Int32) (u_W_14 : S32) (v_L_15 : S64) (v_N_16 : S64) => if r_13 = (0 : Int32) then (some (nI i, u_W_14, v_L_15, v_N_16, k0)) else f_X9_dullEnough_L23 fu Y W0 B L p0 k0 nc u_W_14 v_L_15 v_N_16 (nI p) (nI (i + 1)) := by
      show f_X9_dullEnough_J23 _ _ _ _ _ _ _ _ _ _ _ _ _ = _
      unfold f_X9_dullEnough_J23
      rw [ckc, clp, ed, show (9 : Int32) = nI 9 from rfl, pk_sub hd, if_neg (nI_nlt (by omega) (by omega)), ckc, ckc, nI_add, tx_let_q, hy, ckc, nI_1]
      rfl
    have R : f_X12_enough_L17 fu (nf + 1) M v (nI p) (nI i) = f_X12_enough_L64 fu (f_X12_enough_L17 fu nf) fu (up2 Ml 56 (6 * 1 + p) (nI (d0 + i))) v (nI p) (nI i) (W0 10 p) 0 (nI 0) := by
      show f_X12_enough_J17 _ _ _ _ _ _ = _
      unfold f_X12_enough_J17
      rw [ckr, clp, e56, nI_add, show (9 : Int32) = nI 9 from rfl, if_neg (nI_nlt (by omega) (by omega)), c2, tx_b1_q, ckr, show (6 : Int32) + nI p = nI (6 + p) from by rw [show (6 : Int32) = nI 6 from rfl, nI_add], tx_ck_q (by omega) (by omega), tx_let_q, ckr, tx_let_q, nI_clamp (by omega), e56l, nI_add, up2_n _ _ _ (by decide), e57]
      rfl
    rcases (hN.1.2.2.2.2.2.2.2.2.2.2.2.2.2.1 p hp).2.2 with ⟨hr0, e10⟩ | ⟨r, hr, e10⟩
    · have n1 : f_X10_readsAny fu B L (up2 Wc 9 p (nI (d0 + i))) vL vN (nI p) (-1) = _ := en_no fu b5 hnt b10 hnr vL vN (nI p) nt 0 fu (by omega) (by omega)
      have n2 := en_no2 fu (M := up2 Ml 56 (6 * 1 + p) (nI (d0 + i))) (nt := nt) (hW.1.2.1.2.2.1.2) hnt (f_X12_enough_L17 fu nf) v (nI p) (nI i) nt 0 fu (by omega) (by omega)
      rw [C, R, e10, n1, n2, tx_b4_q, if_pos rfl]
      exact ⟨_, _, _, _, _, _, rfl, rfl, ⟨(hT.1.trans c3).trans hPl, hT.2.1, hT.2.2.1, hW.2.2.2.2.2.2⟩⟩
    · obtain ⟨res, vL', vN', M', v', g1, g2, g3, g4, g5⟩ := en_loop fu hf hp hr (nI i) nt 0 vL vN _ v fu fu hW c4.1 (fun t ht => by
        obtain ⟨x1, x2, -⟩ := c12 t (by omega)
        obtain ⟨y1, y2, -⟩ := hNl.1.2.2.2.2.2.2.2.2.2.1 t ht
        exact ⟨x1.trans y1, x2.trans y2⟩) (by omega) (by omega) (by omega)
      have g1' : f_X10_readsAny fu B L (up2 Wc 9 p (nI (d0 + i))) vL vN (nI p) (nI r) = _ := g1
      have hT' : TI M0 v0 (up2 Wc 9 p (nI (d0 + i))) M' v' := ⟨((hT.1.trans c3).trans hPl).trans g3.pf, g4.trans hT.2.1, g5.trans hT.2.2.1, hW.2.2.2.2.2.2⟩
      rw [C, R, e10, g1', g2, tx_b4_q]
      by_cases e : res = 0
      · rw [if_pos e, if_pos e]
        exact ⟨_, _, _, _, _, _, rfl, rfl, hT'⟩
      · rw [if_neg e, if_neg e, nI_1]
        exact ih (i + 1) _ vL' vN' M' v' nc nf (fun y => up2_up2 _ _ _ _ _) hT'.2.2.2 hT' (by omega) (by omega) (by omega)
theorem sp25 (fu : Nat) (hf : 1000 ≤ fu) : SP25 RR fu := by
  intro k q U V y1 hR
  obtain ⟨np, nt, nr, w, hN⟩ := RR_NW hR
  obtain ⟨⟨hnp, hnt, hnr⟩, ⟨b1, m1⟩, -⟩ := id hN.1
  show T5 k q U V _ _
  unfold f_X11_enough f_X12_enough
  rw [tx_let_q]
  rcases t_man fu (U 2) (up2 (U 19) 0 2 0) (V 19) b1 m1 hnp y1 with ⟨p, hp, rfl, e1, e2⟩ | ⟨e1, e2⟩
  · rw [e1, e2, tx_b1_q, tx_b1_q, if_neg one_ne, if_neg one_ne]
    have hT0 := TI.first hR
    obtain ⟨d0, hd0, ed⟩ := (hN.1.2.2.2.2.2.2.2.2.2.2.2.2.2.1 p hp).2.1
    obtain ⟨Wc, Ml, c1, -⟩ := tr_lay fu hf hN (V 19) (U 7) hT0.2.2.2
    have hb : Wc 0 15 = 0 ∨ Wc 0 15 = 1 := by
      obtain ⟨Wd, Md, d1, -, -, -, d5, -⟩ := tr_lay fu hf hN (V 19) (U 7) hT0.2.2.2
      rw [c1] at d1
      injection d1 with d1
      subst d1
      exact d5.2.2.2.2.2.2
    obtain ⟨r, T', vL', vN', M', v', z1, z2, z3⟩ := du_loop2 fu hf (v0 := V 19) hN (U 6) (q 1) (k 0) hp hd0 ed hT0.2.2.2 c1 (10 - d0) 0 Wc (V 17) (V 8) _ (V 19) fu fu (fun _ => rfl) hb ⟨PF.refl _, rfl, rfl, hb⟩ (by omega) (by omega) (by omega)
    unfold f_X9_dullEnough
    have z1' : f_X9_dullEnough_L23 fu (U 6) (U 1) (U 2) (U 17) (q 1) (k 0) fu Wc (V 17) (V 8) (nI p) 0 = some (r, T', vL', vN', k 0) := z1
    have z2' : f_X12_enough_L17 fu fu (up2 (U 19) 0 2 0) (V 19) (nI p) 0 = some (r, M', v') := z2
    rw [e1, tx_b1_q, if_neg one_ne, c1, tx_b1_q, z1', z2', tx_b5_q]
    exact T5.fin hR z3 _ _ _ _
  · rw [e1, e2]
    exact T5.bad hR _
