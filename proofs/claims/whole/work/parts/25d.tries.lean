/-! calls that try: their shape -/
def T5 (k q : Nat → Nat) (U : Nat → S32) (V : Nat → S64) (a : Option (Int32 × S32 × S64 × S64 × Nat)) (c : Option (Int32 × S32 × S64)) : Prop := ∃ (r : Int32) (zu_W3 : S32) (zv_L : S64) (zv_N3 : S64) (zq_W3_0 : Nat) (zu_M : S32) (zv_M : S64), a = some (r, zu_W3, zv_L, zv_N3, zq_W3_0) ∧ c = some (r, zu_M, zv_M) ∧ RR k (va_up q 1 zq_W3_0) (va_up (va_up U 7 zu_W3) 19 zu_M) (va_up (va_up (va_up V 17 zv_L) 8 zv_N3) 19 zv_M)
theorem T5.bad {k q : Nat → Nat} {U : Nat → S32} {V : Nat → S64} (hR : RR k q U V) (r : Int32) : T5 k q U V (some (r, U 7, V 17, V 8, q 1)) (some (r, up2 (U 19) 0 2 0, V 19)) :=
  ⟨_, _, _, _, _, _, _, rfl, rfl, RR_T hR (PF.t _) (RR_bit hR) rfl rfl _ _ _⟩
/-- what holds between two trials -/
def TI (M0 : S32) (v0 : S64) (W3 M : S32) (v : S64) : Prop := PF M0 M ∧ v 0 59 = v0 0 59 ∧ v 0 80 = v0 0 80 ∧ (W3 0 15 = 0 ∨ W3 0 15 = 1)
theorem T5.fin {k q : Nat → Nat} {U : Nat → S32} {V : Nat → S64} (hR : RR k q U V) {W3 M : S32} {v : S64} (h : TI (up2 (U 19) 0 2 0) (V 19) W3 M v) (r : Int32) (a c : S64) (z : Nat) : T5 k q U V (some (r, W3, a, c, z)) (some (r, M, v)) :=
  ⟨_, _, _, _, _, _, _, rfl, rfl, RR_T hR ((PF.t _).trans h.1) h.2.2.2 h.2.1 h.2.2.1 _ _ _⟩
theorem TI.first {k q : Nat → Nat} {U : Nat → S32} {V : Nat → S64} (hR : RR k q U V) : TI (up2 (U 19) 0 2 0) (V 19) (U 7) (up2 (U 19) 0 2 0) (V 19) := ⟨PF.refl _, rfl, rfl, RR_bit hR⟩
theorem WR.rate {B L W M : S32} {b np nt nr x : Nat} {S : Nat → Prop} (h : WR B L W M b np nt nr x S) {a : Nat} (ha : a ≤ 100) : WR B L (up2 W 0 2 (nI a)) M b np nt nr x S := by
  obtain ⟨⟨h1, h2, h3, h4⟩, ⟨h5, h6, h7⟩, h8, h9, h10, h11, h12⟩ := h
  refine ⟨⟨h1, h2, h3, ?_⟩, ⟨fun u hu => ?_, fun p hp => ?_, ?_⟩, fun p hp => ?_, fun u hu => ?_, fun u hu => ?_, ?_, ?_⟩
  · exact h4
  · exact h5 u hu
  · exact h6 p hp
  · rw [up2_i _ _ _ (by decide)]
    exact h7
  · exact h8 p hp
  · exact h9 u hu
  · exact h10 u hu
  · rw [up2_e]; exact ⟨a, ha, rfl⟩
  · rw [up2_i _ _ _ (by decide)]; exact h12
theorem wkOK.c {W W' : S32} {np w : Nat} (h : wkOK W np w) (h0 : W' 0 1 = W 0 1) (h7 : W' 7 = W 7) (h8 : W' 8 = W 8) : wkOK W' np w := by
  unfold wkOK
  rw [h0, h7, h8]
  exact h
/-- a trial from beginning to end, what is changed ahead of it told -/
theorem trial (fu : Nat) (hf : 1000 ≤ fu) {B L W0 M0 : S32} {v0 : S64} {np nt nr w n x : Nat} (hN : NW B L W0 M0 np nt nr w) {T M M1 : S32} {v : S64} (hT : TI M0 v0 T M v) {Wc : S32} (vL vN : S64) (hn : n ≤ 100) (h1 : PF M M1) (h : WR B L Wc M1 1 np nt nr x (fun p => p < np)) (h61 : M1 0 61 = 0) (h65 : M1 0 65 = 0) (hk : wkOK Wc np w) (hrt : Wc 0 2 = M1 58 1) :
    ∃ W' vL' vN' M' v', f_X10_goWeeks fu B L Wc vL vN (nI n) 0 = some (W', vL', vN') ∧ f_X12_goMany fu M1 v (nI n) = some (M', v') ∧ TI M0 v0 W' M' v' ∧ NW B L W0 M' np nt nr w ∧ WR B L W' M' 1 np nt nr x (fun p => p < np) ∧ wkOK W' np (w + n) ∧ FR 1 M1 M' ∧ mo Wc W' np n := by
  obtain ⟨W', vL', vN', M', v', g1, g2, g3, g4, g5, g6, g7, g8⟩ := trun fu hf vL vN v hn hN.2.2.2.1 h h61 h65 hk hrt
  have hp : PF M0 M' := (hT.1.trans h1).trans g5.pf
  exact ⟨W', vL', vN', M', v', g1, g2, ⟨hp, g6.trans hT.2.1, g7.trans hT.2.2.1, g3.2.2.2.2.2.2⟩, hN.pf hp, g3, g4, g5, g8⟩
theorem i32_s3 (a b c : Int32) : a - (b + c) = a - b - c := by grind
/-! whom it is best to hide in -/
theorem WR.ho {B L W M : S32} {b np nt nr x : Nat} {S : Nat → Prop} (h : WR B L W M b np nt nr x S) {t p : Nat} (ht : t < nt) (hp : p < np) (h1 : W 11 t = 1) : WR B L (up2 W 12 t (nI p)) (up2 M 51 (12 * b + t) (nI p)) b np nt nr x S := by
  have e := h.th ht (s := 1) (y := nI p) (Or.inl ⟨rfl, p, hp, rfl⟩)
  rw [up2_self W h1, up2_self M ((h.2.1.1.one ht).mp h1)] at e
  exact e
theorem hi_loop (fu : Nat) (hf : 1000 ≤ fu) {B L W0 M0 : S32} {v0 : S64} {np nt nr w : Nat} (hN : NW B L W0 M0 np nt nr w) (Y : S32) (p0 k0 : Nat) {t : Nat} (ht : t < nt) (hh : W0 11 t = 1) (y2 : Int32) : ∀ (m i : Nat) (T : S32) (vL vN : S64) (q : Nat) (M : S32) (v : S64) (best least : Int32) (nc nf : Nat), TI M0 v0 T M v → (best = -1 ∨ ∃ j, j < np ∧ best = nI j) → i + m = np → m < nc → m < nf →
    ∃ r T' vL' vN' q' M' v', f_X9_holderOfLeast_L9 fu Y W0 B L p0 k0 nc T vL vN q (nI t) y2 best least (nI i) = some (r, T', vL', vN', q') ∧ f_X12_hideIn_L45 fu nf M v (nI t) y2 best least (nI i) = some (r, M', v') ∧ TI M0 v0 T' M' v' := by
  obtain ⟨⟨hnp, hnt, hnr⟩, ⟨b1, m1⟩, ⟨b5, m5⟩, -, -, -, -, -, -, -, -, -, -, hwi⟩ := id hN.1
  intro m
  induction m with
  | zero =>
    intro i T vL vN q M v best least nc nf hT hb hi hc hf2
    obtain ⟨nc, rfl⟩ := pos_ex hc
    obtain ⟨nf, rfl⟩ := pos_ex hf2
    have hM := (hT.1 0 12 (by decide)).trans m1
    have C : f_X9_holderOfLeast_L9 fu Y W0 B L p0 k0 (nc + 1) T vL vN q (nI t) y2 best least (nI i) = if y2 = 0 then some (best, T, vL, vN, q) else some (least, T, vL, vN, q) := by
      show f_X9_holderOfLeast_J9 _ _ _ _ _ _ _ _ _ _ _ _ _ _ _ _ _ = _
      unfold f_X9_holderOfLeast_J9 f_X9_holderOfLeast_J106
      rw [b1, if_pos (nI_le (by omega) (by omega))]
    have R : f_X12_hideIn_L45 fu (nf + 1) M v (nI t) y2 best least (nI i) = if y2 = 0 then some (best, M, v) else some (least, M, v) := by
      show f_X12_hideIn_J45 _ _ _ _ _ _ _ _ _ = _
      unfold f_X12_hideIn_J45
      rw [hM, if_pos (nI_le (by omega) (by omega))]
    rw [C, R]
    by_cases e : y2 = 0
    · rw [if_pos e, if_pos e]; exact ⟨_, _, _, _, _, _, _, rfl, rfl, hT⟩
    · rw [if_neg e, if_neg e]; exact ⟨_, _, _, _, _, _, _, rfl, rfl, hT⟩
  | succ m ih =>
    intro i T vL vN q M v best least nc nf hT hb hi hc hf2
    obtain ⟨nc, rfl⟩ := pos_ex hc
    obtain ⟨nf, rfl⟩ := pos_ex hf2
    have hM := (hT.1 0 12 (by decide)).trans m1
    obtain ⟨Wc, Ml, c1, c2, c3, c4, c5, c6, c7, c8, c9, c10, c11, c12, c13⟩ := tr_lay fu hf (hN.pf hT.1) v T hT.2.2.2
    have h11 : Wc 11 t = 1 := (c12 t (by omega)).1.trans hh
    have hW := c5.ho ht (show i < np by omega) h11
    obtain ⟨W', vL', vN', M', v', g1, g2, g3, g4, g5, g6, g7⟩ := trial fu hf (n := 12) hN hT vL vN (by omega) (c3.trans ((PF.refl Ml).up _ (hi12 (i := 12 * 1 + t) (by simp) (by omega)))) hW (by rw [up2_n _ _ _ (by decide)]; exact c4.1) (by rw [up2_n _ _ _ (by decide)]; exact c4.2.2.2.2.1) (c6.c rfl rfl rfl) c7
    obtain ⟨s1, s2, s3, s4⟩ := sums fu hf g4 g5 v'
    have emore : f_X12_more fu M' v' = some (sP W' np + sO W' np - sP W0 np - sO W0 np) := by
      unfold f_X12_more
      rw [s1, s2, s3, s4]
      rfl
    have etax : sP W' np + sO W' np - (sP W0 np + sO W0 np) = sP W' np + sO W' np - sP W0 np - sO W0 np := by
      exact i32_s3 _ _ _
    have C : f_X9_holderOfLeast_L9 fu Y W0 B L p0 k0 (nc + 1) T vL vN q (nI t) y2 best least (nI i) = if best = -1 then f_X9_holderOfLeast_L9 fu Y W0 B L p0 k0 nc W' vL' vN' k0 (nI t) y2 (nI i) (sP W' np + sO W' np - sP W0 np - sO W0 np) (nI (i + 1)) else (if least ≤ sP W' np + sO W' np - sP W0 np - sO W0 np then f_X9_holderOfLeast_L9 fu Y W0 B L p0 k0 nc W' vL' vN' k0 (nI t) y2 best least (nI (i + 1)) else f_X9_holderOfLeast_L9 fu Y W0 B L p0 k0 nc W' vL' vN' k0 (nI t) y2 (nI i) (sP W' np + sO W' np - sP W0 np - sO W0 np) (nI (i + 1))) := by
      show f_X9_holderOfLeast_J9 _ _ _ _ _ _ _ _ _ _ _ _ _ _ _ _ _ = _
      unfold f_X9_holderOfLeast_J9 f_X9_holderOfLeast_J92 f_X9_holderOfLeast_J100 f_X10_tax
      have g1' : f_X10_goWeeks fu B L (up2 Wc 12 t (nI i)) vL vN 12 0 = some (W', vL', vN') := g1
      rw [b1, if_neg (ge_lit (by omega) (by omega)), if_neg (ge6 (by omega)), c_held fu b5 hnt b1 hnp hwi ht, if_pos hh, tx_b1_q, if_neg one_ne, c1, tx_b1_q, tx_ck_q (by omega) (by omega), nI_clamp (by omega), tx_let_q, g1', tx_b3_q, c_sP fu hf b1 hnp, c_sO fu hf b1 hnp, c_sP fu hf b1 hnp, c_sO fu hf b1 hnp, tx_b1_q, tx_b1_q, tx_b1_q, tx_b1_q, tx_b1_q, tx_b1_q, tx_let_q, etax, nI_1]
      rfl
    have R : f_X12_hideIn_L45 fu (nf + 1) M v (nI t) y2 best least (nI i) = if best < 0 then f_X12_hideIn_L45 fu nf M' v' (nI t) y2 (nI i) (sP W' np + sO W' np - sP W0 np - sO W0 np) (nI (i + 1)) else (if sP W' np + sO W' np - sP W0 np - sO W0 np < least then f_X12_hideIn_L45 fu nf M' v' (nI t) y2 (nI i) (sP W' np + sO W' np - sP W0 np - sO W0 np) (nI (i + 1)) else f_X12_hideIn_L45 fu nf M' v' (nI t) y2 best least (nI (i + 1))) := by
      show f_X12_hideIn_J45 _ _ _ _ _ _ _ _ _ = _
      unfold f_X12_hideIn_J45 f_X12_hideIn_J91 f_X12_hideIn_J100
      have g2' : f_X12_goMany fu (up2 Ml 51 (12 + t) (nI i)) v 12 = some (M', v') := by
        rw [show 12 * 1 + t = 12 + t by omega] at g2
        exact g2
      rw [hM, if_neg (ge_lit (by omega) (by omega)), c2, tx_b1_q, show (12 : Int32) + nI t = nI (12 + t) from by rw [show (12 : Int32) = nI 12 from rfl, nI_add], tx_ck_q (by omega) (by omega), nI_clamp (by omega), tx_let_q, g2', tx_b2_q, emore, tx_b1_q, tx_b1_q, nI_1]
      rfl
    have hneg : best < 0 ↔ best = -1 := by
      rcases hb with e | ⟨j, hj, e⟩
      · rw [e]; decide
      · rw [e]
        exact ⟨fun z => absurd z (nI_pos (by omega)), fun z => absurd z (m1_ne (by omega))⟩
    by_cases e1 : best = -1
    · rw [C, R, if_pos e1, if_pos (hneg.mpr e1)]
      exact ih (i + 1) W' vL' vN' k0 M' v' _ _ nc nf g3 (Or.inr ⟨i, by omega, rfl⟩) (by omega) (by omega) (by omega)
    · rw [C, R, if_neg e1, if_neg (fun z => e1 (hneg.mp z))]
      by_cases e2 : least ≤ sP W' np + sO W' np - sP W0 np - sO W0 np
      · rw [if_pos e2, if_neg (Int32.not_lt.mpr e2)]
        exact ih (i + 1) W' vL' vN' k0 M' v' _ _ nc nf g3 hb (by omega) (by omega) (by omega)
      · rw [if_neg e2, if_pos (Int32.not_le.mp e2)]
        exact ih (i + 1) W' vL' vN' k0 M' v' _ _ nc nf g3 (Or.inr ⟨i, by omega, rfl⟩) (by omega) (by omega) (by omega)
theorem sp16 (fu : Nat) (hf : 1000 ≤ fu) : SP16 RR fu := by
  intro k q U V y1 y2 hR
  obtain ⟨np, nt, nr, w, hN⟩ := RR_NW hR
  obtain ⟨⟨hnp, hnt, hnr⟩, ⟨b1, m1⟩, ⟨b5, m5⟩, -, -, -, -, -, -, hwt, -, -, -, hwi⟩ := id hN.1
  show T5 k q U V _ _
  unfold f_X11_hideIn f_X12_hideIn
  rw [tx_let_q]
  rcases t_thought fu (U 2) (up2 (U 19) 0 2 0) (V 19) b5 m5 hnt y1 with ⟨t, ht, rfl, e1, e2⟩ | ⟨e1, e2⟩
  · rw [e1, e2, tx_b1_q, tx_b1_q, if_neg one_ne, if_neg one_ne]
    by_cases a3 : y2 < 0
    · rw [if_pos a3, isIn_f fu (Or.inl a3)]; exact T5.bad hR _
    rw [if_neg a3]
    by_cases a4 : y2 ≤ 1
    · rw [if_pos a4, isIn_t fu a3 (Int32.not_lt.mpr a4), tx_b1_q, if_neg one_ne, c_held fu b5 hnt b1 hnp hwi ht, tx_ck_q (by omega) (by omega), nI_clamp (by omega), ← (hwt t ht).1, tx_b1_q]
      by_cases hh : U 1 11 t = 1
      · rw [if_pos hh, if_pos hh, if_neg one_ne]
        obtain ⟨r, T', vL', vN', q', M', v', g1, g2, g3⟩ := hi_loop fu hf hN (U 6) (q 1) (k 0) ht hh y2 np 0 (U 7) (V 17) (V 8) (q 1) _ (V 19) (-1) 0 fu fu (TI.first hR) (Or.inl rfl) (by omega) (by omega) (by omega)
        have g1' : f_X9_holderOfLeast fu (U 6) (U 1) (U 2) (U 17) (q 1) (k 0) (U 7) (V 17) (V 8) (nI t) y2 = some (r, T', vL', vN', q') := g1
        have g2' : f_X12_hideIn_L45 fu fu (up2 (U 19) 0 2 0) (V 19) (nI t) y2 (-1) 0 0 = some (r, M', v') := g2
        rw [g1', g2', tx_b5_q]
        exact T5.fin hR g3 _ _ _ _
      · rw [if_neg hh, if_neg hh, if_pos rfl]; exact T5.bad hR _
    · rw [if_neg a4, isIn_f fu (Or.inr (Int32.not_le.mp a4))]; exact T5.bad hR _
  · rw [e1, e2]
    exact T5.bad hR _
