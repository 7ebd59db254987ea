/-! taxes of each, and how they would vote -/
theorem m_more (fu : Nat) {B L W0 W M : S32} (v : S64) {np nt nr w x : Nat} (hN : NW B L W0 M np nt nr w) (h : WR B L W M 1 np nt nr x (fun p => p < np)) {p : Nat} (hp : p < np) : f_X12_moreOf fu M v (nI p) = some ((W 7 p + W 8 p) - (W0 7 p + W0 8 p)) := by
  obtain ⟨⟨hnp, hnt, hnr⟩, -, -, -, -, -, -, -, hwp, -⟩ := id hN.1
  obtain ⟨-, p7, p8, -, -⟩ := h.2.1.2.1 p hp
  obtain ⟨-, w7, w8, -⟩ := hwp p hp
  unfold f_X12_moreOf
  rw [show (6 : Int32) + nI p = nI (6 + p) from by rw [show (6 : Int32) = nI 6 from rfl, nI_add], tx_ck_q (by omega) (by omega), tx_ck_q (by omega) (by omega), tx_ck_q (by omega) (by omega), tx_ck_q (by omega) (by omega), nI_clamp (by omega), nI_clamp (by omega), w7, w8, p7, p8, i32_s3]
theorem c_tax (fu : Nat) {B W : S32} {np : Nat} (b1 : B 0 1 = nI np) (hnp : np ≤ 6) {p : Nat} (hp : p < np) : f_X10_taxOf fu W B (nI p) = some (W 7 p + W 8 p) := by
  unfold f_X10_taxOf
  rw [c_isM fu b1 hnp hp, tx_b1_q, if_neg one_ne, tx_ck_q (by omega) (by omega), tx_ck_q (by omega) (by omega), nI_clamp (by omega)]
theorem tx_le {W W' W0 : S32} {np w w' w0 p : Nat} (h : wkOK W np w) (h' : wkOK W' np w') (h0 : wkOK W0 np w0) (hp : p < np) (hw : w ≤ 10001) (hw' : w' ≤ 10001) (hw0 : w0 ≤ 10001) : ((W 7 p + W 8 p) - (W0 7 p + W0 8 p) ≤ (W' 7 p + W' 8 p) - (W0 7 p + W0 8 p)) ↔ (W 7 p + W 8 p ≤ W' 7 p + W' 8 p) := by
  obtain ⟨⟨a, ha, ea⟩, ⟨c, hc, ec⟩⟩ := h.2 p hp
  obtain ⟨⟨a', ha', ea'⟩, ⟨c', hc', ec'⟩⟩ := h'.2 p hp
  obtain ⟨⟨a0, ha0, ea0⟩, ⟨c0, hc0, ec0⟩⟩ := h0.2 p hp
  rw [ea, ec, ea', ec', ea0, ec0, nI_add, nI_add, nI_add, Int32.le_iff_toInt_le, pk_sub_toInt (by omega) (by omega), pk_sub_toInt (by omega) (by omega), Int32.le_iff_toInt_le, nI_toInt (by omega), nI_toInt (by omega)]
  omega
theorem nt_loop (fu : Nat) {B W : S32} {np : Nat} (b1 : B 0 1 = nI np) (hnp : np ≤ 6) : ∀ (m i : Nat) (Y : S32) (n : Nat), (∀ p, p < i → Y 2 p = W 7 p + W 8 p) → i + m = np → m < n → ∃ Y', f_X9_noteTaxes_L2 fu W B n Y (nI i) = some Y' ∧ ∀ p, p < np → Y' 2 p = W 7 p + W 8 p := by
  intro m
  induction m with
  | zero =>
    intro i Y n h hi hn
    obtain ⟨n, rfl⟩ := pos_ex hn
    have : i = np := by omega
    subst this
    refine ⟨Y, ?_, h⟩
    show f_X9_noteTaxes_J2 _ _ _ _ _ _ = _
    unfold f_X9_noteTaxes_J2
    rw [b1, if_pos (nI_le (by omega) (by omega))]
  | succ m ih =>
    intro i Y n h hi hn
    obtain ⟨n, rfl⟩ := pos_ex hn
    obtain ⟨Y', g1, g2⟩ := ih (i + 1) (up2 Y 2 i (W 7 i + W 8 i)) n (fun p hp => by
      rw [up2_a]
      by_cases e : p = i
      · rw [if_pos ⟨rfl, e⟩, e]
      · rw [if_neg (fun z => e z.2)]; exact h p (by omega)) (by omega) (by omega)
    refine ⟨Y', ?_, g2⟩
    show f_X9_noteTaxes_J2 _ _ _ _ _ _ = _
    unfold f_X9_noteTaxes_J2
    rw [b1, if_neg (ge_lit (by omega) (by omega)), if_neg (ge6 (by omega)), c_tax fu b1 hnp (by omega), tx_b1_q, tx_ck_q (by omega) (by omega), tx_let_q, tx_let_q, nI_clamp (by omega), nI_1]
    exact g1
theorem TI.up {M0 W3 M : S32} {v0 v : S64} (h : TI M0 v0 W3 M v) {r i : Nat} (y : Int32) (hr : rl r i = false) : TI M0 v0 W3 (up2 M r i y) v := ⟨h.1.up y hr, h.2⟩
theorem us_loop (fu : Nat) {B L W0 M0 W M1 : S32} {v0 : S64} {np nt nr w x : Nat} (hN : NW B L W0 M0 np nt nr w) (h : WR B L W M1 1 np nt nr x (fun p => p < np)) (v : S64) (x1 x2 x3 : Int32) (T : S32) : ∀ (m i : Nat) (M : S32) (n : Nat), TI M0 v0 T M v → (∀ r, r ≠ 71 → M r = M1 r) → (∀ p, p < i → M 71 p = (W 7 p + W 8 p) - (W0 7 p + W0 8 p)) → i + m = np → m < n →
    ∃ M', f_X12_vote_L48 fu n M v x1 x2 x3 (nI i) = f_X12_vote_J48 fu (fun _ _ _ _ _ _ => none) M' v x1 x2 x3 (nI np) ∧ TI M0 v0 T M' v ∧ ∀ p, p < np → M' 71 p = (W 7 p + W 8 p) - (W0 7 p + W0 8 p) := by
  obtain ⟨⟨hnp, hnt, hnr⟩, ⟨b1, m1⟩, -⟩ := id hN.1
  intro m
  induction m with
  | zero =>
    intro i M n hT h1 h2 hi hn
    obtain ⟨n, rfl⟩ := pos_ex hn
    have : i = np := by omega
    subst this
    refine ⟨M, ?_, hT, h2⟩
    show f_X12_vote_J48 _ _ _ _ _ _ _ _ = _
    unfold f_X12_vote_J48
    rw [(hT.1 0 12 (by decide)).trans m1, if_pos (nI_le (by omega) (by omega)), if_pos (nI_le (by omega) (by omega))]
  | succ m ih =>
    intro i M n hT h1 h2 hi hn
    obtain ⟨n, rfl⟩ := pos_ex hn
    have hW : WR B L W M 1 np nt nr x (fun p => p < np) := by
      have e : EQ0 M1 M := ⟨fun r _ hr => h1 r (by omega), fun i _ _ => by rw [h1 0 (by decide)]⟩
      obtain ⟨⟨k1, k2, k3, k4⟩, ⟨k5, k6, k7⟩, k8⟩ := h
      refine ⟨⟨k1, k2.c e, k3.e e, k4.c e⟩, ⟨fun t ht => ?_, fun p hp => ?_, ?_⟩, k8⟩
      · rw [bar.c e, h1 50 (by decide), h1 51 (by decide), h1 52 (by decide)]; exact k5 t ht
      · rw [h1 53 (by decide), h1 54 (by decide), h1 55 (by decide), h1 56 (by decide), h1 57 (by decide)]; exact k6 p hp
      · rw [h1 59 (by decide)]; exact k7
    obtain ⟨M', g1, g2, g3⟩ := ih (i + 1) (up2 M 71 i ((W 7 i + W 8 i) - (W0 7 i + W0 8 i))) n (hT.up _ (by simp [rl])) (fun r hr => (up2_n _ _ _ hr).trans (h1 r hr)) (fun p hp => by
      rw [up2_a]
      by_cases e : p = i
      · rw [if_pos ⟨rfl, e⟩, e]
      · rw [if_neg (fun z => e z.2)]; exact h2 p (by omega)) (by omega) (by omega)
    refine ⟨M', ?_, g2, g3⟩
    rw [← g1]
    show f_X12_vote_J48 _ _ _ _ _ _ _ _ = _
    unfold f_X12_vote_J48
    rw [(hT.1 0 12 (by decide)).trans m1, if_neg (ge_lit (by omega) (by omega)), m_more fu v (hN.pf hT.1) hW (by omega), tx_b1_q, tx_ck_q (by omega) (by omega), tx_let_q, tx_let_q, nI_clamp (by omega), nI_1]
theorem vo_loop (fu : Nat) {B L W0 Y W M : S32} {np nt nr w x w1 w2 : Nat} (hN : NW B L W0 M np nt nr w) (h : WR B L W M 1 np nt nr x (fun p => p < np)) {Wa : S32} (ha : wkOK Wa np w1) (hk : wkOK W np w2) (hw1 : w1 ≤ 10001) (hw2 : w2 ≤ 10001) (hY : ∀ p, p < np → Y 2 p = Wa 7 p + Wa 8 p) (h71 : ∀ p, p < np → M 71 p = (Wa 7 p + Wa 8 p) - (W0 7 p + W0 8 p)) (vL vN v : S64) (x3 : Int32) : ∀ (m i : Nat) (a : Int32) (nc nf : Nat), i + m = np → m < nc → m < nf →
    ∃ r, f_X9_votes_L52 fu W0 B L nc Y W vL vN x3 a (nI i) = some (r, Y, W, vL, vN) ∧ f_X12_vote_L98 fu nf M v x3 a (nI i) = some (r, M, v) := by
  obtain ⟨⟨hnp, hnt, hnr⟩, ⟨b1, m1⟩, -⟩ := id hN.1
  have hk0 := hN.2.2.1
  have hw0 := hN.2.2.2.1
  intro m
  induction m with
  | zero =>
    intro i a nc nf hi hc hf2
    obtain ⟨nc, rfl⟩ := pos_ex hc
    obtain ⟨nf, rfl⟩ := pos_ex hf2
    refine ⟨a, ?_, ?_⟩
    · show f_X9_votes_J52 _ _ _ _ _ _ _ _ _ _ _ _ = _
      unfold f_X9_votes_J52
      rw [b1, if_pos (nI_le (by omega) (by omega))]
    · show f_X12_vote_J98 _ _ _ _ _ _ _ = _
      unfold f_X12_vote_J98
      rw [m1, if_pos (nI_le (by omega) (by omega))]
  | succ m ih =>
    intro i a nc nf hi hc hf2
    obtain ⟨nc, rfl⟩ := pos_ex hc
    obtain ⟨nf, rfl⟩ := pos_ex hf2
    have hip : i < np := by omega
    have e1 := tx_le ha hk hk0 hip hw1 hw2 (by omega)
    have e2 := tx_le hk ha hk0 hip hw2 hw1 (by omega)
    have C : f_X9_votes_L52 fu W0 B L (nc + 1) Y W vL vN x3 a (nI i) = f_X9_votes_L52 fu W0 B L nc Y W vL vN x3 (a + if x3 = 0 then (if Wa 7 i + Wa 8 i ≤ W 7 i + W 8 i then 0 else 1) else (if W 7 i + W 8 i ≤ Wa 7 i + Wa 8 i then 0 else 1)) (nI (i + 1)) := by
      show f_X9_votes_J52 _ _ _ _ _ _ _ _ _ _ _ _ = _
      unfold f_X9_votes_J52 f_X9_votes_J116 f_X9_votes_J120 f_X9_votes_J121
      rw [b1, if_neg (ge_lit (by omega) (by omega)), if_neg (ge6 (by omega)), c_tax fu b1 hnp hip, tx_b1_q, tx_ck_q (by omega) (by omega), tx_ck_q (by omega) (by omega), nI_clamp (by omega), hY i hip]
      simp only [tx_let_q, nI_1]
      by_cases z : x3 = 0
      · rw [if_pos z, if_pos z]; split <;> rfl
      · rw [if_neg z, if_neg z]; split <;> rfl
    have R : f_X12_vote_L98 fu (nf + 1) M v x3 a (nI i) = f_X12_vote_L98 fu nf M v x3 (a + if x3 = 0 then (if Wa 7 i + Wa 8 i ≤ W 7 i + W 8 i then 0 else 1) else (if W 7 i + W 8 i ≤ Wa 7 i + Wa 8 i then 0 else 1)) (nI (i + 1)) := by
      show f_X12_vote_J98 _ _ _ _ _ _ _ = _
      unfold f_X12_vote_J98 f_X12_vote_J158
      rw [m1, if_neg (ge_lit (by omega) (by omega)), m_more fu v hN h hip, tx_b1_q, tx_b1_q, tx_ck_q (by omega) (by omega), tx_ck_q (by omega) (by omega), nI_clamp (by omega), h71 i hip]
      simp only [tx_let_q, nI_1, e1, e2]
      by_cases z : x3 = 0
      · rw [if_pos z, if_pos z]; split <;> rfl
      · rw [if_neg z, if_neg z]; split <;> rfl
    rw [C, R]
    exact ih (i + 1) _ nc nf (by omega) (by omega) (by omega)
theorem sp26 (fu : Nat) (hf : 1000 ≤ fu) : SP26 RR fu := by
  intro k q U V y1 y2 y3 hR
  obtain ⟨np, nt, nr, w, hN⟩ := RR_NW hR
  obtain ⟨⟨hnp, hnt, hnr⟩, ⟨b1, m1⟩, -⟩ := id hN.1
  have bad : ∃ (r : Int32) (zu_Y : S32) (zu_W3 : S32) (zv_L : S64) (zv_N3 : S64) (zq_W3_0 : Nat) (zu_M : S32) (zv_M : S64), (some ((-1 : Int32), U 6, U 7, V 17, V 8, q 1) : Option (Int32 × S32 × S32 × S64 × S64 × Nat)) = some (r, zu_Y, zu_W3, zv_L, zv_N3, zq_W3_0) ∧ (some ((-1 : Int32), up2 (U 19) 0 2 0, V 19) : Option (Int32 × S32 × S64)) = some (r, zu_M, zv_M) ∧ RR k (va_up q 1 zq_W3_0) (va_up (va_up (va_up U 6 zu_Y) 7 zu_W3) 19 zu_M) (va_up (va_up (va_up V 17 zv_L) 8 zv_N3) 19 zv_M) :=
    ⟨_, _, _, _, _, _, _, _, rfl, rfl, RR_T hR (PF.t _) (RR_bit hR) rfl rfl _ _ _⟩
  unfold f_X11_vote f_X12_vote
  rw [tx_let_q]
  by_cases a1 : y1 < 1
  · rw [if_pos a1, isIn_f fu (Or.inl a1)]; exact bad
  rw [if_neg a1]
  by_cases a2 : 40 < y1
  · rw [if_pos a2, isIn_f fu (Or.inr a2)]; exact bad
  rw [if_neg a2, isIn_t fu a1 a2, tx_b1_q, if_neg one_ne]
  by_cases a3 : y2 < 0
  · rw [if_pos a3, isIn_f fu (Or.inl a3)]; exact bad
  rw [if_neg a3]
  by_cases a4 : 100 < y2
  · rw [if_pos a4, isIn_f fu (Or.inr a4)]; exact bad
  rw [if_neg a4, isIn_t fu a3 a4, tx_b1_q, if_neg one_ne]
  by_cases a5 : y3 < 0
  · rw [if_pos a5, isIn_f fu (Or.inl a5)]; exact bad
  rw [if_neg a5]
  by_cases a6 : y3 ≤ 1
  · rw [if_pos a6, isIn_t fu a5 (Int32.not_lt.mpr a6), tx_b1_q, if_neg one_ne]
    have a1' : ¬ y1 < 0 := fun z => a1 (Int32.lt_iff_toInt_lt.mpr (by have := Int32.lt_iff_toInt_lt.mp z; have e1 : (0 : Int32).toInt = 0 := rfl; have e2 : (1 : Int32).toInt = 1 := rfl; omega))
    obtain ⟨n, hn, rfl⟩ := nI_of2 (M := 40) (n := 40) rfl a1' (Int32.not_lt.mp a2)
    obtain ⟨ra, hra, rfl⟩ := nI_of2 (M := 100) (n := 100) rfl a3 (Int32.not_lt.mp a4)
    have hT0 := TI.first hR
    obtain ⟨Wc, Ml, c1, c2, c3, c4, c5, c6, c7, -⟩ := tr_lay fu hf hN (V 19) (U 7) hT0.2.2.2
    obtain ⟨Wa, vL1, vN1, M1, v1, g1, g2, g3, g4, g5, g6, g7⟩ := trial fu hf (n := n) hN hT0 (V 17) (V 8) (by omega) c3 c5 c4.1 c4.2.2.2.2.1 c6 c7
    obtain ⟨Y', y1', y2'⟩ := nt_loop fu (W := Wa) b1 hnp np 0 (U 6) fu (fun p hp => absurd hp (by omega)) (by omega) (by omega)
    obtain ⟨Mu, u1, u2, u3⟩ := us_loop fu hN g5 v1 (nI n) (nI ra) y3 Wa np 0 M1 fu g3 (fun _ _ => rfl) (fun p hp => absurd hp (by omega)) (by omega) (by omega)
    obtain ⟨Wd, Mm, d1, d2, d3, d4, d5, d6, d7, -, -, -, -, -, -, d14⟩ := tr_lay fu hf (hN.pf u2.1) v1 Wa u2.2.2.2
    obtain ⟨Wb, vL2, vN2, M2, v2, k1, k2, k3, k4, k5, k6, k7⟩ := trial fu hf (n := n) hN u2 vL1 vN1 (by omega) (d3.trans ((PF.refl Mm).up (nI ra) (show rl 58 1 = false by decide))) ((d5.rate hra).u58 1 (nI ra)) (by rw [up2_n _ _ _ (by decide)]; exact d4.1) (by rw [up2_n _ _ _ (by decide)]; exact d4.2.2.2.2.1) (d6.c rfl rfl rfl) (by rw [up2_e, up2_e])
    have h71 : ∀ p, p < np → M2 71 p = (Wa 7 p + Wa 8 p) - (U 1 7 p + U 1 8 p) := by
      intro p hp
      rw [k7.1 71 p (by unfold sc; omega), up2_n _ _ _ (by decide)]
      rw [d14 71 (by decide) (by omega)]
      exact u3 p hp
    obtain ⟨r, z1, z2⟩ := vo_loop fu k4 k5 (Y := Y') g6 k6 (by have := hN.2.2.2.1; omega) (by have := hN.2.2.2.1; omega) y2' h71 vL2 vN2 v2 y3 np 0 0 fu fu (by omega) (by omega) (by omega)
    have R2 : f_X12_vote_J48 fu (fun _ _ _ _ _ _ => none) Mu v1 (nI n) (nI ra) y3 (nI np) = some (r, M2, v2) := by
      unfold f_X12_vote_J48
      have k2' : f_X12_goMany fu (up2 Mm 58 (1 : Int32).toNatClampNeg (nI ra)) v1 (nI n) = some (M2, v2) := k2
      rw [(u2.1 0 12 (by decide)).trans m1, if_pos (nI_le (by omega) (by omega)), d2, tx_b1_q, tx_let_q, k2', tx_b2_q]
      exact z2
    have C2 : f_X9_votes fu (U 1) (U 2) (U 17) (U 6) (U 7) (V 17) (V 8) (nI n) (nI ra) y3 = some (r, Y', Wb, vL2, vN2) := by
      unfold f_X9_votes
      have y1'' : f_X9_noteTaxes fu Wa (U 2) (U 6) = some Y' := y1'
      rw [c1, tx_b1_q, g1, tx_b3_q, y1'', tx_b1_q, d1, tx_b1_q, tx_let_q, k1, tx_b3_q]
      exact z1
    have u1' : f_X12_vote_L48 fu fu M1 v1 (nI n) (nI ra) y3 0 = _ := u1
    rw [C2, tx_b5_q, c2, tx_b1_q, g2, tx_b2_q, u1', R2]
    exact ⟨_, _, _, _, _, _, _, _, rfl, rfl, RR_T hR ((PF.t _).trans k3.1) k3.2.2.2 k3.2.1 k3.2.2.1 _ _ _⟩
  · rw [if_neg a6, isIn_f fu (Or.inr (Int32.not_le.mp a6))]; exact bad
