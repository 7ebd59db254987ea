/-! what a law's sign works on -/
theorem opd_bad (fu : Nat) {K R L M : S32} (vL v : S64) (h3 : K 0 3 = M 0 10) (hc : f_X4_takeOperand fu K vL R L = some (1, R, L)) (hr : f_X12_leafRead fu v M = (tx_b2 (f_X12_wrong fu v M (1 : Int32)) fun (r_32 : Int32) (u_T_33 : S32) => tx_bz r_32 <| some (r_32, u_T_33))) : SF K M (f_X4_takeOperand fu K vL R L) (f_X12_leafRead fu v M) := by
  obtain ⟨M', w1, w2, w3, w4⟩ := wr_q fu v (LF.refl M) 1
  refine ⟨1, R, L, M', Or.inl rfl, hc, ?_, w2, w3.trans h3.symm, w4⟩
  rw [hr, w1, tx_b2_q, tx_bz_0]
theorem lt12 {k : Nat} (h : k < 12) : k = 0 ∨ k = 1 ∨ k = 2 ∨ k = 3 ∨ k = 4 ∨ k = 5 ∨ k = 6 ∨ k = 7 ∨ k = 8 ∨ k = 9 ∨ k = 10 ∨ k = 11 := by omega
theorem k1319 {k : Nat} (h : k < 20) (h2 : 13 ≤ k) : k = 13 ∨ k = 14 ∨ k = 15 ∨ k = 16 ∨ k = 17 ∨ k = 18 ∨ k = 19 := by omega
theorem cnt_q (fu : Nat) {M : S32} (v : S64) {c : Nat} (hc : c ≤ 64) (h : M 0 43 = nI c) : (c = 64 ∧ ∃ M', f_X12_isCounted fu v M = some (0, M') ∧ M' 0 4 = 2 ∧ M' 0 5 = M 0 10 ∧ ∀ M0, LF M0 M → LF M0 M') ∨ (c < 64 ∧ f_X12_isCounted fu v M = some (1, up2 M 0 43 (nI (c + 1)))) := by
  unfold f_X12_isCounted
  rw [h]
  by_cases z : c = 64
  · left
    refine ⟨z, ?_⟩
    subst z
    obtain ⟨M', w1, w2, w3, w4⟩ := wr_q fu v (LF.refl M) 2
    rw [if_pos (show nI 64 = (64 : Int32) from rfl), w1, tx_b2_q, tx_bz_0]
    exact ⟨M', rfl, w2, w3, fun M0 h0 => h0.trans w4⟩
  · right
    rw [if_neg (show ¬ nI c = (64 : Int32) from fun q => z ((nI_eq (b := 64) (by omega) (by omega)).mp q)), nI_1, tx_let_q]
    exact ⟨by omega, rfl⟩
/-- a number or a name is taken, once both have seen it -/
theorem opd_leaf (fu : Nat) (hf : 1000 ≤ fu) {P K R L M : S32} (vL v : S64) {e nx a n mb : Nat} {ws st : List Nat} (h : LWs P K R L M e nx a n ws st 1 mb) (hk : ¬ K 0 4 = 0) {k x : Int32} (hkx : (k = 0 ∧ ∃ y, y ≤ 9999 ∧ x = nI y) ∨ (k = 1 ∧ ∃ y, y < 7 ∧ x = nI y)) (hc : f_X4_takeOperand fu K vL R L = if (64 : Int32) ≤ R 0 5 then some (2, R, L) else f_X4_takeOperand_J188 fu K vL (up2 R 0 5 (R 0 5 + 1)) L k x) {G : S32 → Option (Int32 × S32)} (hr : f_X12_leafRead fu v M = tx_b2 (f_X12_isCounted fu v M) fun r u => if r = (0 : Int32) then some ((0 : Int32), u) else G u) (hG : ∀ c, G (up2 M 0 43 c) = f_X12_leafRead_J160 fu v (up2 M 0 43 c) k x) : SF K M (f_X4_takeOperand fu K vL R L) (f_X12_leafRead fu v M) ∨ SG fu P K L M e nx a (f_X4_takeOperand fu K vL R L) (f_X12_leafRead fu v M) := by
  obtain ⟨hS, hB, ⟨wb1, w44, w6⟩, ⟨mb1, m45, r7⟩, ⟨nb8, m42, r4⟩, ⟨c64, m43, r5⟩, hst, ⟨hcm, hcR⟩, hmn, hlast⟩ := h
  have hbl := nBin_le ws
  rw [hc, hr, r5]
  rcases cnt_q fu v c64 m43 with ⟨q, M', q1, q2, q3, q4⟩ | ⟨q, q1⟩
  · left
    refine ⟨2, R, L, M', Or.inr rfl, ?_, ?_, q2, q3.trans hS.2.1.symm, q4 M (LF.refl M)⟩
    · rw [if_pos (show (64 : Int32) ≤ nI (n + nOp ws) by rw [q]; decide)]
    · rw [q1, tx_b2_q, if_pos rfl]
  · right
    have hB2 : BS R L (up2 M 0 43 (nI (n + nOp ws + 1))) a n ws st := hB.e (fun _ => rfl) rfl (fun r i _ _ => by rw [up2_n _ _ _ (by omega)]) ⟨up2_i _ _ _ (by decide), up2_i _ _ _ (by decide), up2_i _ _ _ (by decide)⟩
    obtain ⟨L', M', l1, l2, l3, l4, l5⟩ := leaf_q fu vL v hB2 (by omega) (by omega) hkx
    have hB3 : BS (up2 (up2 R 0 5 (nI (n + nOp ws + 1))) 0 6 0) L' (up2 M' 0 44 0) a (n + 1) ws (n :: st) := l3.e (fun _ => by rw [up2_n _ _ _ (by decide), up2_n _ _ _ (by decide)]) (by rw [up2_i _ _ _ (by decide), up2_i _ _ _ (by decide)]) (fun r i _ _ => by rw [up2_n _ _ _ (by omega)]) ⟨up2_i _ _ _ (by decide), up2_i _ _ _ (by decide), up2_i _ _ _ (by decide)⟩
    have han : a ≤ n := hB.2.2.2.2.2.2.2.1
    have hE : EF0 a M (up2 M' 0 44 0) := (((EF0.refl a M).up (nI (n + nOp ws + 1)) (by omega)).trans (l5.ef han)).up _ (by omega)
    have q0 : ∀ i, i = 42 ∨ i = 43 ∨ i = 45 → (up2 M' 0 44 0) 0 i = (up2 M 0 43 (nI (n + nOp ws + 1))) 0 i := fun i hi => by rw [up2_i _ _ _ (by omega)]; exact l5 0 i (by omega) (by omega) (by omega)
    have hW : LW0 (up2 (up2 R 0 5 (nI (n + nOp ws + 1))) 0 6 0) L' (up2 M' 0 44 0) a (n + 1) ws (n :: st) 0 mb := by
      refine ⟨hB3, ⟨by omega, up2_e _ _ _ _, up2_e _ _ _ _⟩, ⟨mb1, ?_, ?_⟩, ⟨nb8, ?_, ?_⟩, ⟨by omega, ?_, ?_⟩, ?_, ⟨?_, ?_⟩, fun q => absurd q (by decide), fun _ => ⟨st, rfl⟩⟩
      · rw [q0 45 (by omega), up2_i _ _ _ (by decide)]; exact m45
      · rw [up2_i _ _ _ (by decide), up2_i _ _ _ (by decide)]; exact r7
      · rw [q0 42 (by omega), up2_i _ _ _ (by decide)]; exact m42
      · rw [up2_i _ _ _ (by decide), up2_i _ _ _ (by decide)]; exact r4
      · rw [q0 43 (by omega), up2_e]; rw [show n + 1 + nOp ws = n + nOp ws + 1 by omega]
      · rw [up2_i _ _ _ (by decide), up2_e]; rw [show n + 1 + nOp ws = n + nOp ws + 1 by omega]
      · rw [List.length_cons]; omega
      · rw [up2_n _ _ _ (by decide), up2_n _ _ _ (by decide)]; exact hcm
      · exact hcR.e (fun l _ => by rw [up2_n _ _ _ (by decide), up2_n _ _ _ (by decide)])
    obtain ⟨M2, t1, t2⟩ := adv2_q fu hf v hS.1 hW hE l4 hk
    refine t2 _ _ ?_ ?_
    · rw [if_neg (show ¬ (64 : Int32) ≤ nI (n + nOp ws) from nI_ge (b := 64) (by omega) (by omega)), nI_1]
      unfold f_X4_takeOperand_J188
      rw [l1, tx_b1_q, tx_let_q]
    · rw [q1, tx_b2_q, if_neg one_ne, hG]
      unfold f_X12_leafRead_J160
      rw [l2, tx_b1_q, tx_let_q, t1, tx_b1_q]
theorem opd_q (fu : Nat) (hf : 1000 ≤ fu) {P K R L M : S32} (vL v : S64) {e nx a n mb : Nat} {ws st : List Nat} (h : LWs P K R L M e nx a n ws st 1 mb) : SF K M (f_X4_takeOperand fu K vL R L) (f_X12_leafRead fu v M) ∨ SG fu P K L M e nx a (f_X4_takeOperand fu K vL R L) (f_X12_leafRead fu v M) := by
  obtain ⟨hS, hB, ⟨wb1, w44, w6⟩, ⟨mb1, m45, r7⟩, ⟨nb8, m42, r4⟩, ⟨c64, m43, r5⟩, hst, ⟨hcm, hcR⟩, hmn, hlast⟩ := id h
  have h3 := hS.2.1
  have hbl := nBin_le ws
  have hll := len_q ws
  have han : a ≤ n := hB.2.2.2.2.2.2.2.1
  rcases hS.2.2 with ⟨x, y⟩ | ⟨x, y | ⟨y, y2⟩⟩ | ⟨x, y, hn⟩ | ⟨x, y, -⟩ | ⟨x, y, k, hk, c, d⟩ | ⟨x, y, c⟩ | ⟨x, y, m, hm, c, d⟩
  · left
    refine opd_bad fu vL v h3 ?_ ?_
    · unfold f_X4_takeOperand f_X8_isSign f_X8_isWord f_X4_takeOperand_J61
      rw [x]; rfl
    · unfold f_X12_leafRead f_X12_isSign f_X12_isKey f_X12_leafRead_J86 f_X12_nameMet
      rw [y]; rfl
  · left
    refine opd_bad fu vL v h3 ?_ ?_
    · unfold f_X4_takeOperand f_X8_isSign f_X8_isWord f_X4_takeOperand_J61
      rw [x]; rfl
    · unfold f_X12_leafRead f_X12_isSign f_X12_isKey f_X12_leafRead_J86 f_X12_nameMet
      rw [y]; rfl
  · left
    refine opd_bad fu vL v h3 ?_ ?_
    · unfold f_X4_takeOperand f_X8_isSign f_X8_isWord f_X4_takeOperand_J61
      rw [x]; rfl
    · unfold f_X12_leafRead f_X12_isSign f_X12_isKey f_X12_leafRead_J86 f_X12_nameMet
      rw [y, y2]; rfl
  · -- a number
    obtain ⟨p, q, e1, e2, hp, hq, hpq⟩ := hn
    have C : f_X4_takeOperand fu K vL R L = f_X4_takeOperand_J113 fu K vL R L 1 := by
      unfold f_X4_takeOperand f_X8_isSign f_X8_isWord f_X4_takeOperand_J61
      rw [x]; rfl
    have D : f_X12_leafRead fu v M = f_X12_leafRead_J109 fu v M (-1) := by
      unfold f_X12_leafRead f_X12_isSign f_X12_isKey f_X12_leafRead_J86 f_X12_nameMet
      rw [y]; rfl
    unfold f_X4_takeOperand_J113 at C
    unfold f_X12_leafRead_J109 at D
    rw [e1, if_neg one_ne] at C
    rw [e2, if_neg (show ¬ (0 : Int32) ≤ -1 by decide)] at D
    by_cases z : p ≤ 9999
    · have : q = p := by omega
      subst this
      rw [if_pos (show nI q ≤ (9999 : Int32) from nI_le (b := 9999) z (by omega))] at C D
      refine opd_leaf fu hf vL v h (by rw [x]; decide) (k := 0) (x := nI q) (Or.inl ⟨rfl, q, z, rfl⟩) ?_ (G := fun u => f_X12_leafRead_J160 fu v u 0 (u 0 9)) ?_ (fun c => ?_)
      · rw [C]
        unfold f_X4_takeOperand_J141 f_X4_takeOperand_J164
        rw [tx_let_q, if_neg one_ne, if_neg one_ne, e1]
      · rw [D]
        rfl
      · show f_X12_leafRead_J160 fu v (up2 M 0 43 c) 0 ((up2 M 0 43 c) 0 9) = _
        rw [up2_i _ _ _ (by decide), e2]
    · left
      obtain ⟨M', w1, w2, w3, w4⟩ := wr_q fu v (LF.refl M) 2
      rw [if_neg (show ¬ nI p ≤ (9999 : Int32) from nI_ge (show 9999 < p by omega) (by omega))] at C
      rw [if_neg (show ¬ nI q ≤ (9999 : Int32) from nI_ge (show 9999 < q by omega) (by omega)), w1, tx_b2_q, tx_bz_0] at D
      refine ⟨2, R, L, M', Or.inr rfl, ?_, D, w2, w3.trans h3.symm, w4⟩
      rw [C]
      split <;> rfl
  · left
    refine opd_bad fu vL v h3 ?_ ?_
    · unfold f_X4_takeOperand f_X8_isSign f_X8_isWord f_X4_takeOperand_J61
      rw [x]; rfl
    · unfold f_X12_leafRead f_X12_isSign f_X12_isKey f_X12_leafRead_J86 f_X12_nameMet
      rw [y]; rfl
  · -- a word
    by_cases k12 : k < 12
    · left
      refine opd_bad fu vL v h3 ?_ ?_
      · unfold f_X4_takeOperand f_X8_isSign f_X8_isWord f_X4_takeOperand_J61
        rw [x, c]
        rcases lt12 k12 with rfl | rfl | rfl | rfl | rfl | rfl | rfl | rfl | rfl | rfl | rfl | rfl <;> rfl
      · unfold f_X12_leafRead f_X12_isSign f_X12_isKey f_X12_leafRead_J86 f_X12_nameMet
        rw [y, d]
        rcases lt12 k12 with rfl | rfl | rfl | rfl | rfl | rfl | rfl | rfl | rfl | rfl | rfl | rfl <;> rfl
    by_cases e12 : k = 12
    · subst e12
      by_cases em : mb = 0
      · subst em
        left
        refine opd_bad fu vL v h3 ?_ ?_
        · unfold f_X4_takeOperand f_X8_isSign f_X8_isWord
          rw [x, c, r7]; rfl
        · unfold f_X12_leafRead f_X12_isSign f_X12_isKey f_X12_leafRead_J86 f_X12_nameMet
          rw [y, d, m45]; rfl
      · have em1 : mb = 1 := by omega
        subst em1
        have hcf := hmn rfl rfl
        have C : f_X4_takeOperand fu K vL R L = (tx_b2 (f_X4_takeNegation fu R) fun (r_10 : Int32) (u_T_11 : S32) => some (r_10, u_T_11, L)) := by
          unfold f_X4_takeOperand f_X8_isSign f_X8_isWord
          rw [x, c, r7]; rfl
        have D : f_X12_leafRead fu v M = (tx_b2 (f_X12_isCounted fu v M) fun (r_9 : Int32) (u_T_10 : S32) => if r_9 = (0 : Int32) then (some ((0 : Int32), u_T_10)) else (tx_b1 (f_X12_waitsFor fu v u_T_10 (2 : Int32)) fun (u_T_13 : S32) => tx_b1 (f_X12_token fu v u_T_13) fun (u_T_15 : S32) => some ((1 : Int32), u_T_15))) := by
          unfold f_X12_leafRead f_X12_isSign f_X12_isKey
          rw [y, d, m45]; rfl
        unfold f_X4_takeNegation at C
        rw [r5] at C
        rw [C, D]
        rcases cnt_q fu v c64 m43 with ⟨q, M', q1, q2, q3, q4⟩ | ⟨q, q1⟩
        · left
          refine ⟨2, R, L, M', Or.inr rfl, ?_, ?_, q2, q3.trans h3.symm, q4 M (LF.refl M)⟩
          · rw [if_neg (show ¬ nI (n + nOp ws) < (64 : Int32) by rw [q]; decide), tx_b2_q]
          · rw [q1, tx_b2_q, if_pos rfl]
        · right
          have hB2 : BS (up2 R 0 5 (nI (n + nOp ws + 1))) L (up2 M 0 43 (nI (n + nOp ws + 1))) a n ws st := hB.e (fun _ => by rw [up2_n _ _ _ (by decide)]) (up2_i _ _ _ (by decide)) (fun r i _ _ => by rw [up2_n _ _ _ (by omega)]) ⟨up2_i _ _ _ (by decide), up2_i _ _ _ (by decide), up2_i _ _ _ (by decide)⟩
          obtain ⟨p1, p2, p3⟩ := push_q fu v hB2 (w := 2) (by omega) (by omega) (by omega)
          have hop : nOp (2 :: ws) = 1 + nOp ws := rfl
          have hbr : nBr (2 :: ws) = nBr ws := Nat.zero_add _
          have hbi : nBin (2 :: ws) = nBin ws := Nat.zero_add _
          have hcm2 : cm (2 :: ws) = false := rfl
          have W : LW0 (up2 (up2 (up2 R 0 5 (nI (n + nOp ws + 1))) 2 ws.length (wK 2)) 0 2 (nI (ws.length + 1))) L (up2 (up2 (up2 M 0 43 (nI (n + nOp ws + 1))) 39 ws.length (nI 2)) 0 40 (nI (ws.length + 1))) a n (2 :: ws) st 1 1 := by
            refine ⟨p3, ⟨by omega, ?_, ?_⟩, ⟨by omega, ?_, ?_⟩, ⟨by omega, ?_, ?_⟩, ⟨by omega, ?_, ?_⟩, by omega, ⟨?_, fun w => absurd w (by decide), hcR.e (fun l _ => by rw [up2_n _ _ _ (by decide), up2_n _ _ _ (by decide), up2_n _ _ _ (by decide)])⟩, fun _ _ => hcm2, fun q => absurd q (by decide)⟩
            · rw [up2_i _ _ _ (by decide), up2_n _ _ _ (by decide), up2_i _ _ _ (by decide)]; exact w44
            · rw [up2_i _ _ _ (by decide), up2_n _ _ _ (by decide), up2_i _ _ _ (by decide)]; exact w6
            · rw [up2_i _ _ _ (by decide), up2_n _ _ _ (by decide), up2_i _ _ _ (by decide)]; exact m45
            · rw [up2_i _ _ _ (by decide), up2_n _ _ _ (by decide), up2_i _ _ _ (by decide)]; exact r7
            · rw [hbr, up2_i _ _ _ (by decide), up2_n _ _ _ (by decide), up2_i _ _ _ (by decide)]; exact m42
            · rw [hbr, up2_i _ _ _ (by decide), up2_n _ _ _ (by decide), up2_i _ _ _ (by decide)]; exact r4
            · rw [up2_i _ _ _ (by decide), up2_n _ _ _ (by decide), up2_e, hop, show n + (1 + nOp ws) = n + nOp ws + 1 by omega]
            · rw [up2_i _ _ _ (by decide), up2_n _ _ _ (by decide), up2_e, hop, show n + (1 + nOp ws) = n + nOp ws + 1 by omega]
            · rw [hbr, hcm2, ← hcf, ← hcm, up2_n _ _ _ (by decide), up2_n _ _ _ (by decide), up2_n _ _ _ (by decide)]
          obtain ⟨M2, t1, t2⟩ := adv2_q fu hf v hS.1 W ((((EF0.refl a M).up _ (by omega)).up _ (by omega)).up _ (by omega)) (LE.refl a L) (by rw [x]; decide)
          refine t2 _ _ ?_ ?_
          · rw [if_pos (show nI (n + nOp ws) < (64 : Int32) from nI_lt (b := 64) q (by omega)), nI_1, tx_let_q]
            have p1' : f_X4_push fu (up2 R 0 5 (nI (n + nOp ws + 1))) 4 = _ := p1
            rw [p1', tx_b1_q, tx_b2_q]
          · have p2' : f_X12_waitsFor fu v (up2 M 0 43 (nI (n + nOp ws + 1))) 2 = _ := p2
            rw [q1, tx_b2_q, if_neg one_ne, p2', tx_b1_q, t1, tx_b1_q]
    · have hsw : sw k = k := by unfold sw; rw [if_neg (by omega), if_neg (by omega)]
      rw [hsw] at c
      have C : f_X4_takeOperand fu K vL R L = f_X4_takeOperand_J113 fu K vL R L 0 := by
        unfold f_X4_takeOperand f_X8_isSign f_X8_isWord f_X4_takeOperand_J61
        rw [x, c]
        rcases k1319 hk (by omega) with rfl | rfl | rfl | rfl | rfl | rfl | rfl <;> rfl
      have D : f_X12_leafRead fu v M = f_X12_leafRead_J129 fu v M (nI (k - 13)) := by
        unfold f_X12_leafRead f_X12_isSign f_X12_isKey f_X12_leafRead_J86 f_X12_nameMet
        rw [y, d]
        rcases k1319 hk (by omega) with rfl | rfl | rfl | rfl | rfl | rfl | rfl <;> rfl
      have e13 : nI k - (13 : Int32) = nI (k - 13) := by
        rcases k1319 hk (by omega) with rfl | rfl | rfl | rfl | rfl | rfl | rfl <;> rfl
      refine opd_leaf fu hf vL v h (by rw [x]; decide) (k := 1) (x := nI (k - 13)) (Or.inr ⟨rfl, k - 13, by omega, rfl⟩) ?_ (G := fun u => f_X12_leafRead_J160 fu v u 1 (nI (k - 13))) ?_ (fun c => rfl)
      · rw [C]
        unfold f_X4_takeOperand_J113 f_X4_takeOperand_J141 f_X4_takeOperand_J164
        rw [if_pos rfl, tx_let_q, if_pos rfl, if_pos rfl, c, e13]
      · rw [D]
        unfold f_X12_leafRead_J129 f_X12_leafRead_J148
        refine congrArg (tx_b2 (f_X12_isCounted fu v M)) (funext fun r => funext fun u => ?_)
        have hz : ¬ nI (k - 13) < (0 : Int32) := nI_pos (n := k - 13) (by omega)
        show (if r = (0 : Int32) then some ((0 : Int32), u) else _) = if r = (0 : Int32) then some ((0 : Int32), u) else f_X12_leafRead_J160 fu v u 1 (nI (k - 13))
        repeat rw [if_neg hz]
  · -- a sign
    rcases c with ⟨c, d⟩ | ⟨c, d⟩ | ⟨c, d⟩ | ⟨c, d⟩ | ⟨c, d⟩ | ⟨c, d⟩ | ⟨c, d⟩
    · left
      refine opd_bad fu vL v h3 ?_ ?_
      · unfold f_X4_takeOperand f_X8_isSign f_X8_isWord f_X4_takeOperand_J61
        rw [x, c]; rfl
      · unfold f_X12_leafRead f_X12_isSign f_X12_isKey f_X12_leafRead_J86 f_X12_nameMet
        rw [y, d]; rfl
    · have C : f_X4_takeOperand fu K vL R L = (tx_b2 (f_X4_takeOpening fu R) fun (r_13 : Int32) (u_T_14 : S32) => some (r_13, u_T_14, L)) := by
        unfold f_X4_takeOperand f_X8_isSign
        rw [x, c]; rfl
      have D : f_X12_leafRead fu v M = (if (M 0 42) = (8 : Int32) then (tx_b2 (f_X12_wrong fu v M (2 : Int32)) fun (r_24 : Int32) (u_T_25 : S32) => tx_bz r_24 <| some (r_24, u_T_25)) else (tx_let (up2 M 0 42 ((M 0 42) + (1 : Int32))) fun (u_T_17 : S32) => tx_b1 (f_X12_waitsFor fu v u_T_17 (0 : Int32)) fun (u_T_19 : S32) => tx_let (up2 u_T_19 0 45 (1 : Int32)) fun (u_T_20 : S32) => tx_b1 (f_X12_token fu v u_T_20) fun (u_T_22 : S32) => some ((1 : Int32), u_T_22))) := by
        unfold f_X12_leafRead f_X12_isSign
        rw [y, d]; rfl
      unfold f_X4_takeOpening at C
      rw [r4] at C
      rw [m42] at D
      by_cases z : nBr ws = 8
      · left
        obtain ⟨M', w1, w2, w3, w4⟩ := wr_q fu v (LF.refl M) 2
        rw [if_neg (show ¬ nI (nBr ws) < (8 : Int32) by rw [z]; decide), tx_b2_q] at C
        rw [if_pos (show nI (nBr ws) = (8 : Int32) by rw [z]; rfl), w1, tx_b2_q, tx_bz_0] at D
        exact ⟨2, R, L, M', Or.inr rfl, C, D, w2, w3.trans h3.symm, w4⟩
      · right
        have hB2 : BS (up2 (up2 R 0 4 (nI (nBr ws + 1))) 4 (nBr ws + 1) (0 &&& 1)) L (up2 M 0 42 (nI (nBr ws + 1))) a n ws st := hB.e (fun _ => by rw [up2_n _ _ _ (by decide), up2_n _ _ _ (by decide)]) (by rw [up2_n _ _ _ (by decide), up2_i _ _ _ (by decide)]) (fun r i _ _ => by rw [up2_n _ _ _ (by omega)]) ⟨up2_i _ _ _ (by decide), up2_i _ _ _ (by decide), up2_i _ _ _ (by decide)⟩
        obtain ⟨p1, p2, p3⟩ := push_q fu v hB2 (w := 0) (by omega) (by omega) (by omega)
        have p1' : f_X4_push fu (up2 (up2 R 0 4 (nI (nBr ws + 1))) 4 (nBr ws + 1) (0 &&& 1)) 15 = _ := p1
        have p2' : f_X12_waitsFor fu v (up2 M 0 42 (nI (nBr ws + 1))) 0 = _ := p2
        rw [if_pos (show nI (nBr ws) < (8 : Int32) from nI_lt (b := 8) (by omega) (by omega)), nI_1, tx_let_q, up2_e, if_neg (nI_pos (n := nBr ws + 1) (by omega)), if_neg (show ¬ (9 : Int32) ≤ nI (nBr ws + 1) from nI_ge (b := 9) (by omega) (by omega)), tx_ck_q (j := nBr ws + 1) (by omega) (by omega), nI_clamp (n := nBr ws + 1) (by omega), tx_let_q] at C
        unfold f_X4_takeOpening_J50 f_X4_expectOperand at C
        rw [p1', tx_b1_q, tx_let_q, tx_bz_1, tx_let_q, tx_b1_q, tx_b2_q] at C
        rw [if_neg (show ¬ nI (nBr ws) = (8 : Int32) from fun q => z ((nI_eq (b := 8) (by omega) (by omega)).mp q)), nI_1, tx_let_q, p2', tx_b1_q, tx_let_q] at D
        rw [C, D]
        have hop : nOp (0 :: ws) = nOp ws := Nat.zero_add _
        have hbr : nBr (0 :: ws) = nBr ws + 1 := Nat.add_comm _ _
        have hbi : nBin (0 :: ws) = nBin ws := Nat.zero_add _
        have hcm2 : cm (0 :: ws) = false := rfl
        obtain ⟨Rz, qR⟩ : ∃ Rz, Rz = up2 (up2 (up2 (up2 (up2 (up2 R 0 4 (nI (nBr ws + 1))) 4 (nBr ws + 1) (0 &&& 1)) 2 ws.length (wK 0)) 0 2 (nI (ws.length + 1))) 0 6 1) 0 7 1 := ⟨_, rfl⟩
        obtain ⟨Mz, qM⟩ : ∃ Mz, Mz = up2 (up2 (up2 (up2 M 0 42 (nI (nBr ws + 1))) 39 ws.length (nI 0)) 0 40 (nI (ws.length + 1))) 0 45 1 := ⟨_, rfl⟩
        have bz : BS Rz L Mz a n (0 :: ws) st := by
          rw [qR, qM]
          exact p3.e (fun _ => by rw [up2_n _ _ _ (by decide), up2_n _ _ _ (by decide)]) (by rw [up2_i _ _ _ (by decide), up2_i _ _ _ (by decide)]) (fun r i _ _ => by rw [up2_n _ _ _ (by omega)]) ⟨up2_i _ _ _ (by decide), up2_i _ _ _ (by decide), up2_i _ _ _ (by decide)⟩
        have fR : ∀ i, i = 5 → Rz 0 i = R 0 i := fun i hi => by rw [qR, up2_a, if_neg (by omega), up2_a, if_neg (by omega), up2_a, if_neg (by omega), up2_a, if_neg (by omega), up2_a, if_neg (by omega), up2_a, if_neg (by omega)]
        have fM : ∀ i, i = 43 ∨ i = 44 → Mz 0 i = M 0 i := fun i hi => by rw [qM, up2_a, if_neg (by omega), up2_a, if_neg (by omega), up2_a, if_neg (by omega), up2_a, if_neg (by omega)]
        have f4 : ∀ l, ¬ l = nBr ws + 1 → Rz 4 l = R 4 l := fun l hl => by rw [qR, up2_a, if_neg (by omega), up2_a, if_neg (by omega), up2_a, if_neg (by omega), up2_a, if_neg (by omega), up2_a, if_neg (by omega), up2_a, if_neg (by omega)]
        have f4e : Rz 4 (nBr ws + 1) = 0 := by rw [qR, up2_n _ _ _ (by decide), up2_n _ _ _ (by decide), up2_n _ _ _ (by decide), up2_n _ _ _ (by decide), up2_e]; rfl
        have W : LW0 Rz L Mz a n (0 :: ws) st 1 1 := by
          refine ⟨bz, ⟨by omega, ?_, ?_⟩, ⟨by omega, ?_, ?_⟩, ⟨by omega, ?_, ?_⟩, ⟨by omega, ?_, ?_⟩, by omega, ⟨?_, fun _ => ?_, hcR.e (fun l hl => f4 l (by omega))⟩, fun _ _ => hcm2, fun q => absurd q (by decide)⟩
          · rw [fM 44 (by omega)]; exact w44
          · rw [qR, up2_i _ _ _ (by decide), up2_e]; rfl
          · rw [qM, up2_e]; rfl
          · rw [qR, up2_e]; rfl
          · rw [hbr, qM, up2_i _ _ _ (by decide), up2_i _ _ _ (by decide), up2_n _ _ _ (by decide), up2_e]
          · rw [hbr, qR, up2_i _ _ _ (by decide), up2_i _ _ _ (by decide), up2_i _ _ _ (by decide), up2_n _ _ _ (by decide), up2_n _ _ _ (by decide), up2_e]
          · rw [fM 43 (by omega), hop]; exact m43
          · rw [fR 5 rfl, hop]; exact r5
          · rw [hbr, f4e, hcm2]; rfl
          · rw [f4 _ (by omega)]; exact hcm
        have hE : EF0 a M Mz := by rw [qM]; exact ((((EF0.refl a M).up _ (by omega)).up _ (by omega)).up _ (by omega)).up _ (by omega)
        obtain ⟨M2, t1, t2⟩ := adv2_q fu hf v hS.1 W hE (LE.refl a L) (by rw [x]; decide)
        refine t2 _ _ ?_ ?_
        · rw [qR]
        · rw [← qM, t1, tx_b1_q]
    · left
      refine opd_bad fu vL v h3 ?_ ?_
      · unfold f_X4_takeOperand f_X8_isSign f_X8_isWord f_X4_takeOperand_J61
        rw [x, c]; rfl
      · unfold f_X12_leafRead f_X12_isSign f_X12_isKey f_X12_leafRead_J86 f_X12_nameMet
        rw [y, d]; rfl
    · left
      refine opd_bad fu vL v h3 ?_ ?_
      · unfold f_X4_takeOperand f_X8_isSign f_X8_isWord f_X4_takeOperand_J61
        rw [x, c]; rfl
      · unfold f_X12_leafRead f_X12_isSign f_X12_isKey f_X12_leafRead_J86 f_X12_nameMet
        rw [y, d]; rfl
    · left
      refine opd_bad fu vL v h3 ?_ ?_
      · unfold f_X4_takeOperand f_X8_isSign f_X8_isWord f_X4_takeOperand_J61
        rw [x, c]; rfl
      · unfold f_X12_leafRead f_X12_isSign f_X12_isKey f_X12_leafRead_J86 f_X12_nameMet
        rw [y, d]; rfl
    · left
      refine opd_bad fu vL v h3 ?_ ?_
      · unfold f_X4_takeOperand f_X8_isSign f_X8_isWord f_X4_takeOperand_J61
        rw [x, c]; rfl
      · unfold f_X12_leafRead f_X12_isSign f_X12_isKey f_X12_leafRead_J86 f_X12_nameMet
        rw [y, d]; rfl
    · left
      refine opd_bad fu vL v h3 ?_ ?_
      · unfold f_X4_takeOperand f_X8_isSign f_X8_isWord f_X4_takeOperand_J61
        rw [x, c]; rfl
      · unfold f_X12_leafRead f_X12_isSign f_X12_isKey f_X12_leafRead_J86 f_X12_nameMet
        rw [y, d]; rfl
  · left
    refine opd_bad fu vL v h3 ?_ ?_
    · unfold f_X4_takeOperand f_X8_isSign f_X8_isWord f_X4_takeOperand_J61
      rw [x, c, if_pos rfl, if_neg (show ¬ nI (5 + m) = (15 : Int32) from fun z => absurd ((nI_eq (b := 15) (by omega) (by omega)).mp z) (by omega))]
      rfl
    · unfold f_X12_leafRead f_X12_isSign f_X12_isKey f_X12_leafRead_J86 f_X12_nameMet
      rw [y]; rfl
