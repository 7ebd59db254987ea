/-! signs between, and what closes -/
theorem opr_tok (fu : Nat) {K M : S32} (R : S32) (v : S64) (h : TKr K M) : (f_X4_operator fu R K = some (-1) ∧ f_X12_signs_J47 fu v M = f_X12_signs_J147 fu v M 0) ∨ (∃ w, 3 ≤ w ∧ w ≤ 14 ∧ f_X4_operator fu R K = some (wK w) ∧ f_X12_signs_J47 fu v M = f_X12_signs_J147 fu v M (nI w) ∧ ¬ K 0 4 = 0) := by
  unfold f_X4_operator f_X8_isWord f_X12_signs_J47 f_X12_isKey f_X12_isSign
  rcases h with ⟨x, y⟩ | ⟨x, y | ⟨y, y2⟩⟩ | ⟨x, y, -⟩ | ⟨x, y, -⟩ | ⟨x, y, k, hk, c, d⟩ | ⟨x, y, c⟩ | ⟨x, y, m, hm, c, d⟩
  · left; rw [x, y]; exact ⟨rfl, rfl⟩
  · left; rw [x, y]; exact ⟨rfl, rfl⟩
  · left; rw [x, y, y2]; exact ⟨rfl, rfl⟩
  · left; rw [x, y]; exact ⟨rfl, rfl⟩
  · left; rw [x, y]; exact ⟨rfl, rfl⟩
  · by_cases k10 : k = 10
    · subst k10; right; rw [x, y, c, d]; exact ⟨3, by omega, by omega, rfl, rfl, by decide⟩
    by_cases k11 : k = 11
    · subst k11; right; rw [x, y, c, d]; exact ⟨4, by omega, by omega, rfl, rfl, by decide⟩
    left
    have hsw : sw k = k := by unfold sw; rw [if_neg k10, if_neg k11]
    rw [x, y, c, d, hsw]
    rw [if_pos rfl, if_neg (show ¬ nI k = (11 : Int32) from fun z => k11 ((nI_eq (b := 11) (by omega) (by omega)).mp z)), if_pos rfl, if_neg (show ¬ nI k = (10 : Int32) from fun z => k10 ((nI_eq (b := 10) (by omega) (by omega)).mp z))]
    exact ⟨rfl, rfl⟩
  · rcases c with ⟨c, d⟩ | ⟨c, d⟩ | ⟨c, d⟩ | ⟨c, d⟩ | ⟨c, d⟩ | ⟨c, d⟩ | ⟨c, d⟩
    · left; rw [x, y, c, d]; exact ⟨rfl, rfl⟩
    · left; rw [x, y, c, d]; exact ⟨rfl, rfl⟩
    · left; rw [x, y, c, d]; exact ⟨rfl, rfl⟩
    · right; rw [x, y, c, d]; exact ⟨11, by omega, by omega, rfl, rfl, by decide⟩
    · right; rw [x, y, c, d]; exact ⟨12, by omega, by omega, rfl, rfl, by decide⟩
    · right; rw [x, y, c, d]; exact ⟨13, by omega, by omega, rfl, rfl, by decide⟩
    · right; rw [x, y, c, d]; exact ⟨14, by omega, by omega, rfl, rfl, by decide⟩
  · right
    rw [x, y, c, d]
    have : m = 0 ∨ m = 1 ∨ m = 2 ∨ m = 3 ∨ m = 4 ∨ m = 5 := by omega
    rcases this with rfl | rfl | rfl | rfl | rfl | rfl
    · exact ⟨5, by omega, by omega, rfl, rfl, by decide⟩
    · exact ⟨6, by omega, by omega, rfl, rfl, by decide⟩
    · exact ⟨7, by omega, by omega, rfl, rfl, by decide⟩
    · exact ⟨8, by omega, by omega, rfl, rfl, by decide⟩
    · exact ⟨9, by omega, by omega, rfl, rfl, by decide⟩
    · exact ⟨10, by omega, by omega, rfl, rfl, by decide⟩
def cmN (w : Nat) (c : Bool) : Bool := if rk w ≤ 2 then false else (decide (rk w = 4) || c)
def jnW (w : Nat) : Nat := if rk w ≤ 2 then 1 else 0
theorem j64_q (fu : Nat) {R K L : S32} (vL : S64) {t : Nat} (ht : t ≤ 64) (h : R 0 5 = nI t) (w1 w2 : Int32) : f_X4_takeOperator_J64 fu K vL R L w1 w2 = if t = 64 then some (2, R, L) else (if w1 = (3 : Int32) then (f_X4_takeOperator_J95 fu K vL (up2 R 0 5 (nI (t + 1))) L w1 w2) else (if w1 = (2 : Int32) then (f_X4_takeOperator_J95 fu K vL (up2 R 0 5 (nI (t + 1))) L w1 w2) else (f_X4_takeOperator_J100 fu K vL (up2 R 0 5 (nI (t + 1))) L w1 w2 (0 : Int32)))) := by
  unfold f_X4_takeOperator_J64
  rw [h]
  by_cases z : t = 64
  · rw [if_pos z, if_neg (show ¬ nI t < (64 : Int32) by rw [z]; decide)]
  · rw [if_neg z, if_pos (show nI t < (64 : Int32) from nI_lt (b := 64) (by omega) (by omega)), nI_1, tx_let_q]
theorem w314 {w : Nat} (h : 3 ≤ w) (h2 : w ≤ 14) : (w = 3 ∨ w = 4) ∨ (w = 5 ∨ w = 6 ∨ w = 7 ∨ w = 8 ∨ w = 9 ∨ w = 10) ∨ (w = 11 ∨ w = 12 ∨ w = 13 ∨ w = 14) := by omega
theorem opr_c (fu : Nat) {K R L : S32} (vL : S64) {w b t : Nat} {c : Bool} (hw : 3 ≤ w) (hw2 : w ≤ 14) (ho : f_X4_operator fu R K = some (wK w)) (hb : b ≤ 8) (r4 : R 0 4 = nI b) (rc : R 4 b = bt c) (ht : t ≤ 64) (r5 : R 0 5 = nI t) : f_X4_takeOperator fu K vL R L = if rk w = 4 ∧ c = true then some (1, R, L) else if t = 64 then some (2, R, L) else f_X4_takeOperator_J134 fu K vL (up2 R 0 5 (nI (t + 1))) L (wK w) (nI (jnW w)) (nI b) (bt (cmN w c)) := by
  have r4' : (up2 R 0 5 (nI (t + 1))) 0 4 = nI b := by rw [up2_i _ _ _ (by decide)]; exact r4
  have rc' : (up2 R 0 5 (nI (t + 1))) 4 b = bt c := by rw [up2_n _ _ _ (by decide)]; exact rc
  have n1 : ¬ nI b < (0 : Int32) := nI_pos (n := b) (by omega)
  have n2 : ¬ (9 : Int32) ≤ nI b := nI_ge (b := 9) (by omega) (by omega)
  have g21 : ∀ w1 t0 : Int32, ¬ w1 = -1 → f_X4_takeOperator_J21 fu K vL R L w1 t0 = (if t0 = (0 : Int32) then (f_X4_takeOperator_J64 fu K vL R L w1 t0) else (if bt c = (0 : Int32) then (f_X4_takeOperator_J64 fu K vL R L w1 t0) else (some ((1 : Int32), R, L)))) := by
    intro w1 t0 h1
    unfold f_X4_takeOperator_J21
    rw [if_neg h1, r4, if_neg n1, if_neg n2, tx_ck_q (j := b) (by omega) (by omega), nI_clamp (n := b) (by omega), rc]
  unfold f_X4_takeOperator
  rw [ho, tx_b1_q]
  unfold f_X4_takeOperator_J20
  rcases w314 hw hw2 with h | h | h
  · have h4 : ¬ (rk w = 4 ∧ c = true) := by rcases h with rfl | rfl <;> exact fun z => absurd z.1 (by decide)
    rw [if_neg h4]
    have e1 : wK w < (5 : Int32) := by rcases h with rfl | rfl <;> decide
    have e2 : ¬ wK w = -1 := by rcases h with rfl | rfl <;> decide
    rw [if_pos e1, g21 _ _ e2, if_pos rfl, j64_q fu vL ht r5]
    by_cases z : t = 64
    · rw [if_pos z, if_pos z]
    · rw [if_neg z, if_neg z]
      have e3 : wK w = 3 ∨ wK w = 2 := by rcases h with rfl | rfl <;> decide
      have e4 : jnW w = 1 := by rcases h with rfl | rfl <;> rfl
      have e5 : cmN w c = false := by rcases h with rfl | rfl <;> rfl
      rw [e4, e5]
      rcases e3 with e | e
      · rw [if_pos e]
        unfold f_X4_takeOperator_J95 f_X4_takeOperator_J100 f_X4_takeOperator_J133
        rw [if_neg one_ne, r4']
        rfl
      · rw [if_neg (show ¬ wK w = 3 by rw [e]; decide), if_pos e]
        unfold f_X4_takeOperator_J95 f_X4_takeOperator_J100 f_X4_takeOperator_J133
        rw [if_neg one_ne, r4']
        rfl
  · have e1 : ¬ wK w < (5 : Int32) := by rcases h with rfl | rfl | rfl | rfl | rfl | rfl <;> decide
    have e0 : ¬ (10 : Int32) < wK w := by rcases h with rfl | rfl | rfl | rfl | rfl | rfl <;> decide
    have e2 : ¬ wK w = -1 := by rcases h with rfl | rfl | rfl | rfl | rfl | rfl <;> decide
    have e3 : ¬ wK w = 3 := by rcases h with rfl | rfl | rfl | rfl | rfl | rfl <;> decide
    have e3' : ¬ wK w = 2 := by rcases h with rfl | rfl | rfl | rfl | rfl | rfl <;> decide
    have e4 : jnW w = 0 := by rcases h with rfl | rfl | rfl | rfl | rfl | rfl <;> rfl
    have e5 : cmN w c = true := by rcases h with rfl | rfl | rfl | rfl | rfl | rfl <;> rfl
    have e6 : rk w = 4 := by rcases h with rfl | rfl | rfl | rfl | rfl | rfl <;> rfl
    rw [if_neg e1, if_neg e0, g21 _ _ e2, if_neg one_ne]
    cases c with
    | true => rw [if_neg (show ¬ bt true = (0 : Int32) by decide), if_pos (show rk w = 4 ∧ true = true from ⟨e6, rfl⟩)]
    | false =>
      rw [if_neg (show ¬ (rk w = 4 ∧ false = true) from fun z => absurd z.2 (by decide)), if_pos (show bt false = (0 : Int32) from rfl), j64_q fu vL ht r5]
      by_cases z : t = 64
      · rw [if_pos z, if_pos z]
      · rw [if_neg z, if_neg z, if_neg e3, if_neg e3', e4, e5]
        unfold f_X4_takeOperator_J100 f_X4_takeOperator_J129
        rw [if_pos rfl, if_neg one_ne, r4']
        rfl
  · have e1 : ¬ wK w < (5 : Int32) := by rcases h with rfl | rfl | rfl | rfl <;> decide
    have e0 : (10 : Int32) < wK w := by rcases h with rfl | rfl | rfl | rfl <;> decide
    have e2 : ¬ wK w = -1 := by rcases h with rfl | rfl | rfl | rfl <;> decide
    have e3 : ¬ wK w = 3 := by rcases h with rfl | rfl | rfl | rfl <;> decide
    have e3' : ¬ wK w = 2 := by rcases h with rfl | rfl | rfl | rfl <;> decide
    have e4 : jnW w = 0 := by rcases h with rfl | rfl | rfl | rfl <;> rfl
    have e5 : cmN w c = c := by rcases h with rfl | rfl | rfl | rfl <;> cases c <;> rfl
    have e6 : ¬ (rk w = 4 ∧ c = true) := by rcases h with rfl | rfl | rfl | rfl <;> exact fun z => absurd z.1 (by decide)
    rw [if_neg e6, if_neg e1, if_pos e0, g21 _ _ e2, if_pos rfl, j64_q fu vL ht r5]
    by_cases z : t = 64
    · rw [if_pos z, if_pos z]
    · rw [if_neg z, if_neg z, if_neg e3, if_neg e3', e4, e5]
      unfold f_X4_takeOperator_J100
      rw [if_pos rfl, if_pos rfl, r4', tx_ck_q (j := b) (by omega) (by omega), nI_clamp (n := b) (by omega), rc']
      cases c <;> rfl
theorem BS.pop {R L M : S32} {a n w : Nat} {s st : List Nat} (h : BS R L M a n (w :: s) st) : BS (up2 R 0 2 (nI s.length)) L (up2 M 0 40 (nI s.length)) a n s st := by
  obtain ⟨b1, b2, b3, b4, b5, b6, b7, b8, b9, b10⟩ := h
  refine ⟨up2_e _ _ _ _, up2_e _ _ _ _, b3.2.2.2.2.e (fun i hi => ⟨by rw [up2_n _ _ _ (by decide)], by rw [up2_n _ _ _ (by decide)]⟩), b4.e (Nat.le_refl _) (fun i _ => by rw [up2_n _ _ _ (by decide)]), by rw [up2_i _ _ _ (by decide)]; exact b5, by rw [up2_i _ _ _ (by decide)]; exact b6, b7, b8, b9.e (fun r i r1 r2 _ => by unfold hfM; rw [up2_n _ _ _ (by omega)]), fun i hi => ?_⟩
  rw [up2_n _ _ _ (by decide), up2_n _ _ _ (by decide)]
  exact b10 i hi
theorem sgn_bad (fu : Nat) {K R L M : S32} (v : S64) {xc : Option (Int32 × S32 × S32)} (h3 : K 0 3 = M 0 10) (hc : xc = some (1, R, L)) (hr : f_X12_signs fu v M = f_X12_signs_J147 fu v M 0) : SF K M xc (f_X12_signs fu v M) := by
  obtain ⟨M', w1, w2, w3, w4⟩ := wr_q fu v (LF.refl M) 1
  refine ⟨1, R, L, M', Or.inl rfl, hc, ?_, w2, w3.trans h3.symm, w4⟩
  rw [hr]
  unfold f_X12_signs_J147
  rw [if_pos rfl, w1, tx_b2_q, tx_bz_0]
theorem bt_and (b : Bool) : bt b &&& 1 = bt b := by cases b <;> rfl
theorem jn_1 (w : Nat) : jnW w ≤ 1 := by unfold jnW; split <;> omega
theorem opr_q (fu : Nat) (hf : 1000 ≤ fu) {P K R L M : S32} (vL v : S64) {e nx a n mb w : Nat} {ws st : List Nat} (h : LWs P K R L M e nx a n ws st 0 mb) (hw : 3 ≤ w) (hw2 : w ≤ 14) (ho : f_X4_operator fu R K = some (wK w)) (hr : f_X12_signs fu v M = f_X12_signs_J147 fu v M (nI w)) (hk : ¬ K 0 4 = 0) : SF K M (f_X4_takeOperator fu K vL R L) (f_X12_signs fu v M) ∨ SG fu P K L M e nx a (f_X4_takeOperator fu K vL R L) (f_X12_signs fu v M) := by
  obtain ⟨hS, hB, ⟨wb1, w44, w6⟩, ⟨mb1, m45, r7⟩, ⟨nb8, m42, r4⟩, ⟨c64, m43, r5⟩, hst, ⟨hcm, hcR⟩, hmn, hlast⟩ := id h
  have h3 := hS.2.1
  have hbl := nBin_le ws
  have hll := len_q ws
  have han : a ≤ n := hB.2.2.2.2.2.2.2.1
  have C := opr_c fu vL (K := K) (L := L) hw hw2 ho nb8 r4 hcm c64 r5
  have rkp : 1 ≤ rk w := rk_p (by omega) (by omega)
  have rk6 := rk_6 w
  obtain ⟨tr, htr⟩ : ∃ tr, tr = if rk w = 4 then 5 else rk w := ⟨_, rfl⟩
  have tr1 : 1 ≤ tr ∧ tr ≤ 6 := by rw [htr]; split <;> omega
  -- the reference up to its binding
  have D0 : f_X12_signs fu v M = f_X12_signs_J175 fu v M (nI w) (nI tr) := by
    rw [hr]
    unfold f_X12_signs_J147
    rw [if_neg (show ¬ nI w = (0 : Int32) from fun z => absurd ((nI_eq (b := 0) (by omega) (by omega)).mp z) (by omega)), m_rk fu hw2 (by omega), tx_b1_q]
    by_cases z : rk w = 4
    · rw [if_pos (show nI (rk w) = (4 : Int32) by rw [z]; rfl), htr, if_pos z]; rfl
    · rw [if_neg (show ¬ nI (rk w) = (4 : Int32) from fun q => z ((nI_eq (b := 4) (by omega) (by omega)).mp q)), tx_b1_q, htr, if_neg z]
  obtain ⟨R2, qR2⟩ : ∃ R2, R2 = up2 (up2 R 0 5 (nI (n + nOp ws + 1))) 4 (nBr ws) (bt (cmN w (cm ws)) &&& 1) := ⟨_, rfl⟩
  have hB2 : BS R2 L M a n ws st := by
    rw [qR2]
    exact hB.e (fun _ => by rw [up2_n _ _ _ (by decide), up2_n _ _ _ (by decide)]) (by rw [up2_n _ _ _ (by decide), up2_i _ _ _ (by decide)]) (fun _ _ _ _ => rfl) ⟨rfl, rfl, rfl⟩
  have hag : ∃ tc, tc ≤ 6 ∧ agT tc tr ws ∧ (¬ (rk w = 4 ∧ cm ws = true) → tc = rk w) := by
    by_cases z : rk w = 4
    · by_cases y : cm ws = true
      · exact ⟨tr, tr1.2, agT.same tr ws, fun q => absurd ⟨z, y⟩ q⟩
      · refine ⟨4, by omega, ?_, fun _ => z.symm⟩
        rw [htr, if_pos z]
        exact agT.cmp ws (by cases hq : cm ws with | true => exact absurd hq y | false => rfl)
    · refine ⟨tr, tr1.2, agT.same tr ws, fun _ => by rw [htr, if_neg z]⟩
  obtain ⟨tc, tc6, hag, htc⟩ := hag
  obtain ⟨R3, L3, M3, st3, n3, e1, e2, e3, e4, e5, e6, e7, e8, e9, e10⟩ := bindL fu vL v tr1.1 tc6 tr1.2 ws st R2 L M n fu fu hB2 hag (by omega) (by omega) c64 (by omega) (by omega)
  have x10 : M3 0 10 = M 0 10 := e9 0 10 (by omega) (by omega) (by omega)
  have lf3 : LF M M3 := (e9.ef han).ef.lf
  have x43 : M3 0 43 = nI (n + nOp ws) := (e9 0 43 (by omega) (by omega) (by omega)).trans m43
  -- whether a comparison stands there
  have D1 : f_X12_signs fu v M = if rk w = 4 ∧ cm ws = true then (tx_b2 (f_X12_wrong fu v M3 (1 : Int32)) fun (r_51 : Int32) (u_T_52 : S32) => tx_bz r_51 <| some (r_51, u_T_52)) else f_X12_signs_J217 fu v M3 (nI w) := by
    rw [D0]
    unfold f_X12_signs_J175 f_X12_bind
    rw [e2, tx_b1_q, m_rk fu hw2 (by omega), tx_b1_q]
    by_cases z : rk w = 4
    · have t5 : tr = 5 := by rw [htr, if_pos z]
      rw [if_pos (show nI (rk w) = (4 : Int32) by rw [z]; rfl), e3.2.1]
      have e3' := e3
      rw [t5] at e3' ⊢
      have hlen := len_q (dropW 5 ws)
      rw [t5] at e5
      have hb5 := drop_br (t := 5) (by omega) ws
      cases hd : dropW 5 ws with
      | nil =>
        rw [if_pos (show nI ([] : List Nat).length ≤ (0 : Int32) by decide), if_neg]
        rintro ⟨-, q⟩
        obtain ⟨w', s', q1, -⟩ := cm_5.mp q
        rw [hd] at q1
        cases q1
      | cons w' s' =>
        rw [hd] at e3' hlen
        obtain ⟨-, -, ⟨y1, y2, y3, -⟩, -⟩ := e3'
        rw [List.length_cons] at hlen ⊢
        have hdd : nOp (w' :: s') + nBr (w' :: s') ≤ 72 := by rw [← hd]; omega
        rw [if_neg (nI_nle (n := s'.length + 1) (by omega) (by omega)), nI_pred, tx_ck_q (j := s'.length) (by omega) (by omega), nI_clamp (n := s'.length) (by omega), y3, m_rk fu y1 y2, tx_b1_q]
        have r6' := rk_6 w'
        by_cases y : rk w' = 4
        · rw [if_pos (show nI (rk w') = (4 : Int32) by rw [y]; rfl), if_pos ⟨z, cm_5.mpr ⟨w', s', hd, y⟩⟩]
        · rw [if_neg (show ¬ nI (rk w') = (4 : Int32) from fun q => y ((nI_eq (b := 4) (by omega) (by omega)).mp q)), if_neg]
          rintro ⟨-, q⟩
          obtain ⟨w'', s'', q1, q2⟩ := cm_5.mp q
          rw [hd] at q1
          cases q1
          exact y q2
    · rw [if_neg (show ¬ nI (rk w) = (4 : Int32) from fun q => z ((nI_eq (b := 4) (by omega) (by omega)).mp q)), if_neg (fun q => z q.1)]
  rw [C, D1]
  by_cases zc : rk w = 4 ∧ cm ws = true
  · left
    rw [if_pos zc, if_pos zc]
    obtain ⟨M', w1, w2, w3, w4⟩ := wr_q fu v lf3 1
    refine ⟨1, R, L, M', Or.inl rfl, rfl, ?_, w2, by rw [w3, x10, h3], w4⟩
    rw [w1, tx_b2_q, tx_bz_0]
  rw [if_neg zc, if_neg zc]
  have htc' := htc zc
  unfold f_X12_signs_J217
  rcases cnt_q fu v c64 x43 with ⟨q, M', q1, q2, q3, q4⟩ | ⟨q, q1⟩
  · left
    refine ⟨2, R, L, M', Or.inr rfl, by rw [if_pos q], ?_, q2, by rw [q3, x10, h3], q4 M lf3⟩
    rw [q1, tx_b2_q, if_pos rfl]
  right
  rw [if_neg (by omega)]
  -- both push the sign
  have hll2 := len_q (dropW tr ws)
  have hbr2 := drop_br tr1.1 ws
  have hB4 : BS R3 L3 (up2 M3 0 43 (nI (n + nOp ws + 1))) a n3 (dropW tr ws) st3 := e3.e (fun _ => rfl) rfl (fun r i _ _ => by rw [up2_n _ _ _ (by omega)]) ⟨up2_i _ _ _ (by decide), up2_i _ _ _ (by decide), up2_i _ _ _ (by decide)⟩
  obtain ⟨p1, p2, p3⟩ := push_q fu v hB4 hw2 (w := w) (by omega) (by omega)
  obtain ⟨Rz, qR⟩ : ∃ Rz, Rz = up2 (up2 (up2 (up2 R3 2 (dropW tr ws).length (wK w)) 0 2 (nI ((dropW tr ws).length + 1))) 0 6 1) 0 7 (nI (jnW w)) := ⟨_, rfl⟩
  obtain ⟨Mz, qM⟩ : ∃ Mz, Mz = up2 (up2 (up2 (up2 (up2 M3 0 43 (nI (n + nOp ws + 1))) 39 (dropW tr ws).length (nI w)) 0 40 (nI ((dropW tr ws).length + 1))) 0 44 1) 0 45 (nI (jnW w)) := ⟨_, rfl⟩
  have bz : BS Rz L3 Mz a n3 (w :: dropW tr ws) st3 := by
    rw [qR, qM]
    exact p3.e (fun _ => by rw [up2_n _ _ _ (by decide), up2_n _ _ _ (by decide)]) (by rw [up2_i _ _ _ (by decide), up2_i _ _ _ (by decide)]) (fun r i _ _ => by rw [up2_n _ _ _ (by omega), up2_n _ _ _ (by omega)]) ⟨by rw [up2_i _ _ _ (by decide), up2_i _ _ _ (by decide)], by rw [up2_i _ _ _ (by decide), up2_i _ _ _ (by decide)], by rw [up2_i _ _ _ (by decide), up2_i _ _ _ (by decide)]⟩
  have hop : nOp (w :: dropW tr ws) = 1 + nOp (dropW tr ws) := by show (if w = 0 then 0 else 1) + _ = _; rw [if_neg (by omega)]
  have hbr : nBr (w :: dropW tr ws) = nBr ws := by show (if w = 0 then 1 else 0) + _ = _; rw [if_neg (by omega), hbr2]; omega
  have hbi : nBin (w :: dropW tr ws) = 1 + nBin (dropW tr ws) := by show (if w = 0 ∨ w = 2 then 0 else 1) + _ = _; rw [if_neg (by omega)]
  have hcmz : cm (w :: dropW tr ws) = cmN w (cm ws) := by
    unfold cmN
    by_cases z2 : rk w ≤ 2
    · rw [if_pos z2, cm_n (by omega)]; exact decide_eq_false (by omega)
    · rw [if_neg z2]
      by_cases z4 : rk w = 4
      · rw [cm_n (by omega), decide_eq_true z4]; rfl
      · have z3 : rk w = 3 → False := by
          intro q
          have : w = 2 := by
            unfold rk at q
            split at q <;> (try omega); split at q <;> (try omega); split at q <;> (try omega); split at q <;> (try omega); split at q <;> (try omega); split at q <;> omega
          omega
        have z5 : 5 ≤ rk w := by
          rcases Nat.lt_or_ge (rk w) 5 with q | q
          · exact absurd (show rk w = 3 by omega) z3
          · exact q
        rw [cm_y z5, decide_eq_false z4, Bool.false_or, htr, if_neg z4]
        exact cm_drop z5 ws
  have f4 : ∀ l, Rz 4 l = R2 4 l := fun l => by
    rw [qR, up2_n _ _ _ (by decide), up2_n _ _ _ (by decide), up2_n _ _ _ (by decide), up2_n _ _ _ (by decide)]
    exact e7 4 l (by omega)
  have fR : ∀ i, i = 4 ∨ i = 5 → Rz 0 i = R2 0 i := fun i hi => by
    rw [qR, up2_a, if_neg (by omega), up2_a, if_neg (by omega), up2_a, if_neg (by omega), up2_a, if_neg (by omega)]
    exact e7 0 i (by omega)
  have j1 := jn_1 w
  have W : LW0 Rz L3 Mz a n3 (w :: dropW tr ws) st3 1 (jnW w) := by
    refine ⟨bz, ⟨by omega, ?_, ?_⟩, ⟨j1, ?_, ?_⟩, ⟨by omega, ?_, ?_⟩, ⟨by omega, ?_, ?_⟩, by omega, ⟨?_, fun q => absurd q (by omega), ?_⟩, fun _ q => ?_, fun q => absurd q (by decide)⟩
    · rw [qM, up2_i _ _ _ (by decide), up2_e]; rfl
    · rw [qR, up2_i _ _ _ (by decide), up2_e]; rfl
    · rw [qM, up2_e]
    · rw [qR, up2_e]
    · rw [hbr, qM, up2_a, if_neg (by omega), up2_a, if_neg (by omega), up2_a, if_neg (by omega), up2_a, if_neg (by omega), up2_a, if_neg (by omega), e9 0 42 (by omega) (by omega) (by omega)]; exact m42
    · rw [hbr, fR 4 (by omega), qR2, up2_n _ _ _ (by decide), up2_i _ _ _ (by decide)]; exact r4
    · rw [qM, up2_a, if_neg (by omega), up2_a, if_neg (by omega), up2_a, if_neg (by omega), up2_a, if_neg (by omega), up2_e, hop, show n3 + (1 + nOp (dropW tr ws)) = n + nOp ws + 1 by omega]
    · rw [fR 5 (by omega), qR2, up2_n _ _ _ (by decide), up2_e, hop, show n3 + (1 + nOp (dropW tr ws)) = n + nOp ws + 1 by omega]
    · rw [hbr, f4, qR2, up2_e, bt_and, hcmz]
    · refine (hcR.drop (t := tr)).e (fun l hl => ?_)
      rw [f4, qR2, up2_i _ _ _ (by omega), up2_n _ _ _ (by decide)]
    · rw [hcmz]
      unfold cmN
      unfold jnW at q
      by_cases z2 : rk w ≤ 2
      · rw [if_pos z2]
      · rw [if_neg z2] at q; omega
  have hE : EF0 a M Mz := by rw [qM]; exact (((((e9.ef han).up _ (by omega)).up _ (by omega)).up _ (by omega)).up _ (by omega)).up _ (by omega)
  have hL : LE a L L3 := fun r i h1 h2 => e8 r i (by omega) h2
  obtain ⟨M2, t1, t2⟩ := adv2_q fu hf v hS.1 W hE hL hk
  refine t2 _ _ ?_ ?_
  · unfold f_X4_takeOperator_J134 f_X4_release f_X4_expectOperand
    rw [tx_ck_q (j := nBr ws) (by omega) (by omega), nI_clamp (n := nBr ws) (by omega), tx_let_q, c_rk fu hw2 (by omega), tx_b1_q, ← qR2, ← htc', e1, tx_b2_q, p1, tx_b1_q, tx_let_q, tx_bz_q (by rcases (show jnW w = 0 ∨ jnW w = 1 by omega) with q | q <;> rw [q] <;> decide), tx_let_q, tx_b1_q, qR]
  · rw [q1, tx_b2_q, if_neg one_ne, p2, tx_b1_q, tx_let_q, m_rk fu hw2 (by omega), tx_b1_q]
    unfold f_X12_signs_J250
    by_cases z2 : rk w ≤ 2
    · have ej : jnW w = 1 := by unfold jnW; rw [if_pos z2]
      rw [ej] at qM
      rw [if_neg (show ¬ (3 : Int32) ≤ nI (rk w) from nI_ge (b := 3) (by omega) (by omega)), tx_bz_1, tx_let_q]
      show tx_b1 (f_X12_token fu v (up2 _ 0 45 (nI 1))) _ = _
      rw [← qM, t1, tx_b1_q]
    · have ej : jnW w = 0 := by unfold jnW; rw [if_neg z2]
      rw [ej] at qM
      rw [if_pos (show (3 : Int32) ≤ nI (rk w) from nI_le (a := 3) (by omega) (by omega)), tx_bz_0, tx_let_q]
      show tx_b1 (f_X12_token fu v (up2 _ 0 45 (nI 0))) _ = _
      rw [← qM, t1, tx_b1_q]
