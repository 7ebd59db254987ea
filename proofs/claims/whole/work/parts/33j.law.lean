/-! a law is read to its end -/
theorem clo_q (fu : Nat) (hf : 1000 ≤ fu) {P K R L M : S32} (vL v : S64) {e nx a n mb : Nat} {ws st : List Nat} (h : LWs P K R L M e nx a n ws st 0 mb) (k4 : K 0 4 = 5) (m8 : M 0 8 = 4) (m9 : M 0 9 = 41) (hj : f_X12_signs_J47 fu v M = f_X12_signs_J147 fu v M 0) : SF K M (f_X4_takeClosing fu vL R L) (f_X12_signs fu v M) ∨ SG fu P K L M e nx a (f_X4_takeClosing fu vL R L) (f_X12_signs fu v M) := by
  obtain ⟨hS, hB, ⟨wb1, w44, w6⟩, ⟨mb1, m45, r7⟩, ⟨nb8, m42, r4⟩, ⟨c64, m43, r5⟩, hst, ⟨hcm, hcR⟩, hmn, hlast⟩ := id h
  have h3 := hS.2.1
  have hbl := nBin_le ws
  have hll := len_q ws
  have han : a ≤ n := hB.2.2.2.2.2.2.2.1
  have D : f_X12_signs fu v M = (if nI (nBr ws) ≤ (0 : Int32) then (f_X12_signs_J47 fu v M) else (tx_b1 (f_X12_bind fu v M (1 : Int32)) fun (u_T_6 : S32) => tx_let (up2 u_T_6 0 40 ((u_T_6 0 40) - (1 : Int32))) fun (u_T_7 : S32) => tx_let (up2 u_T_7 0 42 ((u_T_7 0 42) - (1 : Int32))) fun (u_T_8 : S32) => tx_b1 (f_X12_token fu v u_T_8) fun (u_T_10 : S32) => some ((1 : Int32), u_T_10))) := by
    unfold f_X12_signs f_X12_isSign
    rw [m8, m9, m42]; rfl
  by_cases z : nBr ws = 0
  · left
    refine sgn_bad (R := R) (L := L) fu v h3 ?_ ?_
    · unfold f_X4_takeClosing
      rw [r4, z]; rfl
    · rw [D, z, if_pos (show nI 0 ≤ (0 : Int32) by decide), hj]
  right
  obtain ⟨R3, L3, M3, st3, n3, e1, e2, e3, e4, e5, e6, e7, e8, e9, e10⟩ := bindL fu vL v (tc := 1) (tr := 1) (by omega) (by omega) (by omega) ws st R L M n fu fu hB (agT.same 1 ws) (by omega) (by omega) c64 (by omega) (by omega)
  have hd2 := hcR.drop (t := 1)
  have hbr2 := drop_br (t := 1) (by omega) ws
  obtain ⟨s, hs⟩ := drop_cl hB.2.2.1 (by omega)
  rw [hs] at e3 e4 e5 hd2 hbr2
  have hop : nOp (0 :: s) = nOp s := Nat.zero_add _
  have hbr : nBr (0 :: s) = nBr s + 1 := Nat.add_comm _ _
  have hbi : nBin (0 :: s) = nBin s := Nat.zero_add _
  have bz := e3.pop
  have x4 : R3 0 4 = nI (nBr s + 1) := by rw [e7 0 4 (by omega), r4, ← hbr2, hbr]
  have x42 : M3 0 42 = nI (nBr s + 1) := by rw [e9 0 42 (by omega) (by omega) (by omega), m42, ← hbr2, hbr]
  have x2 : R3 0 2 = nI (s.length + 1) := e3.1
  have x40 : M3 0 40 = nI (s.length + 1) := e3.2.1
  have W : LW0 (up2 (up2 R3 0 2 (nI s.length)) 0 4 (nI (nBr s))) L3 (up2 (up2 M3 0 40 (nI s.length)) 0 42 (nI (nBr s))) a n3 s st3 0 mb := by
    refine ⟨bz.e (fun _ => by rw [up2_n _ _ _ (by decide)]) (up2_i _ _ _ (by decide)) (fun r i _ _ => by rw [up2_n _ _ _ (by omega)]) ⟨up2_i _ _ _ (by decide), up2_i _ _ _ (by decide), up2_i _ _ _ (by decide)⟩, ⟨by omega, ?_, ?_⟩, ⟨mb1, ?_, ?_⟩, ⟨by omega, up2_e _ _ _ _, up2_e _ _ _ _⟩, ⟨by omega, ?_, ?_⟩, by omega, ⟨?_, ?_⟩, fun q => absurd q (by decide), fun _ => e10 (hlast rfl)⟩
    · rw [up2_i _ _ _ (by decide), up2_i _ _ _ (by decide), e9 0 44 (by omega) (by omega) (by omega)]; exact w44
    · rw [up2_i _ _ _ (by decide), up2_i _ _ _ (by decide), e7 0 6 (by omega)]; exact w6
    · rw [up2_i _ _ _ (by decide), up2_i _ _ _ (by decide), e9 0 45 (by omega) (by omega) (by omega)]; exact m45
    · rw [up2_i _ _ _ (by decide), up2_i _ _ _ (by decide), e7 0 7 (by omega)]; exact r7
    · rw [up2_i _ _ _ (by decide), up2_i _ _ _ (by decide), e9 0 43 (by omega) (by omega) (by omega), m43, show n + nOp ws = n3 + nOp s by omega]
    · rw [up2_i _ _ _ (by decide), up2_i _ _ _ (by decide), e7 0 5 (by omega), r5, show n + nOp ws = n3 + nOp s by omega]
    · rw [up2_n _ _ _ (by decide), up2_n _ _ _ (by decide), e7 4 _ (by omega)]; exact hd2.1 rfl
    · exact hd2.2.e (fun l _ => by rw [up2_n _ _ _ (by decide), up2_n _ _ _ (by decide), e7 4 _ (by omega)])
  have hE : EF0 a M (up2 (up2 M3 0 40 (nI s.length)) 0 42 (nI (nBr s))) := ((e9.ef han).up _ (by omega)).up _ (by omega)
  have hL : LE a L L3 := fun r i h1 h2 => e8 r i (by omega) h2
  obtain ⟨M2, t1, t2⟩ := adv2_q fu hf v hS.1 W hE hL (by rw [k4]; decide)
  refine t2 _ _ ?_ ?_
  · unfold f_X4_takeClosing f_X4_release
    rw [r4, if_neg (show ¬ nI (nBr ws) = (0 : Int32) from fun q => z ((nI_eq (b := 0) (by omega) (by omega)).mp q))]
    have e1' : f_X4_release_L0 fu vL fu R L 1 = some (R3, L3) := e1
    rw [e1', tx_b2_q, x2, nI_pred, tx_let_q, up2_i _ _ _ (show (4 : Nat) ≠ 2 by decide), x4, nI_pred, tx_let_q]
  · have e2' : f_X12_bind_L0 fu v fu M 1 = some M3 := e2
    rw [D, if_neg (nI_nle (n := nBr ws) (by omega) (by omega))]
    unfold f_X12_bind
    rw [e2', tx_b1_q, x40, nI_pred, tx_let_q, up2_i _ _ _ (show (42 : Nat) ≠ 40 by decide), x42, nI_pred, tx_let_q, t1, tx_b1_q]
theorem kn_cl (fu : Nat) {K M : S32} (h : TKr K M) : (f_X8_isSign fu K 16 = some 1 ∧ K 0 4 = 5 ∧ M 0 8 = 4 ∧ M 0 9 = 41) ∨ (f_X8_isSign fu K 16 = some 0 ∧ ∀ v, f_X12_isSign fu M v 41 = some 0) := by
  unfold f_X8_isSign f_X12_isSign
  rcases h with ⟨a, b⟩ | ⟨a, b | ⟨b, c⟩⟩ | ⟨a, b, -⟩ | ⟨a, b, -⟩ | ⟨a, b, -⟩ | ⟨a, b, c⟩ | ⟨a, b, n, hn, c, d⟩
  · right; rw [a, b]; exact ⟨rfl, fun _ => rfl⟩
  · right; rw [a, b]; exact ⟨rfl, fun _ => rfl⟩
  · right; rw [a, b, c]; exact ⟨rfl, fun _ => rfl⟩
  · right; rw [a, b]; exact ⟨rfl, fun _ => rfl⟩
  · right; rw [a, b]; exact ⟨rfl, fun _ => rfl⟩
  · right; rw [a, b]; exact ⟨rfl, fun _ => rfl⟩
  · rcases c with ⟨c, d⟩ | ⟨c, d⟩ | ⟨c, d⟩ | ⟨c, d⟩ | ⟨c, d⟩ | ⟨c, d⟩ | ⟨c, d⟩
    · right; rw [a, b, c, d]; exact ⟨rfl, fun _ => rfl⟩
    · right; rw [a, b, c, d]; exact ⟨rfl, fun _ => rfl⟩
    · left; rw [a, b, c, d]; exact ⟨rfl, rfl, rfl, rfl⟩
    · right; rw [a, b, c, d]; exact ⟨rfl, fun _ => rfl⟩
    · right; rw [a, b, c, d]; exact ⟨rfl, fun _ => rfl⟩
    · right; rw [a, b, c, d]; exact ⟨rfl, fun _ => rfl⟩
    · right; rw [a, b, c, d]; exact ⟨rfl, fun _ => rfl⟩
  · right
    rw [a, b, c, if_pos rfl, if_neg (show ¬ nI (5 + n) = (16 : Int32) from fun z => absurd ((nI_eq (b := 16) (by omega) (by omega)).mp z) (by omega))]
    exact ⟨rfl, fun _ => rfl⟩
/-- with all that it needs, a sign or a closing -/
theorem sgl_q (fu : Nat) (hf : 1000 ≤ fu) {P K R L M : S32} (vL v : S64) {e nx a n mb : Nat} {ws st : List Nat} (h : LWs P K R L M e nx a n ws st 0 mb) : ∃ xc, (∀ (G : Int32 → S32 → S32 → Option (Int32 × S32 × S32 × S32)), (tx_b1 (f_X8_isSign fu K (16 : Int32)) fun (r_22 : Int32) => if r_22 = (0 : Int32) then (tx_b3 (f_X4_takeOperator fu K vL R L) G) else (tx_b3 (f_X4_takeClosing fu vL R L) G)) = tx_b3 xc G) ∧ (SF K M xc (f_X12_signs fu v M) ∨ SG fu P K L M e nx a xc (f_X12_signs fu v M)) := by
  have hT := h.1.2.2
  rcases kn_cl fu hT with ⟨k1, k2, k3, k4⟩ | ⟨k1, k2⟩
  · refine ⟨f_X4_takeClosing fu vL R L, fun G => by rw [k1, tx_b1_q, if_neg one_ne], clo_q fu hf vL v h k2 k3 k4 ?_⟩
    unfold f_X12_signs_J47 f_X12_isKey f_X12_isSign
    rw [k3, k4]; rfl
  · refine ⟨f_X4_takeOperator fu K vL R L, fun G => by rw [k1, tx_b1_q, if_pos rfl], ?_⟩
    have D : f_X12_signs fu v M = f_X12_signs_J47 fu v M := by
      unfold f_X12_signs
      rw [k2 v, tx_b1_q, if_pos rfl]
    rcases opr_tok fu R v hT with ⟨o1, o2⟩ | ⟨w, w1, w2, o1, o2, o3⟩
    · left
      refine sgn_bad (R := R) (L := L) fu v h.1.2.1 ?_ (D.trans o2)
      unfold f_X4_takeOperator
      rw [o1, tx_b1_q, if_pos (show (-1 : Int32) < 5 by decide)]
      rfl
    · exact opr_q fu hf vL v h w1 w2 o1 (D.trans o2) o3
theorem step_q (fu : Nat) (hf : 1000 ≤ fu) {P K R L M : S32} (vL v : S64) {e nx a n wb mb : Nat} {ws st : List Nat} (h : LWs P K R L M e nx a n ws st wb mb) :
    (∃ c R' L' M', (c = 1 ∨ c = 2) ∧ (∀ K48 w2 w3, ¬ (700 : Int32) < w3 → f_X4_read_J48 fu vL P K48 R L K w2 w3 = some (c, R', L', K)) ∧ (∀ K25, f_X12_sumRead_J25 fu v K25 M = some (0, M')) ∧ M' 0 4 = c ∧ M' 0 5 = K 0 3 ∧ LF M M') ∨
    (∃ R' L' M' n', (∀ K48 j w3, j < 3 → ¬ (700 : Int32) < w3 → f_X4_read_J48 fu vL P K48 R L K (nI j) w3 = some (0, R', up2 L' 4 j (nI n'), K)) ∧ (∀ K25, f_X12_sumRead_J25 fu v K25 M = some (1, M')) ∧ ST P K M' e nx ∧ BS R' L' M' a n' [] [n' - 1] ∧ n' ≤ 64 ∧ M' 0 43 = nI n' ∧ EF a M M' ∧ LE a L L') ∨
    (∃ R' L' K' M' nx' n' ws' st' wb' mb', ¬ K 0 4 = 0 ∧ (∀ K48 w2 w3, ¬ (700 : Int32) < w3 → f_X4_read_J48 fu vL P K48 R L K w2 w3 = K48 R' L' K' w2 (w3 + 1)) ∧ (∀ K25, f_X12_sumRead_J25 fu v K25 M = K25 M') ∧ LWs P K' R' L' M' e nx' a n' ws' st' wb' mb' ∧ EF a M M' ∧ LE a L L' ∧ nx ≤ nx' ∧ (¬ K' 0 4 = 0 → nx < nx')) := by
  obtain ⟨hS, hB, ⟨wb1, w44, w6⟩, ⟨mb1, m45, r7⟩, ⟨nb8, m42, r4⟩, ⟨c64, m43, r5⟩, hst, ⟨hcm, hcR⟩, hmn, hlast⟩ := id h
  have hbl := nBin_le ws
  have hll := len_q ws
  have han : a ≤ n := hB.2.2.2.2.2.2.2.1
  -- what an outcome of one step is worth
  have fin : ∀ xc xr, SF K M xc xr ∨ SG fu P K L M e nx a xc xr → (∀ K48 w2 w3, ¬ (700 : Int32) < w3 → f_X4_read_J48 fu vL P K48 R L K w2 w3 = tx_b3 xc fun r u l => f_X4_read_J133 fu vL P K48 u l K w2 w3 r) → (∀ K25, f_X12_sumRead_J25 fu v K25 M = tx_b2 xr fun r u => if r = (0 : Int32) then some ((0 : Int32), u) else K25 u) →
    (∃ c R' L' M', (c = 1 ∨ c = 2) ∧ (∀ K48 w2 w3, ¬ (700 : Int32) < w3 → f_X4_read_J48 fu vL P K48 R L K w2 w3 = some (c, R', L', K)) ∧ (∀ K25, f_X12_sumRead_J25 fu v K25 M = some (0, M')) ∧ M' 0 4 = c ∧ M' 0 5 = K 0 3 ∧ LF M M') ∨
    (∃ R' L' K' M' nx' n' ws' st' wb' mb', ¬ K 0 4 = 0 ∧ (∀ K48 w2 w3, ¬ (700 : Int32) < w3 → f_X4_read_J48 fu vL P K48 R L K w2 w3 = K48 R' L' K' w2 (w3 + 1)) ∧ (∀ K25, f_X12_sumRead_J25 fu v K25 M = K25 M') ∧ LWs P K' R' L' M' e nx' a n' ws' st' wb' mb' ∧ EF a M M' ∧ LE a L L' ∧ nx ≤ nx' ∧ (¬ K' 0 4 = 0 → nx < nx')) := by
    intro xc xr hh g1 g2
    rcases hh with ⟨c, R', L', M', s1, s2, s3, s4, s5, s6⟩ | ⟨R', L', K', M', nx', n', ws', st', wb', mb', s1, s2, s3, s4, s5, s6, s7, s8, s9⟩
    · left
      refine ⟨c, R', L', M', s1, fun K48 w2 w3 hw => ?_, fun K25 => ?_, s4, s5, s6⟩
      · rw [g1 K48 w2 w3 hw, s2, tx_b3_q]
        unfold f_X4_read_J133
        rw [if_neg]
        rcases s1 with rfl | rfl <;> decide
      · rw [g2, s3, tx_b2_q, if_pos rfl]
    · right
      refine ⟨R', L', K', M', nx', n', ws', st', wb', mb', s1, fun K48 w2 w3 hw => ?_, fun K25 => ?_, s5, s6, s7, s8, s9⟩
      · rw [g1 K48 w2 w3 hw, s2, tx_b3_q]
        unfold f_X4_read_J133
        rw [if_pos rfl, s3, tx_b1_q, tx_let_q]
      · rw [g2, s4, tx_b2_q, if_neg one_ne]
  by_cases zb : wb = 1
  · subst zb
    refine Or.imp id Or.inr (fin (f_X4_takeOperand fu K vL R L) (f_X12_leafRead fu v M) (opd_q fu hf vL v h) (fun K48 w2 w3 hw => ?_) (fun K25 => ?_))
    · unfold f_X4_read_J48 f_X4_read_J96
      rw [if_neg hw, w6, if_neg (show ¬ nI 1 = (0 : Int32) by decide), if_neg (show ¬ nI 1 = (0 : Int32) by decide)]
    · unfold f_X12_sumRead_J25 f_X12_sumRead_J48
      rw [w44, if_neg (show ¬ nI 1 = (0 : Int32) by decide), if_neg (show ¬ nI 1 = (0 : Int32) by decide)]
      rcases kn_sg fu v hS.2.2 with ⟨-, k, -⟩ | ⟨-, k⟩
      · rw [k, tx_b1_q, if_neg one_ne]
      · rw [k, tx_b1_q, if_pos rfl]
  have zb0 : wb = 0 := by omega
  subst zb0
  obtain ⟨xc, x1, x2⟩ := sgl_q fu hf vL v h
  by_cases zend : nBr ws = 0 ∧ f_X8_isSign fu K 17 = some 1
  rotate_left
  · refine Or.imp id Or.inr (fin xc _ x2 (fun K48 w2 w3 hw => ?_) (fun K25 => ?_))
    · unfold f_X4_read_J48 f_X4_read_J96
      rw [if_neg hw, w6, if_pos (show nI 0 = (0 : Int32) from rfl), if_pos (show nI 0 = (0 : Int32) from rfl), x1, r4]
      by_cases z : nBr ws = 0
      · rw [if_pos (show nI (nBr ws) = (0 : Int32) by rw [z]; rfl)]
        rcases kn_sg fu v hS.2.2 with ⟨k, -⟩ | ⟨k, -⟩
        · exact absurd ⟨z, k⟩ zend
        · rw [k, tx_b1_q, if_pos rfl]
      · rw [if_neg (show ¬ nI (nBr ws) = (0 : Int32) from fun q => z ((nI_eq (b := 0) (by omega) (by omega)).mp q))]
    · unfold f_X12_sumRead_J25 f_X12_sumRead_J48
      rw [w44, if_pos (show nI 0 = (0 : Int32) from rfl), if_pos (show nI 0 = (0 : Int32) from rfl), m42]
      rcases kn_sg fu v hS.2.2 with ⟨k, k', -⟩ | ⟨-, k'⟩
      · rw [k', tx_b1_q, if_neg one_ne, if_neg (nI_nle (n := nBr ws) (Nat.pos_of_ne_zero (fun q => zend ⟨q, k⟩)) (by omega))]
      · rw [k', tx_b1_q, if_pos rfl]
  obtain ⟨z0, zs⟩ := zend
  right; left
  have zs' : f_X12_isSign fu M v 59 = some 1 := by
    rcases kn_sg fu v hS.2.2 with ⟨-, k', -⟩ | ⟨k, -⟩
    · exact k'
    · rw [zs] at k; cases k
  obtain ⟨R3, L3, M3, st3, n3, e1, e2, e3, e4, e5, e6, e7, e8, e9, e10⟩ := bindL fu vL v (tc := 0) (tr := 1) (by omega) (by omega) (by omega) ws st R L M n fu fu hB (agT.end hB.2.2.1 z0) (by omega) (by omega) c64 (by omega) (by omega)
  rw [drop_end hB.2.2.1 z0] at e3 e4 e5
  have hn3 : n3 = n + nOp ws := e5
  have hs3 : st3 = [n3 - 1] := by
    obtain ⟨s', q⟩ := e10 (hlast rfl)
    rw [q, List.length_cons] at e4
    have e4' : s'.length + 1 = 1 + 0 := e4
    have : s' = [] := List.eq_nil_of_length_eq_zero (by omega)
    rw [q, this]
  rw [hs3] at e3
  refine ⟨R3, L3, M3, n3, fun K48 j w3 hj hw => ?_, fun K25 => ?_, ⟨hS.1.ef (e9.ef han), ?_, ?_⟩, e3, by omega, ?_, (e9.ef han).ef, fun r i h1 h2 => e8 r i (by omega) h2⟩
  · unfold f_X4_read_J48 f_X4_release f_X5_close
    have e1' : f_X4_release_L0 fu vL fu R L 0 = some (R3, L3) := e1
    rw [if_neg hw, w6, if_pos (show nI 0 = (0 : Int32) from rfl), r4, if_pos (show nI (nBr ws) = (0 : Int32) by rw [z0]; rfl), zs, tx_b1_q, if_neg one_ne, e1', tx_b2_q, if_neg (nI_pos (n := j) (by omega)), if_neg (show ¬ (3 : Int32) ≤ nI j from nI_ge (b := 3) (by omega) (by omega)), tx_ck_q (j := j) (by omega) (by omega), nI_clamp (n := j) (by omega), tx_let_q, e3.2.2.2.2.2.2.1, tx_b1_q]
  · have e2' : f_X12_bind_L0 fu v fu M 1 = some M3 := e2
    unfold f_X12_sumRead_J25 f_X12_bind
    rw [zs', tx_b1_q, if_neg one_ne, w44, if_pos (show nI 0 = (0 : Int32) from rfl), m42, if_pos (show nI (nBr ws) ≤ (0 : Int32) by rw [z0]; decide), e2', tx_b1_q]
  · rw [e9 0 10 (by omega) (by omega) (by omega)]; exact hS.2.1
  · have q8 : M3 0 8 = M 0 8 := e9 0 8 (by omega) (by omega) (by omega)
    have q9 : M3 0 9 = M 0 9 := e9 0 9 (by omega) (by omega) (by omega)
    unfold TKr
    rw [q8, q9]
    exact hS.2.2
  · rw [e9 0 43 (by omega) (by omega) (by omega), m43, hn3]
theorem lawL (fu : Nat) (hf : 1000 ≤ fu) {P M0 L0 : S32} (vL v : S64) {e a j : Nat} (hj : j < 3) : ∀ m (K R L M : S32) (nx n : Nat) (ws st : List Nat) (wb mb i nf nf' : Nat), LWs P K R L M e nx a n ws st wb mb → EF a M0 M → LE a L0 L → i ≤ nx → (¬ K 0 4 = 0 → i < nx) → (¬ K 0 4 = 0 → e + 1 ≤ nx + m) → m < nf → m < nf' →
    (∃ c R' L' K' M', (c = 1 ∨ c = 2) ∧ f_X4_read_L48 fu vL P nf R L K (nI j) (nI i) = some (c, R', L', K') ∧ f_X12_sumRead_L25 fu v nf' M = some (0, M') ∧ M' 0 4 = c ∧ M' 0 5 = K' 0 3 ∧ LF M0 M') ∨
    (∃ R' L' K' M' n' nx', f_X4_read_L48 fu vL P nf R L K (nI j) (nI i) = some (0, R', up2 L' 4 j (nI n'), K') ∧ f_X12_sumRead_L25 fu v nf' M = some (1, M') ∧ ST P K' M' e nx' ∧ BS R' L' M' a n' [] [n' - 1] ∧ n' ≤ 64 ∧ M' 0 43 = nI n' ∧ EF a M0 M' ∧ LE a L0 L' ∧ nx ≤ nx') := by
  intro m
  induction m with
  | zero =>
    intro K R L M nx n ws st wb mb i nf nf' h hE hL h1 h2 h3 h4 h5
    obtain ⟨nf, rfl⟩ := pos_ex h4
    obtain ⟨nf', rfl⟩ := pos_ex h5
    have he : e ≤ 700 := h.1.1.1.1
    have hx : nx ≤ e := h.1.1.2.2.1
    have hw : ¬ (700 : Int32) < nI i := nI_nlt (a := 700) (b := i) (by omega) (by omega)
    rcases step_q fu hf vL v h with ⟨c, R', L', M', s1, s2, s3, s4, s5, s6⟩ | ⟨R', L', M', n', s1, s2, s3, s4, s5, s6, s7, s8⟩ | ⟨R', L', K', M', nx', n', ws', st', wb', mb', s1, -⟩
    · exact Or.inl ⟨c, R', L', K, M', s1, s2 _ _ _ hw, s3 _, s4, s5, hE.lf.trans s6⟩
    · exact Or.inr ⟨R', L', K, M', n', nx, s1 _ j _ hj hw, s2 _, s3, s4, s5, s6, hE.trans s7, hL.trans s8, Nat.le_refl _⟩
    · exact absurd (h3 s1) (by omega)
  | succ m ih =>
    intro K R L M nx n ws st wb mb i nf nf' h hE hL h1 h2 h3 h4 h5
    obtain ⟨nf, rfl⟩ := pos_ex h4
    obtain ⟨nf', rfl⟩ := pos_ex h5
    have he : e ≤ 700 := h.1.1.1.1
    have hx : nx ≤ e := h.1.1.2.2.1
    have hw : ¬ (700 : Int32) < nI i := nI_nlt (a := 700) (b := i) (by omega) (by omega)
    rcases step_q fu hf vL v h with ⟨c, R', L', M', s1, s2, s3, s4, s5, s6⟩ | ⟨R', L', M', n', s1, s2, s3, s4, s5, s6, s7, s8⟩ | ⟨R', L', K', M', nx', n', ws', st', wb', mb', s1, s2, s3, s4, s5, s6, s7, s8⟩
    · exact Or.inl ⟨c, R', L', K, M', s1, s2 _ _ _ hw, s3 _, s4, s5, hE.lf.trans s6⟩
    · exact Or.inr ⟨R', L', K, M', n', nx, s1 _ j _ hj hw, s2 _, s3, s4, s5, s6, hE.trans s7, hL.trans s8, Nat.le_refl _⟩
    · have g2 := h2 s1
      have g3 := h3 s1
      have ih' := ih K' R' L' M' nx' n' ws' st' wb' mb' (i + 1) nf nf' s4 (hE.trans s5) (hL.trans s6) (by omega) (fun q => by have := s8 q; omega) (fun q => by have := s8 q; omega) (by omega) (by omega)
      have q1 : f_X4_read_L48 fu vL P (nf + 1) R L K (nI j) (nI i) = f_X4_read_L48 fu vL P nf R' L' K' (nI j) (nI (i + 1)) := by
        show f_X4_read_J48 _ _ _ _ _ _ _ _ _ = _
        rw [s2 _ _ _ hw, nI_1]
      have q2 : f_X12_sumRead_L25 fu v (nf' + 1) M = f_X12_sumRead_L25 fu v nf' M' := by
        show f_X12_sumRead_J25 _ _ _ _ = _
        rw [s3]
      rw [q1, q2]
      rcases ih' with ⟨c, R2, L2, K2, M2, t1⟩ | ⟨R2, L2, K2, M2, n2, nx2, t1, t2, t3, t4, t5, t6, t7, t8, t9⟩
      · exact Or.inl ⟨c, R2, L2, K2, M2, t1⟩
      · exact Or.inr ⟨R2, L2, K2, M2, n2, nx2, t1, t2, t3, t4, t5, t6, t7, t8, by omega⟩
