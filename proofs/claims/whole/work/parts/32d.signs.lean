/-! signs, and every token -/
def tsC (fu : Nat) (P K4 : S32) (x1 r_2 : Int32) : Option S32 := if x1 = (40 : Int32) then (tx_let (up2 K4 0 5 (15 : Int32)) fun (u_T_6 : S32) => f_X8_takeSign_J259 fu P u_T_6) else if x1 = (41 : Int32) then (tx_let (up2 K4 0 5 (16 : Int32)) fun (u_T_8 : S32) => f_X8_takeSign_J259 fu P u_T_8) else if x1 = (42 : Int32) then (tx_let (up2 K4 0 5 (13 : Int32)) fun (u_T_10 : S32) => f_X8_takeSign_J259 fu P u_T_10) else if x1 = (43 : Int32) then (tx_let (up2 K4 0 5 (11 : Int32)) fun (u_T_12 : S32) => f_X8_takeSign_J259 fu P u_T_12) else if x1 = (44 : Int32) then (f_X8_takeSign_J254 fu P K4) else if x1 = (45 : Int32) then (tx_let (up2 K4 0 5 (12 : Int32)) fun (u_T_15 : S32) => f_X8_takeSign_J259 fu P u_T_15) else if x1 = (46 : Int32) then (f_X8_takeSign_J254 fu P K4) else if x1 = (47 : Int32) then (tx_let (up2 K4 0 5 (14 : Int32)) fun (u_T_18 : S32) => f_X8_takeSign_J259 fu P u_T_18) else if x1 = (48 : Int32) then (f_X8_takeSign_J254 fu P K4) else if x1 = (49 : Int32) then (f_X8_takeSign_J254 fu P K4) else if x1 = (50 : Int32) then (f_X8_takeSign_J254 fu P K4) else if x1 = (51 : Int32) then (f_X8_takeSign_J254 fu P K4) else if x1 = (52 : Int32) then (f_X8_takeSign_J254 fu P K4) else if x1 = (53 : Int32) then (f_X8_takeSign_J254 fu P K4) else if x1 = (54 : Int32) then (f_X8_takeSign_J254 fu P K4) else if x1 = (55 : Int32) then (f_X8_takeSign_J254 fu P K4) else if x1 = (56 : Int32) then (f_X8_takeSign_J254 fu P K4) else if x1 = (57 : Int32) then (f_X8_takeSign_J254 fu P K4) else if x1 = (58 : Int32) then (f_X8_takeSign_J254 fu P K4) else if x1 = (59 : Int32) then (tx_let (up2 K4 0 5 (17 : Int32)) fun (u_T_31 : S32) => f_X8_takeSign_J259 fu P u_T_31) else if x1 = (60 : Int32) then (if r_2 = (61 : Int32) then (f_X8_takeSign_J228 fu P K4 (6 : Int32)) else (if r_2 = (62 : Int32) then (f_X8_takeSign_J228 fu P K4 (8 : Int32)) else (f_X8_takeSign_J228 fu P K4 (5 : Int32)))) else if x1 = (61 : Int32) then (tx_let (up2 K4 0 5 (7 : Int32)) fun (u_T_36 : S32) => f_X8_takeSign_J259 fu P u_T_36) else if x1 = (62 : Int32) then (if r_2 = (61 : Int32) then (f_X8_takeSign_J248 fu P K4 (9 : Int32)) else (f_X8_takeSign_J248 fu P K4 (10 : Int32))) else (f_X8_takeSign_J254 fu P K4)
def stC (fu : Nat) (v : S64) (M3 : S32) : Option S32 := if (M3 0 9) = (60 : Int32) then (f_X12_signToken_J50 fu v M3) else (if (M3 0 9) = (62 : Int32) then (f_X12_signToken_J50 fu v M3) else (if (M3 0 9) = (61 : Int32) then (f_X12_signToken_J50 fu v M3) else (if (M3 0 9) = (59 : Int32) then (f_X12_signToken_J270 fu v M3) else (if (M3 0 9) = (40 : Int32) then (f_X12_signToken_J270 fu v M3) else (if (M3 0 9) = (41 : Int32) then (f_X12_signToken_J270 fu v M3) else (if (M3 0 9) = (43 : Int32) then (f_X12_signToken_J270 fu v M3) else (if (M3 0 9) = (45 : Int32) then (f_X12_signToken_J270 fu v M3) else (if (M3 0 9) = (42 : Int32) then (f_X12_signToken_J270 fu v M3) else (if (M3 0 9) = (47 : Int32) then (f_X12_signToken_J270 fu v M3) else (if (M3 0 9) = (37 : Int32) then (f_X12_signToken_J270 fu v M3) else (f_X12_signToken_J275 fu v M3 (0 : Int32))))))))))))
theorem ts_q (fu : Nat) {P K : S32} {nx : Nat} {r2 : Int32} (h2 : f_X8_signAt fu K P (nI (nx + 1)) = some r2) (k2 : K 0 2 = nI nx) (x : Int32) : f_X8_takeSign fu P K x = tsC fu P (up2 (up2 K 0 4 5) 0 2 (nI (nx + 1))) x r2 := by
  unfold f_X8_takeSign
  rw [k2, nI_1, h2, tx_b1_q, tx_let_q (up2 K 0 4 5), up2_i _ _ _ (show (2 : Nat) ≠ 4 by decide), k2, nI_1, tx_let_q (up2 (up2 K 0 4 5) 0 2 (nI (nx + 1)))]
  rfl
theorem st_q (fu : Nat) (v : S64) {M : S32} {nx a : Nat} (hx : nx < 700) (m7 : M 0 7 = nI nx) (hM : M 1 nx = nI a) : f_X12_signToken fu v M = stC fu v (up2 (up2 M 0 9 (nI a)) 0 7 (nI (nx + 1))) := by
  unfold f_X12_signToken
  rw [m7, tx_ck_q (j := nx) (by omega) (by omega), nI_clamp (n := nx) (by omega), hM, tx_let_q (up2 M 0 9 (nI a)), up2_i _ _ _ (show (7 : Nat) ≠ 9 by decide), m7, nI_1, tx_let_q (up2 (up2 M 0 9 (nI a)) 0 7 (nI (nx + 1)))]
  rfl
theorem j9_n (fu : Nat) (P : S32) {K : S32} (h : ¬ K 0 4 = 5 ∨ (¬ K 0 5 = 6 ∧ ¬ K 0 5 = 8 ∧ ¬ K 0 5 = 9)) : f_X8_takeSign_J259 fu P K = some K := by
  unfold f_X8_takeSign_J259
  by_cases z : K 0 4 = 5
  · obtain ⟨h1, h2, h3⟩ := h.resolve_left (fun w => w z)
    rw [if_pos z, if_neg h1, if_neg h2, if_neg h3]
  · rw [if_neg z]
theorem j9_y (fu : Nat) (P : S32) {K : S32} {n : Nat} (h : K 0 4 = 5) (h5 : K 0 5 = 6 ∨ K 0 5 = 8 ∨ K 0 5 = 9) (h2 : K 0 2 = nI n) : f_X8_takeSign_J259 fu P K = some (up2 K 0 2 (nI (n + 1))) := by
  unfold f_X8_takeSign_J259 f_X8_takeSign_J294
  rw [if_pos h, tx_let_q, h2, nI_1]
  rcases h5 with e | e | e
  · rw [if_pos e]
  · rw [e, if_neg (by decide), if_pos rfl]
  · rw [e, if_neg (by decide), if_neg (by decide), if_pos rfl]
/-- one sign, of one byte -/
theorem sg_1 (fu : Nat) {P K M : S32} (v : S64) {e nx a : Nat} {cc : Int32} (he : e ≤ 700) (hx : nx < e) (k1 : K 0 1 = nI e) (hC : ∀ r2, tsC fu P (up2 (up2 K 0 4 5) 0 2 (nI (nx + 1))) (nI a) r2 = f_X8_takeSign_J259 fu P (up2 (up2 (up2 K 0 4 5) 0 2 (nI (nx + 1))) 0 5 cc)) (hcc : ¬ cc = 6 ∧ ¬ cc = 8 ∧ ¬ cc = 9) {k8 k9 : Int32} {M' : S32} (hM' : stC fu v (up2 (up2 M 0 9 (nI a)) 0 7 (nI (nx + 1))) = some M') (f7 : M' 0 7 = nI (nx + 1)) (f8 : M' 0 8 = k8) (f9 : M' 0 9 = k9) (f10 : M' 0 10 = M 0 10) (fm : FM M M') (htk : ∀ K M : S32, K 0 4 = 5 → K 0 5 = cc → M 0 8 = k8 → M 0 9 = k9 → TKr K M) (r2 : Int32) : ∃ K' M' nx', tsC fu P (up2 (up2 K 0 4 5) 0 2 (nI (nx + 1))) (nI a) r2 = some K' ∧ stC fu v (up2 (up2 M 0 9 (nI a)) 0 7 (nI (nx + 1))) = some M' ∧ tkE K K' M M' e nx nx' := by
  refine ⟨up2 (up2 (up2 K 0 4 5) 0 2 (nI (nx + 1))) 0 5 cc, M', nx + 1, ?_, hM', by omega, by omega, ?_, ?_, ?_, f7, f10, ?_, ?_, fm⟩
  · rw [hC r2]
    exact j9_n fu P (Or.inr (by rw [up2_e]; exact hcc))
  · rw [up2_i _ _ _ (by decide), up2_i _ _ _ (by decide), up2_i _ _ _ (by decide)]; exact k1
  · rw [up2_i _ _ _ (by decide), up2_e]
  · rw [up2_i _ _ _ (by decide), up2_i _ _ _ (by decide), up2_i _ _ _ (by decide)]
  · exact htk _ _ (by rw [up2_i _ _ _ (by decide), up2_i _ _ _ (by decide), up2_e]) (up2_e _ _ _ _) f8 f9
  · rw [up2_i _ _ _ (by decide), up2_i _ _ _ (by decide), up2_e]; decide
theorem FM3 (M : S32) (x y z : Int32) : FM M (up2 (up2 (up2 M 0 9 x) 0 7 y) 0 8 z) := (((FM.refl M).up _ (by omega)).up _ (by omega)).up _ (by omega)
theorem FM4 (M : S32) (x y z w : Int32) : FM M (up2 (up2 (up2 (up2 M 0 9 x) 0 7 y) 0 8 z) 0 9 w) := (FM3 M x y z).up _ (by omega)
theorem FM5 (M : S32) (x y y' z w : Int32) : FM M (up2 (up2 (up2 (up2 (up2 M 0 9 x) 0 7 y) 0 7 y') 0 8 z) 0 9 w) := (((((FM.refl M).up _ (by omega)).up _ (by omega)).up _ (by omega)).up _ (by omega)).up _ (by omega)
theorem sgn_q (fu : Nat) {P K M : S32} (v : S64) {e nx a : Nat} (hT : tpR P M e) (hx : nx < e) (k1 : K 0 1 = nI e) (k2 : K 0 2 = nI nx) (m6 : M 0 6 = nI e) (m7 : M 0 7 = nI nx) (hM : M 1 nx = nI a) (ha : a ≤ 255) : ∃ K' M' nx', f_X8_takeSign fu P K (P 1 nx) = some K' ∧ f_X12_signToken fu v M = some M' ∧ tkE K K' M M' e nx nx' := by
  have he := hT.1
  -- the sign behind
  have hb : ∃ r2 t0, f_X8_signAt fu K P (nI (nx + 1)) = some r2 ∧ (∀ x, f_X12_signToken_J50 fu v (up2 (up2 M 0 9 x) 0 7 (nI (nx + 1))) = f_X12_signToken_J74 fu v (up2 (up2 M 0 9 x) 0 7 (nI (nx + 1))) t0) ∧ (r2 = 61 ↔ t0 = 61) ∧ (r2 = 62 ↔ t0 = 62) ∧ (t0 = 61 ∨ t0 = 62 → nx + 2 ≤ e) := by
    by_cases z : nx + 1 < e
    · refine ⟨P 1 (nx + 1), M 1 (nx + 1), sg_in fu hT k1 z, fun x => ?_, ch_is hT z (c := 61) (by omega), ch_is hT z (c := 62) (by omega), fun _ => by omega⟩
      unfold f_X12_signToken_J50
      rw [up2_e, up2_i _ _ _ (show (6 : Nat) ≠ 7 by decide), up2_i _ _ _ (show (6 : Nat) ≠ 9 by decide), m6, if_neg (nI_ge z (by omega)), tx_ck_q (j := nx + 1) (by omega) (by omega), nI_clamp (n := nx + 1) (by omega), up2_n _ _ _ (show (1 : Nat) ≠ 0 by decide), up2_n _ _ _ (show (1 : Nat) ≠ 0 by decide)]
    · refine ⟨0, 0, sg_out fu P he k1 (by omega) (by omega), fun x => ?_, ⟨fun h => h, fun h => h⟩, ⟨fun h => h, fun h => h⟩, fun h => ?_⟩
      · unfold f_X12_signToken_J50
        rw [up2_e, up2_i _ _ _ (show (6 : Nat) ≠ 7 by decide), up2_i _ _ _ (show (6 : Nat) ≠ 9 by decide), m6, if_pos (nI_le (by omega) (by omega))]
      · rcases h with h | h
        · exact absurd h (by decide)
        · exact absurd h (by decide)
  obtain ⟨r2, t0, b1, b2, b3, b4, b5⟩ := hb
  rw [ts_q fu b1 k2, st_q fu v (by omega) m7 hM]
  have hPa : a < 128 → P 1 nx = nI a := fun h => ch_eq hT hx hM h
  by_cases z40 : a = 40
  · subst z40
    rw [hPa (by omega)]
    exact sg_1 fu (P := P) (K := K) (M := M) v (cc := 15) he hx k1 (fun _ => rfl) (by decide) (M' := up2 (up2 (up2 M 0 9 (nI 40)) 0 7 (nI (nx + 1))) 0 8 4) rfl rfl rfl rfl rfl (FM3 _ _ _ _) (fun K M h4 h5 h8 h9 => Or.inr (Or.inr (Or.inr (Or.inr (Or.inr (Or.inl ⟨h4, h8, Or.inr (Or.inl ⟨h5, h9⟩)⟩)))))) r2
  by_cases z41 : a = 41
  · subst z41
    rw [hPa (by omega)]
    exact sg_1 fu (P := P) (K := K) (M := M) v (cc := 16) he hx k1 (fun _ => rfl) (by decide) (M' := up2 (up2 (up2 M 0 9 (nI 41)) 0 7 (nI (nx + 1))) 0 8 4) rfl rfl rfl rfl rfl (FM3 _ _ _ _) (fun K M h4 h5 h8 h9 => Or.inr (Or.inr (Or.inr (Or.inr (Or.inr (Or.inl ⟨h4, h8, Or.inr (Or.inr (Or.inl ⟨h5, h9⟩))⟩)))))) r2
  by_cases z42 : a = 42
  · subst z42
    rw [hPa (by omega)]
    exact sg_1 fu (P := P) (K := K) (M := M) v (cc := 13) he hx k1 (fun _ => rfl) (by decide) (M' := up2 (up2 (up2 M 0 9 (nI 42)) 0 7 (nI (nx + 1))) 0 8 4) rfl rfl rfl rfl rfl (FM3 _ _ _ _) (fun K M h4 h5 h8 h9 => Or.inr (Or.inr (Or.inr (Or.inr (Or.inr (Or.inl ⟨h4, h8, Or.inr (Or.inr (Or.inr (Or.inr (Or.inr (Or.inl ⟨h5, h9⟩)))))⟩)))))) r2
  by_cases z43 : a = 43
  · subst z43
    rw [hPa (by omega)]
    exact sg_1 fu (P := P) (K := K) (M := M) v (cc := 11) he hx k1 (fun _ => rfl) (by decide) (M' := up2 (up2 (up2 M 0 9 (nI 43)) 0 7 (nI (nx + 1))) 0 8 4) rfl rfl rfl rfl rfl (FM3 _ _ _ _) (fun K M h4 h5 h8 h9 => Or.inr (Or.inr (Or.inr (Or.inr (Or.inr (Or.inl ⟨h4, h8, Or.inr (Or.inr (Or.inr (Or.inl ⟨h5, h9⟩)))⟩)))))) r2
  by_cases z45 : a = 45
  · subst z45
    rw [hPa (by omega)]
    exact sg_1 fu (P := P) (K := K) (M := M) v (cc := 12) he hx k1 (fun _ => rfl) (by decide) (M' := up2 (up2 (up2 M 0 9 (nI 45)) 0 7 (nI (nx + 1))) 0 8 4) rfl rfl rfl rfl rfl (FM3 _ _ _ _) (fun K M h4 h5 h8 h9 => Or.inr (Or.inr (Or.inr (Or.inr (Or.inr (Or.inl ⟨h4, h8, Or.inr (Or.inr (Or.inr (Or.inr (Or.inl ⟨h5, h9⟩))))⟩)))))) r2
  by_cases z47 : a = 47
  · subst z47
    rw [hPa (by omega)]
    exact sg_1 fu (P := P) (K := K) (M := M) v (cc := 14) he hx k1 (fun _ => rfl) (by decide) (M' := up2 (up2 (up2 M 0 9 (nI 47)) 0 7 (nI (nx + 1))) 0 8 4) rfl rfl rfl rfl rfl (FM3 _ _ _ _) (fun K M h4 h5 h8 h9 => Or.inr (Or.inr (Or.inr (Or.inr (Or.inr (Or.inl ⟨h4, h8, Or.inr (Or.inr (Or.inr (Or.inr (Or.inr (Or.inr (⟨h5, h9⟩))))))⟩)))))) r2
  by_cases z59 : a = 59
  · subst z59
    rw [hPa (by omega)]
    exact sg_1 fu (P := P) (K := K) (M := M) v (cc := 17) he hx k1 (fun _ => rfl) (by decide) (M' := up2 (up2 (up2 M 0 9 (nI 59)) 0 7 (nI (nx + 1))) 0 8 4) rfl rfl rfl rfl rfl (FM3 _ _ _ _) (fun K M h4 h5 h8 h9 => Or.inr (Or.inr (Or.inr (Or.inr (Or.inr (Or.inl ⟨h4, h8, Or.inl ⟨h5, h9⟩⟩)))))) r2
  have cmp : ∀ (K M : S32) (a : Nat), a < 6 → K 0 4 = 5 → K 0 5 = nI (5 + a) → M 0 8 = 5 → M 0 9 = nI a → TKr K M := fun K M a ha h4 h5 h8 h9 => Or.inr (Or.inr (Or.inr (Or.inr (Or.inr (Or.inr ⟨h4, h8, a, ha, h5, h9⟩)))))
  by_cases z61 : a = 61
  · subst z61
    rw [hPa (by omega)]
    exact sg_1 fu (P := P) (K := K) (M := M) v (cc := 7) he hx k1 (fun _ => rfl) (by decide) (M' := up2 (up2 (up2 (up2 M 0 9 (nI 61)) 0 7 (nI (nx + 1))) 0 8 5) 0 9 2) (by
      show f_X12_signToken_J50 fu v _ = _
      rw [b2]
      rfl) rfl rfl rfl rfl (FM4 _ _ _ _ _) (fun K M h4 h5 h8 h9 => cmp K M 2 (by omega) h4 h5 h8 h9) r2
  -- a sign of two bytes
  have two : ∀ (cc : Int32) (k : Nat) (x : Int32), cc = nI (5 + k) → k < 6 → (cc = 6 ∨ cc = 8 ∨ cc = 9) → nx + 2 ≤ e → tkE K (up2 (up2 (up2 (up2 K 0 4 5) 0 2 (nI (nx + 1))) 0 5 cc) 0 2 (nI (nx + 2))) M (up2 (up2 (up2 (up2 (up2 M 0 9 x) 0 7 (nI (nx + 1))) 0 7 (nI (nx + 2))) 0 8 5) 0 9 (nI k)) e nx (nx + 2) := by
    intro cc k x hcc hk hc2 h2
    refine ⟨by omega, h2, ?_, up2_e _ _ _ _, ?_, ?_, ?_, ?_, ?_, FM5 _ _ _ _ _ _⟩
    · rw [up2_i _ _ _ (by decide), up2_i _ _ _ (by decide), up2_i _ _ _ (by decide), up2_i _ _ _ (by decide)]; exact k1
    · rw [up2_i _ _ _ (by decide), up2_i _ _ _ (by decide), up2_i _ _ _ (by decide), up2_i _ _ _ (by decide)]
    · rw [up2_i _ _ _ (by decide), up2_i _ _ _ (by decide), up2_e]
    · rw [up2_i _ _ _ (by decide), up2_i _ _ _ (by decide), up2_i _ _ _ (by decide), up2_i _ _ _ (by decide), up2_i _ _ _ (by decide)]
    · refine cmp _ _ k hk ?_ ?_ ?_ (up2_e _ _ _ _)
      · rw [up2_i _ _ _ (by decide), up2_i _ _ _ (by decide), up2_i _ _ _ (by decide), up2_e]
      · rw [up2_i _ _ _ (by decide), up2_e]; exact hcc
      · rw [up2_i _ _ _ (by decide), up2_e]
    · rw [up2_i _ _ _ (by decide), up2_i _ _ _ (by decide), up2_i _ _ _ (by decide), up2_e]; decide
  have two_c : ∀ cc : Int32, (cc = 6 ∨ cc = 8 ∨ cc = 9) → f_X8_takeSign_J259 fu P (up2 (up2 (up2 K 0 4 5) 0 2 (nI (nx + 1))) 0 5 cc) = some (up2 (up2 (up2 (up2 K 0 4 5) 0 2 (nI (nx + 1))) 0 5 cc) 0 2 (nI (nx + 2))) := fun cc hc => j9_y fu P (by rw [up2_i _ _ _ (by decide), up2_i _ _ _ (by decide), up2_e]) (by rw [up2_e]; exact hc) (by rw [up2_i _ _ _ (by decide), up2_e])
  have two_m : ∀ x w2 w3, f_X12_signToken_J125 fu v (up2 (up2 M 0 9 x) 0 7 (nI (nx + 1))) w2 w3 = f_X12_signToken_J135 fu v (up2 (up2 (up2 M 0 9 x) 0 7 (nI (nx + 1))) 0 7 (nI (nx + 2))) w2 w3 := by
    intro x w2 w3
    unfold f_X12_signToken_J125
    rw [tx_let_q, up2_e, nI_1]
  by_cases z60 : a = 60
  · subst z60
    rw [hPa (by omega)]
    have S : stC fu v (up2 (up2 M 0 9 (nI 60)) 0 7 (nI (nx + 1))) = f_X12_signToken_J74 fu v (up2 (up2 M 0 9 (nI 60)) 0 7 (nI (nx + 1))) t0 := b2 (nI 60)
    have C : tsC fu P (up2 (up2 K 0 4 5) 0 2 (nI (nx + 1))) (nI 60) r2 = if r2 = 61 then f_X8_takeSign_J228 fu P (up2 (up2 K 0 4 5) 0 2 (nI (nx + 1))) 6 else if r2 = 62 then f_X8_takeSign_J228 fu P (up2 (up2 K 0 4 5) 0 2 (nI (nx + 1))) 8 else f_X8_takeSign_J228 fu P (up2 (up2 K 0 4 5) 0 2 (nI (nx + 1))) 5 := rfl
    by_cases y1 : t0 = 61
    · rw [C, if_pos (b3.mpr y1), S, y1]
      have R : f_X12_signToken_J74 fu v (up2 (up2 M 0 9 (nI 60)) 0 7 (nI (nx + 1))) 61 = f_X12_signToken_J125 fu v (up2 (up2 M 0 9 (nI 60)) 0 7 (nI (nx + 1))) 1 0 := rfl
      rw [R, two_m]
      refine ⟨_, _, nx + 2, two_c 6 (Or.inl rfl), rfl, two 6 1 (nI 60) rfl (by omega) (Or.inl rfl) (b5 (Or.inl y1))⟩
    · rw [C, if_neg (fun w => y1 (b3.mp w))]
      by_cases y2 : t0 = 62
      · rw [if_pos (b4.mpr y2), S, y2]
        have R : f_X12_signToken_J74 fu v (up2 (up2 M 0 9 (nI 60)) 0 7 (nI (nx + 1))) 62 = f_X12_signToken_J125 fu v (up2 (up2 M 0 9 (nI 60)) 0 7 (nI (nx + 1))) 0 1 := rfl
        rw [R, two_m]
        refine ⟨_, _, nx + 2, two_c 8 (Or.inr (Or.inl rfl)), rfl, two 8 3 (nI 60) rfl (by omega) (Or.inr (Or.inl rfl)) (b5 (Or.inr y2))⟩
      · rw [if_neg (fun w => y2 (b4.mp w))]
        have R : f_X12_signToken_J74 fu v (up2 (up2 M 0 9 (nI 60)) 0 7 (nI (nx + 1))) t0 = some (up2 (up2 (up2 (up2 M 0 9 (nI 60)) 0 7 (nI (nx + 1))) 0 8 5) 0 9 0) := by
          unfold f_X12_signToken_J74 f_X12_signToken_J94 f_X12_signToken_J95
          rw [if_neg y1, if_neg y2]
          rfl
        rw [S, R]
        refine ⟨_, _, nx + 1, (show f_X8_takeSign_J228 fu P (up2 (up2 K 0 4 5) 0 2 (nI (nx + 1))) 5 = some (up2 (up2 (up2 K 0 4 5) 0 2 (nI (nx + 1))) 0 5 5) from j9_n fu P (K := up2 (up2 (up2 K 0 4 5) 0 2 (nI (nx + 1))) 0 5 5) (Or.inr (by rw [up2_e]; decide))), rfl, by omega, by omega, ?_, ?_, ?_, rfl, rfl, ?_, ?_, FM4 _ _ _ _ _⟩
        · rw [up2_i _ _ _ (by decide), up2_i _ _ _ (by decide), up2_i _ _ _ (by decide)]; exact k1
        · rw [up2_i _ _ _ (by decide), up2_e]
        · rw [up2_i _ _ _ (by decide), up2_i _ _ _ (by decide), up2_i _ _ _ (by decide)]
        · exact cmp _ _ 0 (by omega) (by rw [up2_i _ _ _ (by decide), up2_i _ _ _ (by decide), up2_e]) (up2_e _ _ _ _) rfl rfl
        · rw [up2_i _ _ _ (by decide), up2_i _ _ _ (by decide), up2_e]; decide
  by_cases z62 : a = 62
  · subst z62
    rw [hPa (by omega)]
    have S : stC fu v (up2 (up2 M 0 9 (nI 62)) 0 7 (nI (nx + 1))) = f_X12_signToken_J74 fu v (up2 (up2 M 0 9 (nI 62)) 0 7 (nI (nx + 1))) t0 := b2 (nI 62)
    have C : tsC fu P (up2 (up2 K 0 4 5) 0 2 (nI (nx + 1))) (nI 62) r2 = if r2 = 61 then f_X8_takeSign_J248 fu P (up2 (up2 K 0 4 5) 0 2 (nI (nx + 1))) 9 else f_X8_takeSign_J248 fu P (up2 (up2 K 0 4 5) 0 2 (nI (nx + 1))) 10 := rfl
    by_cases y1 : t0 = 61
    · rw [C, if_pos (b3.mpr y1), S, y1]
      have R : f_X12_signToken_J74 fu v (up2 (up2 M 0 9 (nI 62)) 0 7 (nI (nx + 1))) 61 = f_X12_signToken_J125 fu v (up2 (up2 M 0 9 (nI 62)) 0 7 (nI (nx + 1))) 1 0 := rfl
      rw [R, two_m]
      refine ⟨_, _, nx + 2, two_c 9 (Or.inr (Or.inr rfl)), rfl, two 9 4 (nI 62) rfl (by omega) (Or.inr (Or.inr rfl)) (b5 (Or.inl y1))⟩
    · rw [C, if_neg (fun w => y1 (b3.mp w))]
      have R : f_X12_signToken_J74 fu v (up2 (up2 M 0 9 (nI 62)) 0 7 (nI (nx + 1))) t0 = some (up2 (up2 (up2 (up2 M 0 9 (nI 62)) 0 7 (nI (nx + 1))) 0 8 5) 0 9 5) := by
        unfold f_X12_signToken_J74
        rw [if_neg y1]
        rfl
      rw [S, R]
      refine ⟨_, _, nx + 1, (show f_X8_takeSign_J248 fu P (up2 (up2 K 0 4 5) 0 2 (nI (nx + 1))) 10 = some (up2 (up2 (up2 K 0 4 5) 0 2 (nI (nx + 1))) 0 5 10) from j9_n fu P (K := up2 (up2 (up2 K 0 4 5) 0 2 (nI (nx + 1))) 0 5 10) (Or.inr (by rw [up2_e]; decide))), rfl, by omega, by omega, ?_, ?_, ?_, rfl, rfl, ?_, ?_, FM4 _ _ _ _ _⟩
      · rw [up2_i _ _ _ (by decide), up2_i _ _ _ (by decide), up2_i _ _ _ (by decide)]; exact k1
      · rw [up2_i _ _ _ (by decide), up2_e]
      · rw [up2_i _ _ _ (by decide), up2_i _ _ _ (by decide), up2_i _ _ _ (by decide)]
      · exact cmp _ _ 5 (by omega) (by rw [up2_i _ _ _ (by decide), up2_i _ _ _ (by decide), up2_e]) (up2_e _ _ _ _) rfl rfl
      · rw [up2_i _ _ _ (by decide), up2_i _ _ _ (by decide), up2_e]; decide
  -- no sign of the language
  have ne : ∀ c : Nat, c < 128 → ¬ a = c → ¬ P 1 nx = nI c := fun c hc h w => by
    rw [ch_is hT hx hc, hM] at w
    exact h ((nI_eq (by omega) (by omega)).mp w)
  have C : tsC fu P (up2 (up2 K 0 4 5) 0 2 (nI (nx + 1))) (P 1 nx) r2 = f_X8_takeSign_J254 fu P (up2 (up2 K 0 4 5) 0 2 (nI (nx + 1))) := by
    unfold tsC
    rw [if_neg (show ¬ P 1 nx = (40 : Int32) from ne 40 (by omega) z40), if_neg (show ¬ P 1 nx = (41 : Int32) from ne 41 (by omega) z41), if_neg (show ¬ P 1 nx = (42 : Int32) from ne 42 (by omega) z42), if_neg (show ¬ P 1 nx = (43 : Int32) from ne 43 (by omega) z43), if_neg (show ¬ P 1 nx = (45 : Int32) from ne 45 (by omega) z45), if_neg (show ¬ P 1 nx = (47 : Int32) from ne 47 (by omega) z47), if_neg (show ¬ P 1 nx = (59 : Int32) from ne 59 (by omega) z59), if_neg (show ¬ P 1 nx = (60 : Int32) from ne 60 (by omega) z60), if_neg (show ¬ P 1 nx = (61 : Int32) from ne 61 (by omega) z61), if_neg (show ¬ P 1 nx = (62 : Int32) from ne 62 (by omega) z62)]
    simp only [ite_self]
  have C2 : f_X8_takeSign_J254 fu P (up2 (up2 K 0 4 5) 0 2 (nI (nx + 1))) = some (up2 (up2 (up2 K 0 4 5) 0 2 (nI (nx + 1))) 0 4 1) := by
    unfold f_X8_takeSign_J254
    rw [tx_let_q]
    exact j9_n fu P (Or.inl (by rw [up2_e]; decide))
  have fin : ∀ k8, (k8 = 6 ∨ (k8 = 4 ∧ a = 37)) → tkE K (up2 (up2 (up2 K 0 4 5) 0 2 (nI (nx + 1))) 0 4 1) M (up2 (up2 (up2 M 0 9 (nI a)) 0 7 (nI (nx + 1))) 0 8 k8) e nx (nx + 1) := by
    intro k8 hk
    refine ⟨by omega, by omega, ?_, ?_, ?_, ?_, ?_, ?_, ?_, FM3 _ _ _ _⟩
    · rw [up2_i _ _ _ (by decide), up2_i _ _ _ (by decide), up2_i _ _ _ (by decide)]; exact k1
    · rw [up2_i _ _ _ (by decide), up2_e]
    · rw [up2_i _ _ _ (by decide), up2_i _ _ _ (by decide), up2_i _ _ _ (by decide)]
    · rw [up2_i _ _ _ (by decide), up2_e]
    · rw [up2_i _ _ _ (by decide), up2_i _ _ _ (by decide), up2_i _ _ _ (by decide)]
    · refine Or.inr (Or.inl ⟨up2_e _ _ _ _, ?_⟩)
      rw [up2_e, up2_i _ _ _ (by decide), up2_i _ _ _ (by decide), up2_e]
      rcases hk with rfl | ⟨rfl, rfl⟩
      · exact Or.inl rfl
      · exact Or.inr ⟨rfl, rfl⟩
    · rw [up2_e]; decide
  rw [C, C2]
  by_cases z37 : a = 37
  · subst z37
    exact ⟨_, _, nx + 1, rfl, rfl, fin 4 (Or.inr ⟨rfl, rfl⟩)⟩
  · have n9 : (up2 (up2 M 0 9 (nI a)) 0 7 (nI (nx + 1))) 0 9 = nI a := by rw [up2_i _ _ _ (by decide), up2_e]
    have nn : ∀ c : Nat, c < 128 → ¬ a = c → ¬ nI a = nI c := fun c hc h w => h ((nI_eq (by omega) (by omega)).mp w)
    have R : stC fu v (up2 (up2 M 0 9 (nI a)) 0 7 (nI (nx + 1))) = some (up2 (up2 (up2 M 0 9 (nI a)) 0 7 (nI (nx + 1))) 0 8 6) := by
      unfold stC
      rw [n9, if_neg (show ¬ nI a = (60 : Int32) from nn 60 (by omega) z60), if_neg (show ¬ nI a = (62 : Int32) from nn 62 (by omega) z62), if_neg (show ¬ nI a = (61 : Int32) from nn 61 (by omega) z61), if_neg (show ¬ nI a = (59 : Int32) from nn 59 (by omega) z59), if_neg (show ¬ nI a = (40 : Int32) from nn 40 (by omega) z40), if_neg (show ¬ nI a = (41 : Int32) from nn 41 (by omega) z41), if_neg (show ¬ nI a = (43 : Int32) from nn 43 (by omega) z43), if_neg (show ¬ nI a = (45 : Int32) from nn 45 (by omega) z45), if_neg (show ¬ nI a = (42 : Int32) from nn 42 (by omega) z42), if_neg (show ¬ nI a = (47 : Int32) from nn 47 (by omega) z47), if_neg (show ¬ nI a = (37 : Int32) from nn 37 (by omega) z37)]
      rfl
    rw [R]
    exact ⟨_, _, nx + 1, rfl, rfl, fin 6 (Or.inl rfl)⟩
/-- tokens stand at the same place -/
def TK (P K M : S32) (e nx : Nat) : Prop := tpR P M e ∧ (∀ j, j < 105 → M 4 j = wd_X12_104 j) ∧ nx ≤ e ∧ K 0 1 = nI e ∧ K 0 2 = nI nx ∧ M 0 6 = nI e ∧ M 0 7 = nI nx
theorem adv_q (fu : Nat) (hf : 1000 ≤ fu) {P K M : S32} (v : S64) {e nx : Nat} (h : TK P K M e nx) : ∃ K' M' nx', f_X8_advance fu P K = some K' ∧ f_X12_token fu v M = some M' ∧ TK P K' M' e nx' ∧ K' 0 3 = M' 0 10 ∧ TKr K' M' ∧ FM M M' ∧ nx ≤ nx' ∧ (¬ K' 0 4 = 0 → nx < nx') := by
  obtain ⟨hT, h4, hne, k1, k2, m6, m7⟩ := h
  have he := hT.1
  obtain ⟨s, s1, s2, s3, s4⟩ := skip_q fu v (e - nx) nx K M fu fu (by omega) (by omega) (by omega) hT k1 k2 m6 m7
  have C : f_X8_advance fu P K = f_X8_advance_J50 fu P (up2 K 0 2 (nI s)) := s3
  have R : f_X12_token fu v M = f_X12_token_J52 fu v (up2 M 0 7 (nI s)) := s4
  obtain ⟨Ka, qK⟩ : ∃ Ka, Ka = up2 (up2 K 0 2 (nI s)) 0 3 (nI s) := ⟨_, rfl⟩
  obtain ⟨Ma, qM⟩ : ∃ Ma, Ma = up2 (up2 M 0 7 (nI s)) 0 10 (nI s) := ⟨_, rfl⟩
  have fmA : FM M Ma := by rw [qM]; exact ((FM.refl M).up _ (by omega)).up _ (by omega)
  have a1 : Ka 0 1 = nI e := by rw [qK, up2_i _ _ _ (by decide), up2_i _ _ _ (by decide)]; exact k1
  have a2 : Ka 0 2 = nI s := by rw [qK, up2_i _ _ _ (by decide), up2_e]
  have a3 : Ka 0 3 = nI s := by rw [qK, up2_e]
  have c6 : Ma 0 6 = nI e := (fmA.2 6 (by decide) (by decide) (by decide) (by decide)).trans m6
  have c7 : Ma 0 7 = nI s := by rw [qM, up2_i _ _ _ (by decide), up2_e]
  have c10 : Ma 0 10 = nI s := by rw [qM, up2_e]
  have hTa := hT.fm fmA
  have h4a : ∀ j, j < 105 → Ma 4 j = wd_X12_104 j := fun j hj => by rw [fmA.1 4 (by decide)]; exact h4 j hj
  have fin : ∀ K' M' nx', tkE Ka K' Ma M' e s nx' → TK P K' M' e nx' ∧ K' 0 3 = M' 0 10 ∧ TKr K' M' ∧ FM M M' ∧ nx ≤ nx' ∧ (¬ K' 0 4 = 0 → nx < nx') := by
    rintro K' M' nx' ⟨g1, g2, g3, g4, g5, g6, g7, g8, g9, g10⟩
    refine ⟨⟨hTa.fm g10, fun j hj => by rw [g10.1 4 (by decide)]; exact h4a j hj, g2, g3, g4, (g10.2 6 (by decide) (by decide) (by decide) (by decide)).trans c6, g6⟩, ?_, g8, fmA.trans g10, by omega, fun _ => by omega⟩
    rw [g5, g7, a3, c10]
  rw [C, R]
  unfold f_X8_advance_J50 f_X12_token_J52
  rw [tx_let_q (up2 (up2 K 0 2 (nI s)) 0 3 ((up2 K 0 2 (nI s)) 0 2)), tx_let_q (up2 (up2 M 0 7 (nI s)) 0 10 ((up2 M 0 7 (nI s)) 0 7)), up2_e, up2_e, ← qK, ← qM, a1, a2, c6, c7]
  by_cases z : s = e
  · subst z
    rw [sg_out fu P he a1 (Nat.le_refl _) (by omega), tx_b1_q, if_neg (nI_nlt (Nat.le_refl _) (by omega)), if_pos rfl, tx_let_q, tx_let_q]
    refine ⟨_, _, s, rfl, rfl, ⟨hTa.fm ((FM.refl Ma).up _ (by omega)), fun j hj => by rw [up2_n _ _ _ (by decide)]; exact h4a j hj, Nat.le_refl _, ?_, ?_, ?_, ?_⟩, ?_, Or.inl ⟨up2_e _ _ _ _, up2_e _ _ _ _⟩, fmA.up _ (by omega), s1, fun h => absurd (up2_e _ _ _ _) h⟩
    · rw [up2_i _ _ _ (by decide)]; exact a1
    · rw [up2_i _ _ _ (by decide)]; exact a2
    · rw [up2_i _ _ _ (by decide)]; exact c6
    · rw [up2_i _ _ _ (by decide)]; exact c7
    · rw [up2_i _ _ _ (by decide), up2_i _ _ _ (by decide), a3, c10]
  · have hs : s < e := by omega
    obtain ⟨c, hc, hM1, hP1⟩ := ch_q hTa hs
    obtain ⟨l1, l2⟩ := let_q fu v hTa c6 hs hM1 hc
    obtain ⟨d1, d2⟩ := dig_q fu v hTa c6 hs hM1 hc
    rw [sg_in fu hTa a1 hs, tx_b1_q, if_pos (nI_lt hs (by omega)), if_neg (fun w => z ((nI_eq (by omega) (by omega)).mp w)), l1, l2, tx_b1_q, tx_b1_q]
    by_cases y1 : 97 ≤ c ∧ c ≤ 122
    · obtain ⟨K', M', nx', w1, w2, w3⟩ := wtk_q fu hf v hTa h4a hs a1 a2 a3 c6 c7 c10 hM1 y1.1 y1.2
      rw [if_pos y1, if_neg one_ne, if_neg one_ne, w1, w2, tx_b1_q]
      exact ⟨K', M', nx', rfl, rfl, fin K' M' nx' w3⟩
    · rw [if_neg y1, if_pos rfl, if_pos rfl, d1, d2, tx_b1_q, tx_b1_q]
      by_cases y2 : 48 ≤ c ∧ c ≤ 57
      · rw [if_pos y2, if_neg one_ne, if_neg one_ne, tx_let_q, tx_let_q]
        unfold f_X8_takeNumber
        rw [tx_let_q, tx_let_q]
        have fmN : FM Ma (up2 (up2 Ma 0 8 3) 0 9 0) := ((FM.refl Ma).up _ (by omega)).up _ (by omega)
        obtain ⟨K', M', nx', n1, n2, n3, n4, n5, n6, n7, n8, n9, n10, n11, n12, n13, n14⟩ := num_q fu v (e := e) (e - s) s (up2 (up2 Ka 0 4 2) 0 5 0) (up2 (up2 Ma 0 8 3) 0 9 0) fu fu (by omega) (by omega) (by omega) (hTa.fm fmN) (by rw [up2_i _ _ _ (by decide), up2_i _ _ _ (by decide)]; exact a1) (by rw [up2_i _ _ _ (by decide), up2_i _ _ _ (by decide)]; exact a2) (by rw [up2_i _ _ _ (by decide), up2_i _ _ _ (by decide)]; exact c6) (by rw [up2_i _ _ _ (by decide), up2_i _ _ _ (by decide)]; exact c7) (by rw [up2_e, up2_e]; exact ⟨0, 0, rfl, rfl, by omega, by omega, Or.inl rfl⟩)
        rw [n1, n2, tx_b1_q]
        have hlt : s < nx' := n14 c hs (by rw [up2_n _ _ _ (by decide), up2_n _ _ _ (by decide)]; exact hM1) y2.1 y2.2
        have k4 : K' 0 4 = 2 := by rw [n8, up2_i _ _ _ (by decide), up2_e]
        refine ⟨K', M', nx', rfl, rfl, fin K' M' nx' ⟨hlt, n4, n5, n6, ?_, n9, ?_, Or.inr (Or.inr (Or.inl ⟨k4, ?_, n12⟩)), by rw [k4]; decide, fmN.trans n13⟩⟩
        · rw [n7, up2_i _ _ _ (by decide), up2_i _ _ _ (by decide)]
        · rw [n11, up2_i _ _ _ (by decide), up2_i _ _ _ (by decide)]
        · rw [n10, up2_i _ _ _ (by decide), up2_e]
      · rw [if_neg y2, if_pos rfl, if_pos rfl]
        obtain ⟨K', M', nx', w1, w2, w3⟩ := sgn_q fu v hTa hs a1 a2 c6 c7 hM1 hc
        rw [w1, w2, tx_b1_q, tx_b1_q]
        exact ⟨K', M', nx', rfl, rfl, fin K' M' nx' w3⟩
