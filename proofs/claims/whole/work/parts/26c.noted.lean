/-! what is found, struck, counted, fed -/
theorem fd_new {F M : S32} {nt n : Nat} (h : fdOK F M nt) (hn : F 0 5 = nI n) (hlt : n < 24) {F' M' : S32} (f5 : F' 0 5 = nI (n + 1)) (m71 : M' 0 71 = nI (n + 1)) (f6 : F' 0 6 = F 0 6) (m72 : M' 0 72 = M 0 72)
    (hF : ∀ r i, 1 ≤ r → r ≤ 4 → i ≠ n → F' r i = F r i) (hM : ∀ j, j < 3 * n → M' 74 j = M 74 j)
    (hnew : (∃ g, g < n ∧ F' 4 n = nI g ∧ M' 74 (3 * n) = -1 ∧ M' 74 (3 * n + 1) = nI g) ∨ (F' 4 n = -1 ∧ (∃ w, 1 ≤ w ∧ w ≤ 40 ∧ F' 1 n = nI w ∧ M' 74 (3 * n) = nI w) ∧ (∃ t, t < nt ∧ F' 2 n = nI t ∧ M' 74 (3 * n + 1) = nI t) ∧ (F' 3 n = 0 ∨ F' 3 n = 1) ∧ M' 74 (3 * n + 2) = F' 3 n)) : fdOK F' M' nt := by
  obtain ⟨n', g1, g2, g3, g4, g5, g6⟩ := h
  have en : n' = n := (nI_eq (by omega) (by omega)).mp (g2.symm.trans hn)
  subst en
  refine ⟨n' + 1, by omega, f5, m71, ?_, ?_, ?_⟩
  · rw [f6, m72]; exact g4
  · rw [f6]
    rcases g5 with e | ⟨a, ha, e⟩
    · exact Or.inl e
    · exact Or.inr ⟨a, by omega, e⟩
  · intro i hi
    by_cases e : i = n'
    · subst e
      exact hnew
    · rw [hF 1 i (by omega) (by omega) e, hF 2 i (by omega) (by omega) e, hF 3 i (by omega) (by omega) e, hF 4 i (by omega) (by omega) e, hM (3 * i) (by omega), hM (3 * i + 1) (by omega), hM (3 * i + 2) (by omega)]
      exact g6 i (by omega)
theorem rl74 (i : Nat) : rl 74 i = true := by simp [rl]
theorem noted_q (fu : Nat) (v : S64) {M : S32} {n : Nat} (h : M 0 71 = nI n) (hn : n < 24) (x1 x2 x3 : Int32) : f_X12_noted fu v M x1 x2 x3 = some (nI n, up2 (up2 (up2 (up2 M 74 (3 * n) x1) 74 (3 * n + 1) x2) 74 (3 * n + 2) x3) 0 71 (nI (n + 1))) := by
  unfold f_X12_noted
  have e3 : (3 : Int32) * nI n = nI (3 * n) := pk_mul 3 n
  have e2 : nI (3 * n) + (2 : Int32) = nI (3 * n + 2) := nI_add (3 * n) 2
  have c1 := fun k : Option (Int32 × S32) => tx_ck_q (j := 3 * n) (n := 72) (by omega) (by omega) k
  have c2 := fun k : Option (Int32 × S32) => tx_ck_q (j := 3 * n + 1) (n := 72) (by omega) (by omega) k
  have c3 := fun k : Option (Int32 × S32) => tx_ck_q (j := 3 * n + 2) (n := 72) (by omega) (by omega) k
  rw [h, e3, c1, tx_let_q, nI_clamp (n := 3 * n) (by omega), up2_n _ _ _ (show (0 : Nat) ≠ 74 by decide), h, e3, nI_1, c2, tx_let_q, nI_clamp (n := 3 * n + 1) (by omega), up2_n _ _ _ (show (0 : Nat) ≠ 74 by decide), up2_n _ _ _ (show (0 : Nat) ≠ 74 by decide), h, e3, e2, c3, tx_let_q, nI_clamp (n := 3 * n + 2) (by omega), up2_n _ _ _ (show (0 : Nat) ≠ 74 by decide), up2_n _ _ _ (show (0 : Nat) ≠ 74 by decide), up2_n _ _ _ (show (0 : Nat) ≠ 74 by decide), h, nI_1, tx_let_q, up2_e, nI_pred]
theorem room_q (fu : Nat) {F : S32} {n : Nat} (h : F 0 5 = nI n) (hn : n ≤ 24) : f_X2_hasRoom fu F = some (if n = 24 then 0 else 1) := by
  unfold f_X2_hasRoom
  rw [h, if_neg (nI_pos (n := n) (by omega))]
  by_cases e : n = 24
  · rw [if_pos e, if_pos (show (24 : Int32) ≤ nI n from nI_le (a := 24) (by omega) (by omega))]
  · rw [if_neg e, if_neg (show ¬ (24 : Int32) ≤ nI n from nI_ge (b := 24) (by omega) (by omega))]
theorem RR_Ft {k q : Nat → Nat} {U : Nat → S32} {V : Nat → S64} (hR : RR k q U V) : RR k q (va_up (va_up U 4 (U 4)) 19 (up2 (U 19) 0 2 0)) V :=
  RR_F hR (fun r h1 _ => pj_row _ _ h1) (fun i _ _ => congrFun (congrFun (pj_thrown (U 19) 0) 0) i) (fun nt h _ => by rw [pj_thrown]; exact h)
theorem noted_pj {M M1 : S32} (hM : ∀ r, r ≠ 0 → M1 r = M r) (h0 : ∀ i, i ≠ 2 → M1 0 i = M 0 i) (n : Nat) (x1 x2 x3 y : Int32) : (∀ r, r ≠ 0 → r ≠ 74 → pj (up2 (up2 (up2 (up2 M1 74 (3 * n) x1) 74 (3 * n + 1) x2) 74 (3 * n + 2) x3) 0 71 y) r = pj M r) ∧ (∀ i, i ≠ 71 → i ≠ 72 → pj (up2 (up2 (up2 (up2 M1 74 (3 * n) x1) 74 (3 * n + 1) x2) 74 (3 * n + 2) x3) 0 71 y) 0 i = pj M 0 i) ∧ pj (up2 (up2 (up2 (up2 M1 74 (3 * n) x1) 74 (3 * n + 1) x2) 74 (3 * n + 2) x3) 0 71 y) 0 71 = y ∧ pj (up2 (up2 (up2 (up2 M1 74 (3 * n) x1) 74 (3 * n + 1) x2) 74 (3 * n + 2) x3) 0 71 y) 0 72 = pj M 0 72 := by
  refine ⟨?_, ?_, ?_, ?_⟩
  · intro r h1 h2
    rw [pj_row _ _ h1, pj_row _ _ h2, pj_row _ _ h2, pj_row _ _ h2]
    funext i
    unfold pj
    rw [hM r h1]
  · intro i h1 h2
    rw [pj_f _ _ h1, pj_row _ _ (by decide), pj_row _ _ (by decide), pj_row _ _ (by decide)]
    unfold pj
    by_cases e : i = 2
    · subst e; rfl
    · rw [h0 i e]
  · exact pj_e _ _ (by decide)
  · rw [pj_f _ _ (by decide), pj_row _ _ (by decide), pj_row _ _ (by decide), pj_row _ _ (by decide)]
    unfold pj
    rw [h0 72 (by decide)]
theorem noted_74 {M M1 : S32} (hM : ∀ r, r ≠ 0 → M1 r = M r) (n : Nat) (x1 x2 x3 y : Int32) : (∀ j, j < 3 * n → pj (up2 (up2 (up2 (up2 M1 74 (3 * n) x1) 74 (3 * n + 1) x2) 74 (3 * n + 2) x3) 0 71 y) 74 j = pj M 74 j) ∧ pj (up2 (up2 (up2 (up2 M1 74 (3 * n) x1) 74 (3 * n + 1) x2) 74 (3 * n + 2) x3) 0 71 y) 74 (3 * n) = x1 ∧ pj (up2 (up2 (up2 (up2 M1 74 (3 * n) x1) 74 (3 * n + 1) x2) 74 (3 * n + 2) x3) 0 71 y) 74 (3 * n + 1) = x2 ∧ pj (up2 (up2 (up2 (up2 M1 74 (3 * n) x1) 74 (3 * n + 1) x2) 74 (3 * n + 2) x3) 0 71 y) 74 (3 * n + 2) = x3 := by
  refine ⟨?_, ?_, ?_, ?_⟩
  · intro j hj
    rw [pj_in (rl74 j), pj_in (rl74 j), up2_n _ _ _ (by decide), up2_i _ _ _ (by omega), up2_i _ _ _ (by omega), up2_i _ _ _ (by omega), hM 74 (by decide)]
  · rw [pj_in (rl74 _), up2_n _ _ _ (by decide), up2_i _ _ _ (by omega), up2_i _ _ _ (by omega), up2_e]
  · rw [pj_in (rl74 _), up2_n _ _ _ (by decide), up2_i _ _ _ (by omega), up2_e]
  · rw [pj_in (rl74 _), up2_n _ _ _ (by decide), up2_e]
theorem thr_M (M : S32) : (∀ r, r ≠ 0 → (up2 M 0 2 0) r = M r) ∧ (∀ i, i ≠ 2 → (up2 M 0 2 0) 0 i = M 0 i) := ⟨fun r h => up2_n _ _ _ h, fun i h => up2_i _ _ _ h⟩
theorem sp34 (fu : Nat) : SP34 RR fu := by
  intro k q U V y1 hR
  obtain ⟨n, hn, f5, m5, f6, hl⟩ := RR_FD hR
  unfold f_X11_strike f_X12_strike f_X12_strike_J26
  rw [tx_let_q, m5, f5, room_q fu f5 hn, tx_b1_q]
  by_cases a1 : y1 < 0
  · rw [if_pos a1, if_pos a1]
    by_cases e : nI n = (24 : Int32)
    · rw [if_pos e]; exact ⟨_, _, _, rfl, rfl, RR_Ft hR⟩
    · rw [if_neg e]; exact ⟨_, _, _, rfl, rfl, RR_Ft hR⟩
  rw [if_neg a1, if_neg a1]
  by_cases a2 : nI n ≤ y1
  · rw [if_pos a2, if_neg (Int32.not_lt.mpr a2)]
    by_cases e : nI n = (24 : Int32)
    · rw [if_pos e]; exact ⟨_, _, _, rfl, rfl, RR_Ft hR⟩
    · rw [if_neg e]; exact ⟨_, _, _, rfl, rfl, RR_Ft hR⟩
  rw [if_neg a2, if_pos (Int32.not_le.mp a2)]
  by_cases e : n = 24
  · subst e
    rw [if_pos rfl, if_pos rfl, if_pos (show nI 24 = (24 : Int32) from rfl)]
    exact ⟨_, _, _, rfl, rfl, RR_Ft hR⟩
  have e' : ¬ nI n = (24 : Int32) := fun z => e ((nI_eq (b := 24) (by omega) (by omega)).mp z)
  have hlt : n < 24 := by omega
  obtain ⟨j, hj, rfl⟩ := nI_of a1
  have hjn : j < n := by
    rcases Nat.lt_or_ge j n with h | h
    · exact h
    · exact absurd (nI_le h hj) a2
  rw [if_neg e, if_neg one_ne, if_neg e', noted_q fu _ m5 hlt, tx_b2_q]
  unfold f_X2_noteStrike
  have ck := fun k : Option (Int32 × S32) => tx_ck_q (j := n) (n := 24) hlt (by omega) k
  rw [room_q fu f5 hn, tx_b1_q, if_neg e, if_neg one_ne, f5, ck, tx_let_q, tx_let_q, nI_clamp (n := n) (by omega), up2_e, up2_n _ _ _ (show (0 : Nat) ≠ 4 by decide), f5, nI_1, nI_pred, tx_b2_q]
  refine ⟨_, _, _, rfl, rfl, ?_⟩
  obtain ⟨p1, p2, p3, p4⟩ := noted_pj (thr_M (U 19)).1 (thr_M (U 19)).2 n (-1) (nI j) 0 (nI (n + 1))
  obtain ⟨q1, q2, q3, q4⟩ := noted_74 (thr_M (U 19)).1 n (-1) (nI j) 0 (nI (n + 1))
  refine RR_F hR p1 p2 (fun nt h hnt => ?_)
  refine fd_new h f5 hlt (up2_e _ _ _ _) p3 (by rw [up2_i _ _ _ (by decide), up2_n _ _ _ (by decide)]) p4 ?_ q1 (Or.inl ⟨j, hjn, ?_, q2, q3⟩)
  · intro r i h1 h2 h3
    rw [up2_n _ _ _ (by omega)]
    by_cases h4 : r = 4
    · subst h4; rw [up2_i _ _ _ h3]
    · rw [up2_n _ _ _ h4]
  · rw [up2_n _ _ _ (by decide), up2_e]
theorem RR_F2 {k q : Nat → Nat} {U : Nat → S32} {V : Nat → S64} {F' M' : S32} (hR : RR k q U V) (hr : ∀ r, r ≠ 0 → r ≠ 74 → pj M' r = pj (U 19) r) (h0 : ∀ i, i ≠ 71 → i ≠ 72 → pj M' 0 i = pj (U 19) 0 i) (hF : ∀ nt, U 2 0 5 = nI nt → fdOK (U 4) (pj (U 19)) nt → nt ≤ 12 → fdOK F' (pj M') nt) : RR k q (va_up (va_up U 4 F') 19 M') V := by
  obtain ⟨np, nt, nr, ⟨hb, hbi, hlw⟩, ⟨hw, hwi, hwb, hst, hnb⟩, ⟨ht, hz, hwo⟩, hfd, him, hud⟩ := hR
  refine ⟨np, nt, nr, ⟨hb.c (fun r h1 h2 => hr r (by omega) (by omega)) (h0 _ (by decide) (by decide)) (h0 _ (by decide) (by decide)) (h0 _ (by decide) (by decide)), hbi, hlw.c (fun r h1 h2 => hr r (by omega) (by omega)) (h0 _ (by decide) (by decide))⟩, ⟨hw.c (fun r h1 h2 => hr r (by omega) (by omega)), hwi, hwb, ?_, hnb⟩, ⟨ht.c (h0 _ (by decide) (by decide)) (hr _ (by decide) (by decide)), ?_, ?_⟩, hF nt hb.2.2.1.1 hfd hb.1.2.1, him.c (h0 _ (by decide) (by decide)) (hr _ (by decide) (by decide)) (hr _ (by decide) (by decide)), hud.c (h0 _ (by decide) (by decide)) (hr _ (by decide) (by decide))⟩
  · intro t h
    show U 1 11 t = pj M' 50 t
    rw [hr 50 (by decide) (by decide)]
    exact hst t h
  · show U 12 0 2 = pj M' 0 4 ∧ U 12 0 3 = pj M' 0 5
    rw [h0 4 (by decide) (by decide), h0 5 (by decide) (by decide)]
    exact hz
  · intro j hj
    show pj M' 4 j = _
    rw [hr 4 (by decide) (by decide)]
    exact hwo j hj
theorem find_q (fu : Nat) (x3 : Int32) (hx : x3 = 0 ∨ x3 = 1) {k q : Nat → Nat} {U : Nat → S32} {V : Nat → S64} (y1 y2 : Int32) (hR : RR k q U V) : ∃ (r : Int32) (zu_F : S32) (zu_M : S32), f_X11_find fu (U 0) (U 2) (U 4) y1 y2 x3 = some (r, zu_F) ∧ f_X12_find fu (V 19) (U 19) y1 y2 x3 = some (r, zu_M) ∧ RR k q (va_up (va_up U 4 zu_F) 19 zu_M) V := by
  obtain ⟨n, hn, f5, m5, f6, hl⟩ := RR_FD hR
  obtain ⟨np, nt, nr, ⟨hb, -, -⟩, -⟩ := id hR
  have hnt := hb.1.2.1
  have b5 := hb.2.2.1.1
  have m13 : (up2 (U 19) 0 2 0) 0 13 = nI nt := by rw [up_t _ (by decide)]; exact hb.2.2.1.2
  have bad : ∃ (r : Int32) (zu_F : S32) (zu_M : S32), (some ((-1 : Int32), U 4) : Option (Int32 × S32)) = some (r, zu_F) ∧ (some ((-1 : Int32), up2 (U 19) 0 2 0) : Option (Int32 × S32)) = some (r, zu_M) ∧ RR k q (va_up (va_up U 4 zu_F) 19 zu_M) V := ⟨_, _, _, rfl, rfl, RR_Ft hR⟩
  unfold f_X11_find f_X12_find f_X12_find_J32 f_X12_find_J48
  rw [tx_let_q, m5, room_q fu f5 hn, tx_b1_q]
  by_cases e : n = 24
  · subst e
    rw [if_pos rfl, if_pos rfl, if_pos (show nI 24 = (24 : Int32) from rfl)]
    by_cases a1 : y1 < 1
    · rw [if_pos a1]; exact bad
    rw [if_neg a1]
    by_cases a2 : 40 < y1
    · rw [if_pos a2]; exact bad
    rw [if_neg a2]
    rcases s_cThought fu (U 2) b5 hnt y2 with ⟨-, e1⟩ | ⟨-, e1⟩
    · rw [e1, tx_b1_q, if_neg one_ne]; exact bad
    · rw [e1, tx_b1_q, if_pos rfl]; exact bad
  have e' : ¬ nI n = (24 : Int32) := fun z => e ((nI_eq (b := 24) (by omega) (by omega)).mp z)
  have hlt : n < 24 := by omega
  rw [if_neg e, if_neg one_ne, if_neg e']
  by_cases a1 : y1 < 1
  · rw [if_pos a1, isIn_f fu (Or.inl a1)]; exact bad
  rw [if_neg a1]
  by_cases a2 : 40 < y1
  · rw [if_pos a2, isIn_f fu (Or.inr a2)]; exact bad
  rw [if_neg a2, isIn_t fu a1 a2, tx_b1_q, if_neg one_ne]
  rcases t_thought fu (U 2) (up2 (U 19) 0 2 0) (V 19) b5 m13 hnt y2 with ⟨t, ht, rfl, e1, e2⟩ | ⟨e1, e2⟩
  rotate_left
  · rw [e1, e2]; exact bad
  rw [e1, e2, tx_b1_q, tx_b1_q, if_neg one_ne, if_neg one_ne]
  have hx3 : (if x3 = 0 then tx_b2 (f_X12_noted fu (V 19) (up2 (U 19) 0 2 0) y1 (nI t) 0) (fun (r_11 : Int32) (u_T_12 : S32) => some (r_11, u_T_12)) else tx_b2 (f_X12_noted fu (V 19) (up2 (U 19) 0 2 0) y1 (nI t) 1) (fun (r_11 : Int32) (u_T_12 : S32) => some (r_11, u_T_12))) = tx_b2 (f_X12_noted fu (V 19) (up2 (U 19) 0 2 0) y1 (nI t) x3) (fun (r_11 : Int32) (u_T_12 : S32) => some (r_11, u_T_12)) := by
    rcases hx with rfl | rfl
    · rw [if_pos rfl]
    · rw [if_neg one_ne]
  have hx1 : x3 &&& 1 = x3 := by rcases hx with rfl | rfl <;> rfl
  have a0 : ¬ y1 < 0 := fun z => a1 (Int32.lt_trans z (by decide))
  obtain ⟨w, hw, rfl⟩ := nI_of2 (n := 40) (M := 40) rfl a0 (Int32.not_lt.mp a2)
  have hw1 : 1 ≤ w := by
    rcases Nat.eq_zero_or_pos w with h | h
    · subst h; exact absurd (by decide) a1
    · exact h
  rw [hx3, noted_q fu _ m5 hlt, tx_b2_q]
  unfold f_X2_noteReading
  have ck := fun k : Option (Int32 × S32) => tx_ck_q (j := n) (n := 24) hlt (by omega) k
  have z1 := fun (F : S32) (i : Nat) (x : Int32) => congrFun (up2_n F (r := 1) (q := 0) i x (by decide)) 5
  have z2 := fun (F : S32) (i : Nat) (x : Int32) => congrFun (up2_n F (r := 2) (q := 0) i x (by decide)) 5
  have z3 := fun (F : S32) (i : Nat) (x : Int32) => congrFun (up2_n F (r := 3) (q := 0) i x (by decide)) 5
  have z4 := fun (F : S32) (i : Nat) (x : Int32) => congrFun (up2_n F (r := 4) (q := 0) i x (by decide)) 5
  rw [room_q fu f5 hn, tx_b1_q, if_neg e, if_neg one_ne, f5, ck, tx_let_q, nI_clamp (n := n) (by omega), z1, f5, ck, tx_let_q, nI_clamp (n := n) (by omega), z2, z1, f5, ck, tx_let_q, nI_clamp (n := n) (by omega), z3, z2, z1, f5, ck, tx_let_q, nI_clamp (n := n) (by omega), z4, z3, z2, z1, f5, tx_let_q, up2_e, nI_1, nI_pred, tx_b2_q, hx1]
  refine ⟨_, _, _, rfl, rfl, ?_⟩
  obtain ⟨p1, p2, p3, p4⟩ := noted_pj (thr_M (U 19)).1 (thr_M (U 19)).2 n (nI w) (nI t) x3 (nI (n + 1))
  obtain ⟨q1, q2, q3, q4⟩ := noted_74 (thr_M (U 19)).1 n (nI w) (nI t) x3 (nI (n + 1))
  refine RR_F2 hR p1 p2 (fun nt' hb5 h hnt' => ?_)
  have h13 : nt' = nt → fdOK (up2 (up2 (up2 (up2 (up2 (U 4) 1 n (nI w)) 2 n (nI t)) 3 n x3) 4 n (-1)) 0 5 (nI (n + 1))) (pj (up2 (up2 (up2 (up2 (up2 (U 19) 0 2 0) 74 (3 * n) (nI w)) 74 (3 * n + 1) (nI t)) 74 (3 * n + 2) x3) 0 71 (nI (n + 1)))) nt' := by
    rintro rfl
    refine fd_new h f5 hlt (up2_e _ _ _ _) p3 ?_ p4 ?_ q1 (Or.inr ⟨?_, ⟨w, hw1, hw, ?_, q2⟩, ⟨t, ht, ?_, q3⟩, ?_, ?_⟩)
    · rw [up2_i _ _ _ (by decide), up2_n _ _ _ (by decide), up2_n _ _ _ (by decide), up2_n _ _ _ (by decide), up2_n _ _ _ (by decide)]
    · intro r i h1 h2 h3
      rw [up2_a, if_neg (by omega), up2_a, if_neg (by omega), up2_a, if_neg (by omega), up2_a, if_neg (by omega), up2_a, if_neg (by omega)]
    · rw [up2_n _ _ _ (by decide), up2_e]
    · rw [up2_n _ _ _ (by decide), up2_n _ _ _ (by decide), up2_n _ _ _ (by decide), up2_n _ _ _ (by decide), up2_e]
    · rw [up2_n _ _ _ (by decide), up2_n _ _ _ (by decide), up2_n _ _ _ (by decide), up2_e]
    · rw [up2_n _ _ _ (by decide), up2_n _ _ _ (by decide), up2_e]; exact hx
    · rw [q4, up2_n _ _ _ (by decide), up2_n _ _ _ (by decide), up2_e]
  exact h13 ((nI_eq (by omega) (by omega)).mp (hb5.symm.trans b5))
theorem sp33t (fu : Nat) : SP33t RR fu := fun _ _ _ _ y1 y2 _ hR _ => find_q fu 1 (Or.inr rfl) y1 y2 hR
theorem sp33f (fu : Nat) : SP33f RR fu := fun _ _ _ _ y1 y2 _ hR _ => find_q fu 0 (Or.inl rfl) y1 y2 hR
theorem known_q (fu : Nat) (v : S64) {F M : S32} {n : Nat} (hn : n ≤ 24) (f5 : F 0 5 = nI n) (m5 : M 0 71 = nI n) (f6 : F 0 6 = M 0 72) (hl : F 0 6 = -1 ∨ ∃ a, a ≤ n ∧ F 0 6 = nI a) : ∃ c, c ≤ n ∧ f_X2_knownBy fu F = some (nI c) ∧ f_X12_knownBy fu M v = some (nI c) := by
  unfold f_X2_knownBy f_X12_knownBy
  rw [← f6, f5, m5]
  rcases hl with e | ⟨a, ha, e⟩
  · rw [e, if_pos rfl, if_neg (by decide)]
    exact ⟨n, Nat.le_refl _, rfl, rfl⟩
  · rw [e, if_neg (m1_ne (by omega)), if_neg (nI_nlt ha (by omega)), if_pos (nI_pos' (by omega))]
    exact ⟨a, ha, rfl, rfl⟩
theorem sp42 (fu : Nat) (hf : 1000 ≤ fu) : SP42 RR fu := by
  intro k q U V y1 hR
  obtain ⟨n, hn, f5, m71, f6, hl⟩ := RR_FD hR
  obtain ⟨np, nt, nr, ⟨hnp, hnt, hnr⟩, ⟨b1, m1⟩, ⟨b5, m5⟩, ⟨b10, m10⟩, hbp, hbt, hbr, hb0, hwp, hwt, hwr, hw0, hbi, hwi⟩ := RR_PL hR
  have hl2 : U 17 0 5 = (up2 (U 19) 0 2 0) 0 15 := by
    obtain ⟨_, _, _, ⟨-, -, ⟨n, -, h1, h2, -⟩⟩, -⟩ := id hR
    rw [up_t _ (by decide), h1]
    exact h2.symm
  have hd : U 5 0 3 = (up2 (U 19) 0 2 0) 0 75 := by
    obtain ⟨_, _, _, -, -, -, -, -, ⟨n, -, h1, h2, -⟩⟩ := id hR
    rw [up_t _ (by decide), h1]
    exact h2.symm
  obtain ⟨c, hc, kb1, kb2⟩ := known_q fu (V 19) hn f5 m71 f6 hl
  have w0 : (up2 (U 19) 0 2 0) 58 ((0 : Int32).toNatClampNeg) = U 1 0 2 := hw0.1.symm
  have w1 : (up2 (U 19) 0 2 0) 59 ((0 : Int32).toNatClampNeg) = U 1 0 1 := hw0.2.symm
  have s1 : f_X12_paidAll fu (up2 (U 19) 0 2 0) (V 19) 0 = some (sP (U 1) np) := m_sP fu hf (V 19) (b := 0) m1 hnp (by omega) (fun p hp => by rw [Nat.mul_zero, Nat.zero_add]; exact (hwp p hp).2.1)
  have s2 : f_X12_owedAll fu (up2 (U 19) 0 2 0) (V 19) 0 = some (sO (U 1) np) := m_sO fu hf (V 19) (b := 0) m1 hnp (by omega) (fun p hp => by rw [Nat.mul_zero, Nat.zero_add]; exact (hwp p hp).2.2.1)
  have ar : ∀ x, f_X12_are fu (up2 (U 19) 0 2 0) (V 19) 0 x = f_X10_countOf fu (U 1) (U 2) x := by
    intro x
    have e : f_X12_are fu (up2 (U 19) 0 2 0) (V 19) 0 x = _ := s_are fu hf m5 hnt (b := 0) (by omega) x
    rw [e, s_count fu hf b5 hnt x]
    congr 1
    refine fd_congr (n := nt) (fun t ht a => ?_) nt 0 0 (by omega)
    rw [Nat.mul_zero, Nat.zero_add, ← (hwt t ht).1]
  unfold f_X11_count f_X12_count
  rw [tx_let_q, w0, w1, s1, s2, ar, ar, c_sP fu hf b1 hnp, c_sO fu hf b1 hnp, s_count fu hf b5 hnt, s_count fu hf b5 hnt, kb1, kb2, tx_b1_q, tx_b1_q, tx_b1_q, tx_b1_q, tx_b1_q, tx_b1_q, tx_b1_q, tx_b1_q, tx_b1_q, tx_b1_q, b1, m1, b5, m5, b10, m10, hl2, hd, f5, m71]
  by_cases e : y1 = 0
  · rw [if_pos e, if_pos e]; exact ⟨_, _, rfl, rfl, RR_t hR⟩
  rw [if_neg e, if_neg e]
  clear e
  by_cases e : y1 = 1
  · rw [if_pos e, if_pos e]; exact ⟨_, _, rfl, rfl, RR_t hR⟩
  rw [if_neg e, if_neg e]
  clear e
  by_cases e : y1 = 2
  · rw [if_pos e, if_pos e]; exact ⟨_, _, rfl, rfl, RR_t hR⟩
  rw [if_neg e, if_neg e]
  clear e
  by_cases e : y1 = 3
  · rw [if_pos e, if_pos e]; exact ⟨_, _, rfl, rfl, RR_t hR⟩
  rw [if_neg e, if_neg e]
  clear e
  by_cases e : y1 = 4
  · rw [if_pos e, if_pos e]; exact ⟨_, _, rfl, rfl, RR_t hR⟩
  rw [if_neg e, if_neg e]
  clear e
  by_cases e : y1 = 5
  · rw [if_pos e, if_pos e]; exact ⟨_, _, rfl, rfl, RR_t hR⟩
  rw [if_neg e, if_neg e]
  clear e
  by_cases e : y1 = 6
  · rw [if_pos e, if_pos e]; exact ⟨_, _, rfl, rfl, RR_t hR⟩
  rw [if_neg e, if_neg e]
  clear e
  by_cases e : y1 = 7
  · rw [if_pos e, if_pos e]; exact ⟨_, _, rfl, rfl, RR_t hR⟩
  rw [if_neg e, if_neg e]
  clear e
  by_cases e : y1 = 8
  · rw [if_pos e, if_pos e]; exact ⟨_, _, rfl, rfl, RR_t hR⟩
  rw [if_neg e, if_neg e]
  clear e
  by_cases e : y1 = 9
  · rw [if_pos e, if_pos e]; exact ⟨_, _, rfl, rfl, RR_t hR⟩
  rw [if_neg e, if_neg e]
  clear e
  by_cases e : y1 = 10
  · rw [if_pos e, if_pos e]; exact ⟨_, _, rfl, rfl, RR_t hR⟩
  rw [if_neg e, if_neg e]
  clear e
  by_cases e : y1 = 11
  · rw [if_pos e, if_pos e]; exact ⟨_, _, rfl, rfl, RR_t hR⟩
  rw [if_neg e, if_neg e]
  clear e
  by_cases e : y1 = 12
  · rw [if_pos e, if_pos e]; exact ⟨_, _, rfl, rfl, RR_t hR⟩
  rw [if_neg e, if_neg e]
  clear e
  exact ⟨_, _, rfl, rfl, RR_t hR⟩
