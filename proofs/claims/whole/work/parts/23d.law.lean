/-! a law's row of knots worked out on either side -/
/-- the stack of the class holds what the reference keeps by places -/
def stk (vL v : S64) (i : Nat) : List Nat → Prop
  | [] => True
  | x :: s => x < i ∧ vL 5 s.length = v 48 x ∧ inG (v 48 x) ∧ stk vL v i s
theorem stk_up (vL v : S64) {i d : Nat} (z : Int64) : ∀ s : List Nat, s.length ≤ d → stk vL v i s → stk (up4 vL 5 d z) (up4 v 48 i z) (i + 1) s := by
  intro s
  induction s with
  | nil => intro _ _; trivial
  | cons x s ih =>
    intro hd h
    obtain ⟨h1, h2, h3, h4⟩ := h
    have hd2 : s.length + 1 ≤ d := hd
    refine ⟨by omega, ?_, ?_, ih (by omega) h4⟩
    · rw [up4_i _ _ _ (by omega), up4_i _ _ _ (by omega)]; exact h2
    · rw [up4_i _ _ _ (by omega)]; exact h3
theorem c_209 (fu : Nat) (L : S32) (vN : S64) (K : S64 → Int32 → Int32 → Int32 → Option (Int64 × S64)) (vL : S64) (w : Int32) {d : Nat} (i : Nat) {x : Int64} (hd : d < 64) (hx : inG x) : f_X5_work_oNr0_J209 fu L vN K vL w (nI d) (nI i) x = K (up4 vL 5 d x) w (nI (d + 1)) (nI (i + 1)) := by
  unfold f_X5_work_oNr0_J209
  have h := q_inG.mp hx
  simp only [lg_cmp_gt, lg_cmp_lt]
  rw [if_neg h.1, if_neg h.2, if_neg (nI_pos (by omega)), if_pos (show nI d < (64 : Int32) from nI_lt (b := 64) hd (by omega)), tx_ck_q hd (by omega), tx_let_q, tx_let_q, tx_let_q, nI_clamp (by omega), nI_1, nI_1]
theorem c_209n (fu : Nat) (L : S32) (vN : S64) (K : S64 → Int32 → Int32 → Int32 → Option (Int64 × S64)) (vL : S64) (w d i : Int32) {x : Int64} (hx : ¬ inG x) : f_X5_work_oNr0_J209 fu L vN K vL w d i x = some (-9223372036854775808, vL) := by
  unfold f_X5_work_oNr0_J209
  simp only [lg_cmp_gt, lg_cmp_lt]
  by_cases h : (1000000000000 : Int64) < x
  · rw [if_pos h]
  · rw [if_neg h, if_pos]
    by_cases h2 : x < (-1000000000000 : Int64)
    · exact h2
    · exact absurd (q_inG.mpr ⟨h, h2⟩) hx
theorem c_at (fu : Nat) (L : S32) (vL : S64) {d : Nat} (hd : d < 64) : f_X5_at fu L vL (nI d) = some (vL 5 d) := by
  unfold f_X5_at
  rw [if_neg (nI_pos (by omega)), if_neg (show ¬ (64 : Int32) ≤ nI d from nI_ge (b := 64) hd (by omega)), tx_ck_q hd (by omega), nI_clamp (by omega)]
theorem m1_nI (d : Nat) : nI (d + 1) + (-1 : Int32) = nI d := pk_m1 d
theorem m2_nI (d : Nat) : nI (d + 2) + (-2 : Int32) = nI d := by
  rw [show (-2 : Int32) = (-1) + (-1) from by decide, ← Int32.add_assoc, pk_m1, pk_m1]
/-- once there is an error, the reference goes on to its end -/
theorem lw_err (fu : Nat) {M : S32} {j e : Nat} (hj : j < 3) (he : e ≤ 64) (h35 : M 35 j = nI e) (h48 : M 0 48 = 1) : ∀ n i st v nf, knW M n i st → (∀ x, x ∈ st → x < i) → i + n = e → n < nf → ∃ v', f_X12_lawOf_L12 fu nf M v (nI j) (nI i) = some (0, M, v') ∧ ∀ r, r ≠ 48 → v' r = v r := by
  have h0 : ¬ M 0 48 = 0 := by rw [h48]; exact one_ne
  intro n
  induction n with
  | zero =>
    intro i st v nf hk hs hi hn
    obtain ⟨nf, rfl⟩ := pos_ex hn
    refine ⟨v, ?_, fun _ _ => rfl⟩
    show f_X12_lawOf_J12 _ _ _ _ _ _ = _
    unfold f_X12_lawOf_J12
    rw [tx_ck_q (by omega) (by omega), nI_clamp (by omega), h35, if_pos (nI_le (by omega) (by omega)), if_neg h0]
  | succ n ih =>
    intro i st v nf hk hs hi hn
    obtain ⟨nf, rfl⟩ := pos_ex hn
    have go : ∀ z st', f_X12_valueOf fu v M (nI i) = some (z, M) → knW M n (i + 1) st' → (∀ x, x ∈ st' → x < i + 1) → ∃ v', f_X12_lawOf_L12 fu (nf + 1) M v (nI j) (nI i) = some (0, M, v') ∧ ∀ r, r ≠ 48 → v' r = v r := by
      intro z st' hz hk' hs'
      obtain ⟨v', e1, e2⟩ := ih (i + 1) st' (up4 v 48 i z) nf hk' hs' (by omega) (by omega)
      refine ⟨v', ?_, fun r hr => (e2 r hr).trans (up4_n _ _ _ hr)⟩
      show f_X12_lawOf_J12 _ _ _ _ _ _ = _
      unfold f_X12_lawOf_J12
      rw [tx_ck_q (by omega) (by omega), nI_clamp (n := j) (by omega), h35, if_neg (ge_lit (by omega) (by omega)), hz]
      show tx_ck _ _ _ = _
      rw [tx_ck_q (by omega) (by omega), tx_let_q, tx_let_q, nI_clamp (by omega), nI_1]
      exact e1
    rcases hk with ⟨a, b, c⟩ | ⟨a, ⟨y, hy, b⟩, c⟩ | ⟨a, x, s, b, c, d⟩ | ⟨⟨k, k1, k2, a⟩, y, x, s, b, c, d, f⟩
    · refine go _ _ (val_0 fu v (by omega) a) c (fun x hx => ?_)
      rcases List.mem_cons.mp hx with rfl | hx
      · omega
      · have := hs x hx; omega
    · refine go _ _ (val_1 fu v (by omega) a hy b) c (fun x hx => ?_)
      rcases List.mem_cons.mp hx with rfl | hx
      · omega
      · have := hs x hx; omega
    · subst b
      have hx := hs x (List.mem_cons_self ..)
      refine go _ _ (val_2 fu v (by omega) a (by omega) c) d (fun y hy => ?_)
      rcases List.mem_cons.mp hy with rfl | hy
      · omega
      · have := hs y (List.mem_cons_of_mem _ hy); omega
    · subst b
      have hy := hs y (List.mem_cons_self ..)
      have hx := hs x (List.mem_cons_of_mem _ (List.mem_cons_self ..))
      obtain ⟨z, hz⟩ := val_e fu v (by omega) (by omega) (by omega) c d h48 k k1 k2 a
      refine go z _ hz f (fun w hw => ?_)
      rcases List.mem_cons.mp hw with rfl | hw
      · omega
      · have := hs w (List.mem_cons_of_mem _ (List.mem_cons_of_mem _ hw)); omega
theorem stk_lt {vL v : S64} {i : Nat} : ∀ {s : List Nat}, stk vL v i s → ∀ x, x ∈ s → x < i := by
  intro s
  induction s with
  | nil => intro _ x hx; cases hx
  | cons y s ih =>
    intro h x hx
    rcases List.mem_cons.mp hx with rfl | hx
    · exact h.1
    · exact ih h.2.2.2 x hx
theorem knK_ne {k : Nat} (h1 : 3 ≤ k) (h2 : k ≤ 14) : ¬ knK (nI k) = 0 ∧ ¬ knK (nI k) = 1 ∧ ¬ knK (nI k) = 4 := by
  have hk : k = 3 ∨ k = 4 ∨ k = 5 ∨ k = 6 ∨ k = 7 ∨ k = 8 ∨ k = 9 ∨ k = 10 ∨ k = 11 ∨ k = 12 ∨ k = 13 ∨ k = 14 := by omega
  rcases hk with rfl | rfl | rfl | rfl | rfl | rfl | rfl | rfl | rfl | rfl | rfl | rfl <;> decide
/-- knot by knot -/
theorem lw_sim (fu : Nat) {L M : S32} {vN : S64} {j e : Nat} (hj : j < 3) (he : e ≤ 64) (h35 : M 35 j = nI e) (hL4 : L 4 j = nI e) (h48 : M 0 48 = 0)
    (hk : ∀ i, i < e → L 1 i = knK (M 36 i) ∧ (M 36 i = 0 ∨ M 36 i = 1 → L 2 i = M 37 i)) :
    ∀ n i st vL v nc nf, (∀ a, a < 7 → vN 0 a = v 47 a ∧ inG (vN 0 a)) → knW M n i st → stk vL v i st → st.length ≤ i → i + n = e → n < nf → n < nc →
    ∃ r vL' z M' v', f_X5_work_oNr0_L26 fu L vN nc vL (nI j) (nI st.length) (nI i) = some (r, vL') ∧ f_X12_lawOf_L12 fu nf M v (nI j) (nI i) = some (z, M', v') ∧ (∀ r, r ≠ 48 → v' r = v r) ∧
      ((r = z ∧ inG r ∧ M' = M) ∨ (r = -9223372036854775808 ∧ M' = up2 M 0 48 1)) := by
  intro n
  induction n with
  | zero =>
    intro i st vL v nc nf hN hw hs hl hi hn hc
    obtain ⟨nf, rfl⟩ := pos_ex hn
    obtain ⟨nc, rfl⟩ := pos_ex hc
    have e0 : st = [i - 1] := hw
    subst e0
    obtain ⟨s1, s2, s3, -⟩ := hs
    have s2' : vL 5 0 = v 48 (i - 1) := s2
    refine ⟨v 48 (i - 1), vL, v 48 (i - 1), M, v, ?_, ?_, fun _ _ => rfl, Or.inl ⟨rfl, s3, rfl⟩⟩
    · show f_X5_work_oNr0_J26 _ _ _ _ _ _ _ _ = _
      unfold f_X5_work_oNr0_J26 f_X5_work_oNr0_J258
      rw [tx_ck_q (by omega) (by omega), nI_clamp (n := j) (by omega), hL4, if_pos (nI_le (by omega) (by omega))]
      rw [show nI ([i - 1] : List Nat).length - (1 : Int32) = nI 0 from nI_pred 0, c_at fu L vL (by omega), tx_b1_q, s2']
    · show f_X12_lawOf_J12 _ _ _ _ _ _ = _
      unfold f_X12_lawOf_J12
      have ie : e = (i - 1) + 1 := by omega
      rw [tx_ck_q (by omega) (by omega), nI_clamp (n := j) (by omega), h35, if_pos (nI_le (by omega) (by omega)), if_pos h48, tx_ck_q (j := j) (by omega) (by omega)]
      rw [ie, nI_pred, tx_ck_q (by omega) (by omega), nI_clamp (by omega)]
  | succ n ih =>
    intro i st vL v nc nf hN hw hs hl hi hn hc
    obtain ⟨nf, rfl⟩ := pos_ex hn
    obtain ⟨nc, rfl⟩ := pos_ex hc
    have hi64 : i < 64 := by omega
    -- the class's side of one knot, and the reference's
    have goR : ∀ (z : Int64) (M1 : S32), M1 35 j = nI e → f_X12_valueOf fu v M (nI i) = some (z, M1) → f_X12_lawOf_L12 fu (nf + 1) M v (nI j) (nI i) = f_X12_lawOf_L12 fu nf M1 (up4 v 48 i z) (nI j) (nI (i + 1)) := by
      intro z M1 hM1 hz
      show f_X12_lawOf_J12 _ _ _ _ _ _ = _
      unfold f_X12_lawOf_J12
      rw [tx_ck_q (by omega) (by omega), nI_clamp (n := j) (by omega), h35, if_neg (ge_lit (by omega) (by omega)), hz]
      show tx_ck _ _ _ = _
      rw [tx_ck_q (by omega) (by omega), tx_let_q, tx_let_q, nI_clamp (by omega), nI_1]
    have go : ∀ (s : List Nat) (z : Int64), inG z → s.length ≤ i → stk vL v i s → knW M n (i + 1) (i :: s) → f_X12_valueOf fu v M (nI i) = some (z, M) →
        f_X5_work_oNr0_L26 fu L vN (nc + 1) vL (nI j) (nI st.length) (nI i) = f_X5_work_oNr0_J209 fu L vN (f_X5_work_oNr0_L26 fu L vN nc) vL (nI j) (nI s.length) (nI i) z →
        ∃ r vL' z M' v', f_X5_work_oNr0_L26 fu L vN (nc + 1) vL (nI j) (nI st.length) (nI i) = some (r, vL') ∧ f_X12_lawOf_L12 fu (nf + 1) M v (nI j) (nI i) = some (z, M', v') ∧ (∀ r, r ≠ 48 → v' r = v r) ∧
          ((r = z ∧ inG r ∧ M' = M) ∨ (r = -9223372036854775808 ∧ M' = up2 M 0 48 1)) := by
      intro s z hz hsl hst hkn hv hcl
      have e3 : stk (up4 vL 5 s.length z) (up4 v 48 i z) (i + 1) (i :: s) := ⟨by omega, by rw [up4_e, up4_e], by rw [up4_e]; exact hz, stk_up vL v z s (Nat.le_refl _) hst⟩
      obtain ⟨r, vL', z', M', v', g1, g2, g3, g4⟩ := ih (i + 1) (i :: s) (up4 vL 5 s.length z) (up4 v 48 i z) nc nf (fun a ha => by rw [up4_n _ _ _ (by decide)]; exact hN a ha) hkn e3 (by show s.length + 1 ≤ _; omega) (by omega) (by omega) (by omega)
      refine ⟨r, vL', z', M', v', ?_, ?_, fun r hr => (g3 r hr).trans (up4_n _ _ _ hr), g4⟩
      · rw [hcl, c_209 fu L vN _ vL _ i (by omega) hz]
        exact g1
      · rw [goR z M h35 hv]
        exact g2
    have cl : f_X5_work_oNr0_L26 fu L vN (nc + 1) vL (nI j) (nI st.length) (nI i) = f_X5_work_oNr0_J26 fu L vN (f_X5_work_oNr0_L26 fu L vN nc) vL (nI j) (nI st.length) (nI i) := rfl
    obtain ⟨hk1, hk2⟩ := hk i (by omega)
    have ci := nI_clamp (n := i) (by omega)
    have ck := fun (k : Option (Int64 × S64)) => tx_ck_q (j := i) (n := 64) hi64 (by omega) k
    unfold f_X5_work_oNr0_J26 at cl
    rw [tx_ck_q (by omega) (by omega), nI_clamp (n := j) (by omega), hL4, if_neg (ge_lit (by omega) (by omega)), if_neg (show ¬ (64 : Int32) ≤ nI i from nI_ge (b := 64) hi64 (by omega)), ci, ck, hk1] at cl
    rcases hw with ⟨a, ⟨y, hy, b⟩, c⟩ | ⟨a, ⟨y, hy, b⟩, c⟩ | ⟨a, x, s, b, c, d⟩ | ⟨⟨k, k1, k2, a⟩, y, x, s, b, c, d, f⟩
    · refine go st _ ?_ hl hs c (val_0 fu v hi64 a) ?_
      · exact q_i32 _
      · rw [a, if_pos (by decide), ck, tx_let_q, hk2 (Or.inl a)] at cl
        exact cl
    · refine go st (v 47 y) ?_ hl hs c (val_1 fu v hi64 a hy b) ?_
      · rw [← (hN y hy).1]; exact (hN y hy).2
      · rw [a, if_neg (by decide), ck, if_pos (by decide), ck, hk2 (Or.inr a), b, if_neg (nI_pos (by omega)), ck, if_neg (show ¬ (7 : Int32) ≤ nI y from nI_ge (b := 7) hy (by omega)), ck, tx_ck_q hy (by omega), nI_clamp (n := y) (by omega), (hN y hy).1] at cl
        unfold f_X5_work_oNr0_J113 at cl
        exact cl
    · subst b
      obtain ⟨s1, s2, s3, s4⟩ := hs
      have hl2 : s.length + 1 ≤ i := hl
      refine go s (if v 48 x = 0 then 1 else 0) ?_ (by omega) s4 d (val_2 fu v hi64 a (by omega) c) ?_
      · by_cases q : v 48 x = 0
        · rw [if_pos q]; exact q_in1
        · rw [if_neg q]; exact q_in0
      · rw [a, if_neg (by decide), ck, if_neg (by decide), ck, if_pos (by decide), tx_let_q, show nI (x :: s).length + (-1 : Int32) = nI s.length from pk_m1 _, c_at fu L vL (by omega), tx_b1_q, s2] at cl
        simp only [lg_cmp_eq] at cl
        unfold f_X5_work_oNr0_J147 at cl
        by_cases q : v 48 x = 0
        · rw [if_pos q] at cl ⊢; exact cl
        · rw [if_neg q] at cl ⊢; exact cl
    · subst b
      obtain ⟨s1, s2, s3, s4, s5, s6, s7⟩ := hs
      have hl2 : s.length + 1 + 1 ≤ i := hl
      have s2' : vL 5 (s.length + 1) = v 48 y := s2
      obtain ⟨n0, n1, n4⟩ := knK_ne k1 k2
      obtain ⟨r, hr, hr2⟩ := kv_c fu s6 s3 k k1 k2
      have vb := val_b fu hi64 (by omega) (by omega) c d h48 s6 s3 k k1 k2 a
      have cl2 : f_X5_work_oNr0_L26 fu L vN (nc + 1) vL (nI j) (nI (y :: x :: s).length) (nI i) = f_X5_work_oNr0_J209 fu L vN (f_X5_work_oNr0_L26 fu L vN nc) vL (nI j) (nI s.length) (nI i) r := by
        rw [a, if_neg n0, ck, if_neg n1, ck, if_neg n4, tx_let_q, show nI (y :: x :: s).length + (-2 : Int32) = nI s.length from m2_nI _, ck, nI_1] at cl
        rw [cl]
        by_cases q : knK (nI k) = (13 : Int32)
        · rw [if_pos q] at hr ⊢
          rw [c_at fu L vL (by omega), tx_b1_q, c_at fu L vL (by omega), tx_b1_q, s2', s5, hr, tx_b1_q]
          rfl
        · rw [if_neg q] at hr ⊢
          rw [ck, c_at fu L vL (by omega), tx_b1_q, c_at fu L vL (by omega), tx_b1_q, s2', s5, hr, tx_b1_q]
          rfl
      rcases hr2 with ⟨g1, g2⟩ | ⟨g1, g2⟩
      · exact go s r g2 (by omega) s7 f (vb.1 r g1) cl2
      · have hv := vb.2 g1
        have m35 : (up2 M 0 48 1) 35 j = nI e := by rw [up2_n _ _ _ (by decide)]; exact h35
        obtain ⟨v', e1, e2⟩ := lw_err fu hj he m35 (up2_e _ _ _ _) n (i + 1) (i :: s) (up4 v 48 i 0) nf (knW.c (fun r h1 h2 => up2_n _ _ _ (by omega)) _ _ _ f) (fun w hw => by
          rcases List.mem_cons.mp hw with rfl | hw
          · omega
          · have := stk_lt s7 w hw; omega) (by omega) (by omega)
        refine ⟨-9223372036854775808, vL, 0, up2 M 0 48 1, v', ?_, ?_, fun r hr => (e2 r hr).trans (up4_n _ _ _ hr), Or.inr ⟨rfl, rfl⟩⟩
        · rw [cl2, c_209n fu L vN _ vL _ _ _ g2]
        · rw [goR 0 _ m35 hv]
          exact e1
