/-! the reading of a law: its state -/
def EF0 (a : Nat) (M M' : S32) : Prop := ∀ r i, ¬ (r = 39 ∨ r = 40) → ¬ ((36 ≤ r ∧ r ≤ 38) ∧ 64 + a ≤ i) → ¬ (r = 0 ∧ (i = 19 ∨ (40 ≤ i ∧ i ≤ 45))) → M' r i = M r i
def EF (a : Nat) (M M' : S32) : Prop := ∀ r i, ¬ (r = 39 ∨ r = 40) → ¬ ((36 ≤ r ∧ r ≤ 38) ∧ 64 + a ≤ i) → ¬ (r = 0 ∧ ((7 ≤ i ∧ i ≤ 10) ∨ i = 19 ∨ (40 ≤ i ∧ i ≤ 45))) → M' r i = M r i
def LE (a : Nat) (L L' : S32) : Prop := ∀ r i, ¬ ((r = 1 ∨ r = 2) ∧ a ≤ i) → ¬ (r = 0 ∧ i = 5) → L' r i = L r i
theorem EF0.refl (a : Nat) (M : S32) : EF0 a M M := fun _ _ _ _ _ => rfl
theorem EF.refl (a : Nat) (M : S32) : EF a M M := fun _ _ _ _ _ => rfl
theorem LE.refl (a : Nat) (M : S32) : LE a M M := fun _ _ _ _ => rfl
theorem EF0.up {a : Nat} {M M' : S32} (h : EF0 a M M') {r i : Nat} (x : Int32) (hs : (r = 39 ∨ r = 40) ∨ ((36 ≤ r ∧ r ≤ 38) ∧ 64 + a ≤ i) ∨ (r = 0 ∧ (i = 19 ∨ (40 ≤ i ∧ i ≤ 45)))) : EF0 a M (up2 M' r i x) := by
  intro q j h1 h2 h3
  rw [up2_a, if_neg (by omega)]
  exact h q j h1 h2 h3
theorem EF0.trans {a : Nat} {M M' M'' : S32} (h : EF0 a M M') (h2 : EF0 a M' M'') : EF0 a M M'' := fun r i x y z => (h2 r i x y z).trans (h r i x y z)
theorem EF.trans {a : Nat} {M M' M'' : S32} (h : EF a M M') (h2 : EF a M' M'') : EF a M M'' := fun r i x y z => (h2 r i x y z).trans (h r i x y z)
theorem LE.trans {a : Nat} {M M' M'' : S32} (h : LE a M M') (h2 : LE a M' M'') : LE a M M'' := fun r i x y => (h2 r i x y).trans (h r i x y)
theorem EF0.fm {a : Nat} {M M' M'' : S32} (h : EF0 a M M') (h2 : FM M' M'') : EF a M M'' := fun r i x y z => (h2.p (by omega)).trans (h r i x y (by omega))
theorem BF.ef {a n : Nat} {M M' : S32} (h : BF n M M') (hn : a ≤ n) : EF0 a M M' := fun r i x y z => h r i (by omega) (by omega) (by omega)
theorem rl_0 {i : Nat} (h : (7 ≤ i ∧ i ≤ 10) ∨ i = 19 ∨ (40 ≤ i ∧ i ≤ 45)) : rl 0 i = false := by
  have : i = 7 ∨ i = 8 ∨ i = 9 ∨ i = 10 ∨ i = 19 ∨ i = 40 ∨ i = 41 ∨ i = 42 ∨ i = 43 ∨ i = 44 ∨ i = 45 := by omega
  rcases this with rfl | rfl | rfl | rfl | rfl | rfl | rfl | rfl | rfl | rfl | rfl <;> decide
theorem EF.lf {a : Nat} {M M' : S32} (h : EF a M M') : LF M M' := by
  intro r i hr _
  refine h r i (fun z => ?_) (fun z => ?_) (fun z => ?_)
  · rw [hi_u (by omega)] at hr; cases hr
  · rw [hi_u (by omega)] at hr; cases hr
  · obtain ⟨rfl, z⟩ := z
    rw [rl_0 z] at hr; cases hr
theorem EF0.ef {a : Nat} {M M' : S32} (h : EF0 a M M') : EF a M M' := fun r i x y z => h r i x y (by omega)
theorem TK.ef {P K M M' : S32} {e nx a : Nat} (h : TK P K M e nx) (hE : EF0 a M M') : TK P K M' e nx := by
  obtain ⟨t1, t2, t3, t4, t5, t6, t7⟩ := h
  refine ⟨?_, fun j hj => (hE 4 j (by omega) (by omega) (by omega)).trans (t2 j hj), t3, t4, t5, (hE 0 6 (by omega) (by omega) (by omega)).trans t6, (hE 0 7 (by omega) (by omega) (by omega)).trans t7⟩
  have e1 : M' 1 = M 1 := funext fun i => hE 1 i (by omega) (by omega) (by omega)
  unfold tpR
  rw [e1]
  exact t1
theorem BS.e {R L M R' M' : S32} {a n : Nat} {ws st : List Nat} (h : BS R L M a n ws st) (hR : ∀ i, R' 2 i = R 2 i) (hR0 : R' 0 2 = R 0 2) (hM : ∀ r i, 36 ≤ r → r ≤ 40 → M' r i = M r i) (h0 : M' 0 19 = M 0 19 ∧ M' 0 40 = M 0 40 ∧ M' 0 41 = M 0 41) : BS R' L M' a n ws st := by
  obtain ⟨b1, b2, b3, b4, b5, b6, b7, b8, b9, b10⟩ := h
  refine ⟨hR0.trans b1, h0.2.1.trans b2, b3.e (fun i _ => ⟨hR i, hM 39 i (by omega) (by omega)⟩), b4.e (Nat.le_refl _) (fun i _ => hM 40 i (by omega) (by omega)), h0.2.2.trans b5, h0.1.trans b6, b7, b8, b9.e (fun r i r1 r2 _ => hM r _ r1 (by omega)), fun i hi => ?_⟩
  rw [hM 36 _ (by omega) (by omega), hM 37 _ (by omega) (by omega)]
  exact b10 i hi
theorem BS.fm {R L M M' : S32} {a n : Nat} {ws st : List Nat} (h : BS R L M a n ws st) (hf : FM M M') : BS R L M' a n ws st :=
  h.e (fun _ => rfl) rfl (fun r i _ _ => hf.p (by omega)) ⟨hf.p (by omega), hf.p (by omega), hf.p (by omega)⟩
def LW0 (R L M : S32) (a n : Nat) (ws st : List Nat) (wb mb : Nat) : Prop := BS R L M a n ws st ∧ (wb ≤ 1 ∧ M 0 44 = nI wb ∧ R 0 6 = nI wb) ∧ (mb ≤ 1 ∧ M 0 45 = nI mb ∧ R 0 7 = nI mb) ∧ (nBr ws ≤ 8 ∧ M 0 42 = nI (nBr ws) ∧ R 0 4 = nI (nBr ws)) ∧ (n + nOp ws ≤ 64 ∧ M 0 43 = nI (n + nOp ws) ∧ R 0 5 = nI (n + nOp ws)) ∧ st.length + wb = nBin ws + 1 ∧ (R 4 (nBr ws) = bt (cm ws) ∧ cmR R ws) ∧ (wb = 1 → mb = 1 → cm ws = false) ∧ (wb = 0 → ∃ s', st = (n - 1) :: s')
def LWs (P K R L M : S32) (e nx a n : Nat) (ws st : List Nat) (wb mb : Nat) : Prop := ST P K M e nx ∧ LW0 R L M a n ws st wb mb
theorem LW0.fm {R L M M' : S32} {a n : Nat} {ws st : List Nat} {wb mb : Nat} (h : LW0 R L M a n ws st wb mb) (hf : FM M M') : LW0 R L M' a n ws st wb mb := by
  obtain ⟨h1, ⟨h2, h3, h4⟩, ⟨h5, h6, h7⟩, ⟨h8, h9, h10⟩, ⟨h11, h12, h13⟩, h14⟩ := h
  exact ⟨h1.fm hf, ⟨h2, (hf.p (by omega)).trans h3, h4⟩, ⟨h5, (hf.p (by omega)).trans h6, h7⟩, ⟨h8, (hf.p (by omega)).trans h9, h10⟩, ⟨h11, (hf.p (by omega)).trans h12, h13⟩, h14⟩
/-- a step fails in both -/
def SF (K M : S32) (xc : Option (Int32 × S32 × S32)) (xr : Option (Int32 × S32)) : Prop := ∃ c R' L' M', (c = 1 ∨ c = 2) ∧ xc = some (c, R', L') ∧ xr = some (0, M') ∧ M' 0 4 = c ∧ M' 0 5 = K 0 3 ∧ LF M M'
/-- a step is done in both -/
def SG (fu : Nat) (P K L M : S32) (e nx a : Nat) (xc : Option (Int32 × S32 × S32)) (xr : Option (Int32 × S32)) : Prop := ∃ R' L' K' M' nx' n ws st wb mb, ¬ K 0 4 = 0 ∧ xc = some (0, R', L') ∧ f_X8_advance fu P K = some K' ∧ xr = some (1, M') ∧ LWs P K' R' L' M' e nx' a n ws st wb mb ∧ EF a M M' ∧ LE a L L' ∧ nx ≤ nx' ∧ (¬ K' 0 4 = 0 → nx < nx')
theorem wr_q (fu : Nat) {M0 M : S32} (v : S64) (hl : LF M0 M) (c : Int32) : ∃ M', f_X12_wrong fu v M c = some (0, M') ∧ M' 0 4 = c ∧ M' 0 5 = M 0 10 ∧ LF M0 M' := by
  unfold f_X12_wrong
  rw [tx_let_q, tx_let_q]
  refine ⟨_, rfl, ?_, ?_, (hl.ft _ (Or.inl rfl)).ft _ (Or.inr rfl)⟩
  · rw [up2_i _ _ _ (by decide), up2_e]
  · rw [up2_e, up2_i _ _ _ (by decide)]
theorem adv2_q (fu : Nat) (hf : 1000 ≤ fu) {P K L L' R' M M2 : S32} (v : S64) {e nx a n : Nat} {ws st : List Nat} {wb mb : Nat} (hT : TK P K M e nx) (h : LW0 R' L' M2 a n ws st wb mb) (hE : EF0 a M M2) (hL : LE a L L') (hk : ¬ K 0 4 = 0) : ∃ M', f_X12_token fu v M2 = some M' ∧ ∀ xc xr, xc = some (0, R', L') → xr = some (1, M') → SG fu P K L M e nx a xc xr := by
  obtain ⟨K', M', nx', g1, g2, g3, g4, g5, g6, g7, g8⟩ := adv_q fu hf v (hT.ef hE)
  exact ⟨M', g2, fun xc xr e1 e2 => ⟨R', L', K', M', nx', n, ws, st, wb, mb, hk, e1, g1, e2, ⟨⟨g3, g4, g5⟩, h.fm g6⟩, hE.fm g6, hL, g7, g8⟩⟩
theorem push_q (fu : Nat) {R L M : S32} (v : S64) {a n w : Nat} {ws st : List Nat} (h : BS R L M a n ws st) (hw : w ≤ 14) (hw1 : w ≠ 1) (hl : ws.length ≤ 71) : f_X4_push fu R (wK w) = some (up2 (up2 R 2 ws.length (wK w)) 0 2 (nI (ws.length + 1))) ∧ f_X12_waitsFor fu v M (nI w) = some (up2 (up2 M 39 ws.length (nI w)) 0 40 (nI (ws.length + 1))) ∧ BS (up2 (up2 R 2 ws.length (wK w)) 0 2 (nI (ws.length + 1))) L (up2 (up2 M 39 ws.length (nI w)) 0 40 (nI (ws.length + 1))) a n (w :: ws) st := by
  obtain ⟨b1, b2, b3, b4, b5, b6, b7, b8, b9, b10⟩ := h
  refine ⟨?_, ?_, ?_⟩
  · unfold f_X4_push
    rw [b1, if_neg (nI_pos (n := ws.length) (by omega)), if_neg (show ¬ (72 : Int32) ≤ nI ws.length from nI_ge (b := 72) (by omega) (by omega)), tx_ck_q (j := ws.length) (by omega) (by omega), nI_clamp (n := ws.length) (by omega), tx_let_q, up2_n _ _ _ (show (0 : Nat) ≠ 2 by decide), b1, nI_1, tx_let_q]
  · unfold f_X12_waitsFor
    rw [b2, tx_ck_q (j := ws.length) (by omega) (by omega), nI_clamp (n := ws.length) (by omega), tx_let_q, up2_n _ _ _ (show (0 : Nat) ≠ 39 by decide), b2, nI_1, tx_let_q]
  · refine ⟨by rw [up2_e]; rfl, by rw [up2_e]; rfl, ⟨hw, hw1, ?_, ?_, b3.e (fun i hi => ⟨?_, ?_⟩)⟩, b4.e (Nat.le_refl _) (fun i _ => by rw [up2_n _ _ _ (by decide), up2_n _ _ _ (by decide)]), ?_, ?_, b7, b8, b9.e (fun r i r1 r2 _ => ?_), fun i hi => ?_⟩
    · rw [up2_n _ _ _ (by decide), up2_e]
    · rw [up2_n _ _ _ (by decide), up2_e]
    · rw [up2_n _ _ _ (by decide), up2_i _ _ _ (by omega)]
    · rw [up2_n _ _ _ (by decide), up2_i _ _ _ (by omega)]
    · rw [up2_i _ _ _ (by decide), up2_n _ _ _ (by decide)]; exact b5
    · rw [up2_i _ _ _ (by decide), up2_n _ _ _ (by decide)]; exact b6
    · unfold hfM
      rw [up2_a, if_neg (by omega), up2_a, if_neg (by omega)]
    · rw [up2_n _ _ _ (by decide), up2_n _ _ _ (by decide), up2_n _ _ _ (by decide), up2_n _ _ _ (by decide)]
      exact b10 i hi
theorem leaf_q (fu : Nat) {R L M : S32} (vL v : S64) {a n : Nat} {ws st : List Nat} (h : BS R L M a n ws st) (hn : n < 64) (hst : st.length < 96) {k x : Int32} (hk : (k = 0 ∧ ∃ y, y ≤ 9999 ∧ x = nI y) ∨ (k = 1 ∧ ∃ y, y < 7 ∧ x = nI y)) : ∃ L' M', f_X5_add fu vL L k x = some L' ∧ f_X12_grown fu v M k x 0 = some M' ∧ BS R L' M' a (n + 1) ws (n :: st) ∧ LE a L L' ∧ BF n M M' := by
  obtain ⟨b1, b2, b3, b4, b5, b6, b7, b8, b9, b10⟩ := h
  have c1 := ladd_q fu vL hn b7 k x
  have c2 := grow_q fu v hn hst b6 b5 k x 0
  refine ⟨_, _, c1, c2, ⟨b1, ?_, b3.e (fun i hi => ⟨rfl, ?_⟩), ⟨by omega, ?_, b4.e (Nat.le_succ n) (fun i hi => ?_)⟩, ?_, ?_, up2_e _ _ _ _, by omega, ?_, ?_⟩, ?_, ?_⟩
  · rw [up2_i _ _ _ (by decide), up2_i _ _ _ (by decide), up2_n _ _ _ (by decide), up2_n _ _ _ (by decide), up2_n _ _ _ (by decide), up2_n _ _ _ (by decide)]; exact b2
  · rw [up2_n _ _ _ (by decide), up2_n _ _ _ (by decide), up2_n _ _ _ (by decide), up2_n _ _ _ (by decide), up2_n _ _ _ (by decide), up2_n _ _ _ (by decide)]
  · rw [up2_n _ _ _ (by decide), up2_n _ _ _ (by decide), up2_e]
  · rw [up2_n _ _ _ (by decide), up2_n _ _ _ (by decide), up2_i _ _ _ (by omega), up2_n _ _ _ (by decide), up2_n _ _ _ (by decide), up2_n _ _ _ (by decide)]
  · rw [up2_i _ _ _ (by decide), up2_e, List.length_cons]
  · rw [up2_e]
  · refine KP.step (st := st) (b9.e (fun r i r1 r2 r3 => ?_)) b8 (fun M' h2 m hm => ?_)
    · unfold hfM
      rw [up2_a, if_neg (by omega), up2_a, if_neg (by omega), up2_a, if_neg (by omega), up2_a, if_neg (by omega), up2_a, if_neg (by omega), up2_a, if_neg (by omega)]
    · have e36 : M' 36 n = k := by
        rw [h2 36 n (by omega) (by omega) (by omega)]
        unfold hfM
        rw [up2_n _ _ _ (by decide), up2_n _ _ _ (by decide), up2_n _ _ _ (by decide), up2_n _ _ _ (by decide), up2_n _ _ _ (by decide), up2_e]
      have e37 : M' 37 n = x := by
        rw [h2 37 n (by omega) (by omega) (by omega)]
        unfold hfM
        rw [up2_n _ _ _ (by decide), up2_n _ _ _ (by decide), up2_n _ _ _ (by decide), up2_n _ _ _ (by decide), up2_e]
      rcases hk with ⟨rfl, y, hy, rfl⟩ | ⟨rfl, y, hy, rfl⟩
      · exact Or.inl ⟨e36, ⟨y, hy, e37⟩, hm⟩
      · exact Or.inr (Or.inl ⟨e36, ⟨y, hy, e37⟩, hm⟩)
  · intro i hi
    by_cases ei : i = n
    · subst ei
      rw [up2_n _ _ _ (show (1 : Nat) ≠ 0 by decide), up2_n _ _ _ (show (1 : Nat) ≠ 2 by decide), up2_e, up2_n _ _ _ (show (2 : Nat) ≠ 0 by decide), up2_e, up2_n _ _ _ (show (36 : Nat) ≠ 0 by decide), up2_n _ _ _ (show (36 : Nat) ≠ 0 by decide), up2_n _ _ _ (show (36 : Nat) ≠ 40 by decide), up2_n _ _ _ (show (36 : Nat) ≠ 38 by decide), up2_n _ _ _ (show (36 : Nat) ≠ 37 by decide), up2_e, up2_n _ _ _ (show (37 : Nat) ≠ 0 by decide), up2_n _ _ _ (show (37 : Nat) ≠ 0 by decide), up2_n _ _ _ (show (37 : Nat) ≠ 40 by decide), up2_n _ _ _ (show (37 : Nat) ≠ 38 by decide), up2_e]
      refine ⟨?_, fun _ => rfl⟩
      rcases hk with ⟨rfl, -⟩ | ⟨rfl, -⟩ <;> rfl
    · rw [up2_n _ _ _ (show (1 : Nat) ≠ 0 by decide), up2_n _ _ _ (show (1 : Nat) ≠ 2 by decide), up2_i _ _ _ ei, up2_n _ _ _ (show (2 : Nat) ≠ 0 by decide), up2_i _ _ _ ei, up2_n _ _ _ (show (2 : Nat) ≠ 1 by decide)]
      have q3 : ∀ r, 36 ≤ r → r ≤ 38 → (up2 (up2 (up2 (up2 (up2 (up2 M 36 (64 + n) k) 37 (64 + n) x) 38 (64 + n) 0) 40 st.length (nI n)) 0 41 (nI (st.length + 1))) 0 19 (nI (n + 1))) r (64 + i) = M r (64 + i) := by
        intro r h1 h2
        rw [up2_a, if_neg (by omega), up2_a, if_neg (by omega), up2_a, if_neg (by omega), up2_a, if_neg (by omega), up2_a, if_neg (by omega), up2_a, if_neg (by omega)]
      rw [q3 36 (by omega) (by omega), q3 37 (by omega) (by omega)]
      exact b10 i (by omega)
  · intro r i h1 h2
    rw [up2_a, if_neg h2, up2_a, if_neg (by omega), up2_a, if_neg (by omega)]
  · intro r i h1 h2 h3
    rw [up2_a, if_neg (by omega), up2_a, if_neg (by omega), up2_a, if_neg (by omega), up2_a, if_neg (by omega), up2_a, if_neg (by omega), up2_a, if_neg (by omega)]
