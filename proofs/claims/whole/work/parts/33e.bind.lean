/-! signs that wait, and what they bind -/
def wK (w : Nat) : Int32 := if w = 0 then 15 else knK (nI w)
def rk (w : Nat) : Nat := if 13 ≤ w then 6 else if 11 ≤ w then 5 else if 5 ≤ w then 4 else if w = 2 then 3 else if w = 3 then 2 else if w = 4 then 1 else 0
theorem w14 {w : Nat} (h : w ≤ 14) (h1 : w ≠ 1) : w = 0 ∨ w = 2 ∨ w = 3 ∨ w = 4 ∨ w = 5 ∨ w = 6 ∨ w = 7 ∨ w = 8 ∨ w = 9 ∨ w = 10 ∨ w = 11 ∨ w = 12 ∨ w = 13 ∨ w = 14 := by omega
theorem m_rk (fu : Nat) {w : Nat} (h : w ≤ 14) (h1 : w ≠ 1) : f_X12_rank fu (nI w) = some (nI (rk w)) := by
  rcases w14 h h1 with rfl | rfl | rfl | rfl | rfl | rfl | rfl | rfl | rfl | rfl | rfl | rfl | rfl | rfl <;> rfl
theorem c_rk (fu : Nat) {w : Nat} (h : w ≤ 14) (h1 : w ≠ 1) : f_X4_rankOf fu (wK w) = some (nI (rk w)) := by
  rcases w14 h h1 with rfl | rfl | rfl | rfl | rfl | rfl | rfl | rfl | rfl | rfl | rfl | rfl | rfl | rfl <;> rfl
theorem rk_6 (w : Nat) : rk w ≤ 6 := by unfold rk; split <;> (try omega); split <;> (try omega); split <;> (try omega); split <;> (try omega); split <;> (try omega); split <;> omega
def wtR (R M : S32) : List Nat → Prop
  | [] => True
  | w :: s => w ≤ 14 ∧ w ≠ 1 ∧ M 39 s.length = nI w ∧ R 2 s.length = wK w ∧ wtR R M s
def hdR (M : S32) (n : Nat) : List Nat → Prop
  | [] => True
  | x :: s => x < n ∧ M 40 s.length = nI x ∧ hdR M n s
def nBin : List Nat → Nat
  | [] => 0
  | w :: s => (if w = 0 ∨ w = 2 then 0 else 1) + nBin s
def nOp : List Nat → Nat
  | [] => 0
  | w :: s => (if w = 0 then 0 else 1) + nOp s
def dropW (t : Nat) : List Nat → List Nat
  | [] => []
  | w :: s => if t ≤ rk w then dropW t s else w :: s
def agT (tc tr : Nat) : List Nat → Prop
  | [] => True
  | w :: s => (tc ≤ rk w ↔ tr ≤ rk w) ∧ (tr ≤ rk w → agT tc tr s)
/-- the knots from a to n leave st -/
def KP (M : S32) (a n : Nat) (st : List Nat) : Prop := ∀ M' : S32, (∀ r i, 36 ≤ r → r ≤ 38 → i < n → M' r i = M r i) → ∀ m, knW M' m n st → knW M' (n - a + m) a []
theorem KP.e {M M' : S32} {a n : Nat} {st : List Nat} (h : KP M a n st) (e : ∀ r i, 36 ≤ r → r ≤ 38 → i < n → M' r i = M r i) : KP M' a n st := fun M2 h2 m hm => h M2 (fun r i a b c => (h2 r i a b c).trans (e r i a b c)) m hm
theorem KP.step {M : S32} {a n : Nat} {st st' : List Nat} (h : KP M a n st) (ha : a ≤ n) (hs : ∀ M' : S32, (∀ r i, 36 ≤ r → r ≤ 38 → i < n + 1 → M' r i = M r i) → ∀ m, knW M' m (n + 1) st' → knW M' (m + 1) n st) : KP M a (n + 1) st' := by
  intro M' h2 m hm
  have e := h M' (fun r i a b c => h2 r i a b (by omega)) (m + 1) (hs M' h2 m hm)
  rw [show n + 1 - a + m = n - a + (m + 1) by omega]
  exact e
/-- the knots of both so far -/
def KR (L M : S32) (n : Nat) : Prop := ∀ i, i < n → L 1 i = knK (M 36 (64 + i)) ∧ (M 36 (64 + i) = 0 ∨ M 36 (64 + i) = 1 → L 2 i = M 37 (64 + i))
def BF (n : Nat) (M M' : S32) : Prop := ∀ r i, ¬ (r = 40) → ¬ ((36 ≤ r ∧ r ≤ 38) ∧ 64 + n ≤ i) → ¬ (r = 0 ∧ (i = 19 ∨ i = 40 ∨ i = 41)) → M' r i = M r i
theorem BF.refl (n : Nat) (M : S32) : BF n M M := fun _ _ _ _ _ => rfl
theorem wtR.e {R M R' M' : S32} : ∀ {ws : List Nat}, wtR R M ws → (∀ i, i < ws.length → R' 2 i = R 2 i ∧ M' 39 i = M 39 i) → wtR R' M' ws := by
  intro ws
  induction ws with
  | nil => intro _ _; trivial
  | cons w s ih =>
    intro h e
    obtain ⟨h1, h2, h3, h4, h5⟩ := h
    have hl : s.length < (w :: s).length := by rw [List.length_cons]; omega
    exact ⟨h1, h2, (e _ hl).2.trans h3, (e _ hl).1.trans h4, ih h5 (fun i hi => e i (by rw [List.length_cons]; omega))⟩
theorem hdR.e {M M' : S32} {n n' : Nat} (hn : n ≤ n') : ∀ {st : List Nat}, hdR M n st → (∀ i, i < st.length → M' 40 i = M 40 i) → hdR M' n' st := by
  intro st
  induction st with
  | nil => intro _ _; trivial
  | cons w s ih =>
    intro h e
    obtain ⟨h1, h2, h3⟩ := h
    exact ⟨by omega, (e _ (by rw [List.length_cons]; omega)).trans h2, ih h3 (fun i hi => e i (by rw [List.length_cons]; omega))⟩
/-- the state of the binding -/
def BS (R L M : S32) (a n : Nat) (ws st : List Nat) : Prop := R 0 2 = nI ws.length ∧ M 0 40 = nI ws.length ∧ wtR R M ws ∧ hdR M n st ∧ M 0 41 = nI st.length ∧ M 0 19 = nI n ∧ L 0 5 = nI n ∧ a ≤ n ∧ KP (hfM M) a n st ∧ KR L M n
theorem grow_q (fu : Nat) {M : S32} (v : S64) {n h : Nat} (hn : n < 64) (hh : h < 96) (m19 : M 0 19 = nI n) (m41 : M 0 41 = nI h) (k x y : Int32) : f_X12_grown fu v M k x y = some (up2 (up2 (up2 (up2 (up2 (up2 M 36 (64 + n) k) 37 (64 + n) x) 38 (64 + n) y) 40 h (nI n)) 0 41 (nI (h + 1))) 0 19 (nI (n + 1))) := by
  unfold f_X12_grown
  have e64 : (64 : Int32) + nI n = nI (64 + n) := nI_add 64 n
  have ck := fun k : Option S32 => tx_ck_q (j := 64 + n) (n := 128) (by omega) (by omega) k
  have z1 : ∀ (F : S32) (r i j : Nat) (x : Int32), r ≠ 0 → (up2 F r i x) 0 j = F 0 j := fun F r i j x hr => by rw [up2_n _ _ _ (Ne.symm hr)]
  rw [m19, e64, ck, tx_let_q, nI_clamp (n := 64 + n) (by omega), z1 _ _ _ _ _ (by decide), m19, e64, ck, tx_let_q, nI_clamp (n := 64 + n) (by omega), z1 _ _ _ _ _ (by decide), z1 _ _ _ _ _ (by decide), m19, e64, ck, tx_let_q, nI_clamp (n := 64 + n) (by omega), z1 _ _ _ _ _ (by decide), z1 _ _ _ _ _ (by decide), z1 _ _ _ _ _ (by decide), m41, tx_ck_q (j := h) (by omega) (by omega), nI_clamp (n := h) (by omega), z1 _ _ _ _ _ (by decide), z1 _ _ _ _ _ (by decide), z1 _ _ _ _ _ (by decide), m19, tx_let_q, z1 _ _ _ _ _ (by decide), z1 _ _ _ _ _ (by decide), z1 _ _ _ _ _ (by decide), z1 _ _ _ _ _ (by decide), m41, nI_1, tx_let_q, up2_i _ _ _ (show (19 : Nat) ≠ 41 by decide), z1 _ _ _ _ _ (by decide), z1 _ _ _ _ _ (by decide), z1 _ _ _ _ _ (by decide), z1 _ _ _ _ _ (by decide), m19, nI_1, tx_let_q]
theorem ladd_q (fu : Nat) {L : S32} (v : S64) {n : Nat} (hn : n < 64) (l5 : L 0 5 = nI n) (x y : Int32) : f_X5_add fu v L x y = some (up2 (up2 (up2 L 1 n x) 2 n y) 0 5 (nI (n + 1))) := by
  unfold f_X5_add
  have ck := fun k : Option S32 => tx_ck_q (j := n) (n := 64) hn (by omega) k
  have z1 := fun (F : S32) (i : Nat) (x : Int32) => congrFun (up2_n F (r := 1) (q := 0) i x (by decide)) 5
  have z2 := fun (F : S32) (i : Nat) (x : Int32) => congrFun (up2_n F (r := 2) (q := 0) i x (by decide)) 5
  rw [l5, if_neg (nI_pos (n := n) (by omega)), if_neg (show ¬ (64 : Int32) ≤ nI n from nI_ge (b := 64) (by omega) (by omega)), ck, tx_let_q, nI_clamp (n := n) (by omega), z1, l5, ck, tx_let_q, nI_clamp (n := n) (by omega), z2, z1, l5, nI_1, tx_let_q]
/-- one sign is bound -/
theorem bind1 (fu : Nat) (vL v : S64) {R L M : S32} {a n w : Nat} {s st : List Nat} (hB : BS R L M a n (w :: s) st) (hw0 : w ≠ 0) (hn : n < 64) (hl : s.length ≤ 71) (hst : st.length = 1 + nBin (w :: s)) (hst2 : st.length ≤ 90) :
    ∃ R' L' M' st', (∀ (K0 : S32 → S32 → Int32 → Option (S32 × S32)) (tc : Nat), tc ≤ 6 → f_X4_release_J0 fu vL K0 R L (nI tc) = if tc ≤ rk w then K0 R' L' (nI tc) else some (R, L)) ∧ (∀ (K0 : S32 → Int32 → Option S32) (tr : Nat), tr ≤ 6 → f_X12_bind_J0 fu v K0 M (nI tr) = if tr ≤ rk w then K0 M' (nI tr) else some M) ∧ BS R' L' M' a (n + 1) s st' ∧ st'.length = 1 + nBin s ∧ (∀ r i, ¬ (r = 0 ∧ i = 2) → R' r i = R r i) ∧ (∀ r i, ¬ ((r = 1 ∨ r = 2) ∧ n ≤ i) → ¬ (r = 0 ∧ i = 5) → L' r i = L r i) ∧ BF n M M' ∧ (∃ s', st' = n :: s') := by
  obtain ⟨r2, m40, ⟨hw, hw1, w39, wR, hs⟩, hh, m41, m19, l5, han, hKP, hKR⟩ := hB
  have e1 : nI (w :: s).length - 1 = nI s.length := by rw [List.length_cons]; exact nI_pred _
  have hlc : (w :: s).length = s.length + 1 := List.length_cons
  have hrk := rk_6 w
  -- the class
  have C : ∀ (K0 : S32 → S32 → Int32 → Option (S32 × S32)) (tc : Nat), tc ≤ 6 → f_X4_release_J0 fu vL K0 R L (nI tc) = if tc ≤ rk w then K0 (up2 R 0 2 (nI s.length)) (up2 (up2 (up2 L 1 n (wK w)) 2 n 0) 0 5 (nI (n + 1))) (nI tc) else some (R, L) := by
    intro K0 tc htc
    unfold f_X4_release_J0
    rw [r2, hlc, if_neg (nI_nle (n := s.length + 1) (by omega) (by omega)), if_neg (show ¬ (72 : Int32) < nI (s.length + 1) from nI_nlt (a := 72) (by omega) (by omega)), nI_pred, tx_ck_q (j := s.length) (by omega) (by omega), nI_clamp (n := s.length) (by omega), wR, c_rk fu hw hw1, tx_b1_q]
    by_cases z : tc ≤ rk w
    · rw [if_neg (nI_nlt z (by omega)), if_pos z, tx_let_q, up2_e, tx_ck_q (j := s.length) (by omega) (by omega), nI_clamp (n := s.length) (by omega), up2_n _ _ _ (show (2 : Nat) ≠ 0 by decide), wR, ladd_q fu vL hn l5, tx_b1_q]
    · rw [if_pos (nI_lt (by omega) (by omega)), if_neg z]
  have wk : wK w = knK (nI w) := by unfold wK; rw [if_neg hw0]
  have drop : ∀ (M2 : S32) (q : Nat), M2 0 41 = nI (q + 1) → q < 96 → f_X12_dropHeld fu v M2 = some (M2 40 q, up2 M2 0 41 (nI q)) := by
    intro M2 q h1 h2
    unfold f_X12_dropHeld
    rw [h1, nI_pred, tx_let_q, up2_e, tx_ck_q (j := q) h2 (by omega), nI_clamp (n := q) (by omega), up2_n _ _ _ (show (40 : Nat) ≠ 0 by decide)]
  -- what both grow, given what is taken
  have fin : ∀ (x : Nat) (y : Int32) (st0 : List Nat), st0.length < 96 → (∀ M' : S32, (∀ r i, 36 ≤ r → r ≤ 38 → i < n + 1 → M' r i = (hfM (up2 (up2 (up2 M 36 (64 + n) (nI w)) 37 (64 + n) (nI x)) 38 (64 + n) y)) r i) → ∀ m, knW M' m (n + 1) (n :: st0) → knW M' (m + 1) n st) → hdR M n st0 → st0.length + 1 = 1 + nBin s →
      ∀ Mg : S32, (∀ r i, ¬ (r = 0 ∧ (i = 40 ∨ i = 41)) → Mg r i = M r i) → Mg 0 40 = nI s.length → Mg 0 41 = nI st0.length →
      ∃ M', f_X12_grown fu v Mg (nI w) (nI x) y = some M' ∧ BS (up2 R 0 2 (nI s.length)) (up2 (up2 (up2 L 1 n (wK w)) 2 n 0) 0 5 (nI (n + 1))) M' a (n + 1) s (n :: st0) ∧ (n :: st0).length = 1 + nBin s ∧ BF n M M' := by
    intro x y st0 hl0 hkn hh0 hlen Mg g1 g2 g3
    have g19 : Mg 0 19 = nI n := (g1 0 19 (by omega)).trans m19
    refine ⟨_, grow_q fu v hn hl0 g19 g3 (nI w) (nI x) y, ⟨up2_e _ _ _ _, ?_, ?_, ⟨by omega, ?_, ?_⟩, ?_, up2_e _ _ _ _, up2_e _ _ _ _, by omega, ?_, ?_⟩, by rw [List.length_cons]; omega, ?_⟩
    · rw [up2_i _ _ _ (by decide), up2_i _ _ _ (by decide), up2_n _ _ _ (by decide), up2_n _ _ _ (by decide), up2_n _ _ _ (by decide), up2_n _ _ _ (by decide)]; exact g2
    · refine wtR.e hs (fun i hi => ⟨by rw [up2_n _ _ _ (by decide)], ?_⟩)
      rw [up2_n _ _ _ (by decide), up2_n _ _ _ (by decide), up2_n _ _ _ (by decide), up2_n _ _ _ (by decide), up2_n _ _ _ (by decide), up2_n _ _ _ (by decide)]
      exact g1 39 i (by omega)
    · rw [up2_n _ _ _ (by decide), up2_n _ _ _ (by decide), up2_e]
    · refine hh0.e (Nat.le_succ n) (fun i hi => ?_)
      rw [up2_n _ _ _ (by decide), up2_n _ _ _ (by decide), up2_i _ _ _ (by omega), up2_n _ _ _ (by decide), up2_n _ _ _ (by decide), up2_n _ _ _ (by decide)]
      exact g1 40 i (by omega)
    · rw [up2_i _ _ _ (by decide), up2_e, List.length_cons]
    · have low : ∀ r i, 36 ≤ r → r ≤ 38 → (hfM (up2 (up2 (up2 (up2 (up2 (up2 Mg 36 (64 + n) (nI w)) 37 (64 + n) (nI x)) 38 (64 + n) y) 40 st0.length (nI n)) 0 41 (nI (st0.length + 1))) 0 19 (nI (n + 1)))) r i = (hfM (up2 (up2 (up2 M 36 (64 + n) (nI w)) 37 (64 + n) (nI x)) 38 (64 + n) y)) r i := by
        intro r i h1 h2
        unfold hfM
        rw [up2_n _ _ _ (by omega), up2_n _ _ _ (by omega), up2_n _ _ _ (by omega)]
        simp only [up2_a]
        rw [g1 r _ (by omega)]
      have k0 : KP (hfM (up2 (up2 (up2 M 36 (64 + n) (nI w)) 37 (64 + n) (nI x)) 38 (64 + n) y)) a n st := hKP.e (fun r i h1 h2 h3 => by
        unfold hfM
        rw [up2_a, if_neg (by omega), up2_a, if_neg (by omega), up2_a, if_neg (by omega)])
      exact (k0.step han hkn).e (fun r i h1 h2 _ => low r i h1 h2)
    · intro i hi
      by_cases ei : i = n
      · subst ei
        rw [up2_n _ _ _ (by decide), up2_n _ _ _ (by decide), up2_e, wk, up2_n _ _ _ (show (36 : Nat) ≠ 0 by decide), up2_n _ _ _ (show (36 : Nat) ≠ 0 by decide), up2_n _ _ _ (show (36 : Nat) ≠ 40 by decide), up2_n _ _ _ (show (36 : Nat) ≠ 38 by decide), up2_n _ _ _ (show (36 : Nat) ≠ 37 by decide), up2_e]
        refine ⟨rfl, fun h => ?_⟩
        rcases h with h | h
        · exact absurd ((nI_eq (b := 0) (by omega) (by omega)).mp h) hw0
        · exact absurd ((nI_eq (b := 1) (by omega) (by omega)).mp h) hw1
      · have q1 : (up2 (up2 (up2 L 1 n (wK w)) 2 n 0) 0 5 (nI (n + 1))) 1 i = L 1 i := by rw [up2_n _ _ _ (by decide), up2_n _ _ _ (by decide), up2_i _ _ _ ei]
        have q2 : (up2 (up2 (up2 L 1 n (wK w)) 2 n 0) 0 5 (nI (n + 1))) 2 i = L 2 i := by rw [up2_n _ _ _ (by decide), up2_i _ _ _ ei, up2_n _ _ _ (by decide)]
        have q3 : ∀ r, 36 ≤ r → r ≤ 38 → (up2 (up2 (up2 (up2 (up2 (up2 Mg 36 (64 + n) (nI w)) 37 (64 + n) (nI x)) 38 (64 + n) y) 40 st0.length (nI n)) 0 41 (nI (st0.length + 1))) 0 19 (nI (n + 1))) r (64 + i) = M r (64 + i) := by
          intro r h1 h2
          rw [up2_a, if_neg (by omega), up2_a, if_neg (by omega), up2_a, if_neg (by omega), up2_a, if_neg (by omega), up2_a, if_neg (by omega), up2_a, if_neg (by omega)]
          exact g1 r _ (by omega)
        rw [q1, q2, q3 36 (by omega) (by omega), q3 37 (by omega) (by omega)]
        exact hKR i (by omega)
    · intro r i h1 h2 h3
      rw [up2_a, if_neg (by omega), up2_a, if_neg (by omega), up2_a, if_neg (by omega), up2_a, if_neg (by omega), up2_a, if_neg (by omega), up2_a, if_neg (by omega)]
      exact g1 r i (by omega)
  have fr : (∀ r i, ¬ (r = 0 ∧ i = 2) → (up2 R 0 2 (nI s.length)) r i = R r i) ∧ (∀ r i, ¬ ((r = 1 ∨ r = 2) ∧ n ≤ i) → ¬ (r = 0 ∧ i = 5) → (up2 (up2 (up2 L 1 n (wK w)) 2 n 0) 0 5 (nI (n + 1))) r i = L r i) := by
    refine ⟨fun r i h => by rw [up2_a, if_neg h], fun r i h1 h2 => ?_⟩
    rw [up2_a, if_neg h2, up2_a, if_neg (by omega), up2_a, if_neg (by omega)]
  -- the reference, up to what it takes
  have B0 : ∀ (K0 : S32 → Int32 → Option S32) (tr : Nat), tr ≤ 6 → f_X12_bind_J0 fu v K0 M (nI tr) = if tr ≤ rk w then (if nI w = (2 : Int32) then (f_X12_bind_J58 fu v K0 (up2 M 0 40 (nI s.length)) (nI tr) (nI w) (-1 : Int32)) else (tx_b2 (f_X12_dropHeld fu v (up2 M 0 40 (nI s.length))) fun (r_11 : Int32) (u_T_12 : S32) => f_X12_bind_J58 fu v K0 u_T_12 (nI tr) (nI w) r_11)) else some M := by
    intro K0 tr htr
    unfold f_X12_bind_J0
    rw [m40, hlc, if_neg (nI_nle (n := s.length + 1) (by omega) (by omega)), nI_pred, tx_ck_q (j := s.length) (by omega) (by omega), nI_clamp (n := s.length) (by omega), w39, m_rk fu hw hw1, tx_b1_q]
    by_cases z : tr ≤ rk w
    · rw [if_neg (nI_nlt z (by omega)), if_pos z, tx_let_q (up2 M 0 40 (nI s.length)), up2_e, tx_ck_q (j := s.length) (by omega) (by omega), nI_clamp (n := s.length) (by omega), up2_n _ _ _ (show (39 : Nat) ≠ 0 by decide), w39, tx_let_q (nI w)]
    · rw [if_pos (nI_lt (by omega) (by omega)), if_neg z]
  by_cases w2 : w = 2
  · subst w2
    have hnb : nBin (2 :: s) = nBin s := by show (if 2 = 0 ∨ 2 = 2 then 0 else 1) + nBin s = nBin s; rw [if_pos (Or.inr rfl)]; omega
    rw [hnb] at hst
    obtain ⟨x, st0, rfl⟩ : ∃ x st0, st = x :: st0 := by
      cases st with
      | nil => rw [List.length_nil] at hst; omega
      | cons x st0 => exact ⟨x, st0, rfl⟩
    obtain ⟨hx, hx40, hh0⟩ := hh
    rw [List.length_cons] at hst hst2 m41
    obtain ⟨M', f1, f2, f3, f4⟩ := fin x (-1) st0 (by omega) (fun M2 h2 m hm => Or.inr (Or.inr (Or.inl ⟨by rw [h2 36 n (by omega) (by omega) (by omega)]; show up2 _ _ _ _ _ _ = _; rw [up2_n _ _ _ (by decide), up2_n _ _ _ (by decide), up2_e]; rfl, x, st0, rfl, by rw [h2 37 n (by omega) (by omega) (by omega)]; show up2 _ _ _ _ _ _ = _; rw [up2_n _ _ _ (by decide), up2_e], hm⟩))) hh0 (by omega) (up2 (up2 M 0 40 (nI s.length)) 0 41 (nI st0.length)) (fun r i h => by rw [up2_a, if_neg (by omega), up2_a, if_neg (by omega)]) (by rw [up2_i _ _ _ (by decide), up2_e]) (up2_e _ _ _ _)
    refine ⟨_, _, M', _, C, fun K0 tr htr => ?_, f2, f3, fr.1, fr.2, f4, _, rfl⟩
    rw [B0 K0 tr htr]
    by_cases z : tr ≤ rk 2
    · rw [if_pos z, if_pos z, if_pos (show nI 2 = (2 : Int32) from rfl)]
      unfold f_X12_bind_J58
      rw [drop _ st0.length (by rw [up2_i _ _ _ (by decide)]; exact m41) (by omega), tx_b2_q, up2_n _ _ _ (show (40 : Nat) ≠ 0 by decide), hx40, f1, tx_b1_q]
    · rw [if_neg z, if_neg z]
  · have hnb : nBin (w :: s) = 1 + nBin s := by show (if w = 0 ∨ w = 2 then 0 else 1) + nBin s = 1 + nBin s; rw [if_neg (by omega)]
    rw [hnb] at hst
    obtain ⟨y, x, st0, rfl⟩ : ∃ y x st0, st = y :: x :: st0 := by
      cases st with
      | nil => rw [List.length_nil] at hst; omega
      | cons y st1 =>
        cases st1 with
        | nil => rw [List.length_cons, List.length_nil] at hst; omega
        | cons x st0 => exact ⟨y, x, st0, rfl⟩
    obtain ⟨hy, hy40, hx, hx40, hh0⟩ := hh
    rw [List.length_cons, List.length_cons] at hst hst2 m41
    rw [List.length_cons] at hy40
    obtain ⟨M', f1, f2, f3, f4⟩ := fin x (nI y) st0 (by omega) (fun M2 h2 m hm => Or.inr (Or.inr (Or.inr ⟨⟨w, by omega, hw, by rw [h2 36 n (by omega) (by omega) (by omega)]; show up2 _ _ _ _ _ _ = _; rw [up2_n _ _ _ (by decide), up2_n _ _ _ (by decide), up2_e]⟩, y, x, st0, rfl, by rw [h2 37 n (by omega) (by omega) (by omega)]; show up2 _ _ _ _ _ _ = _; rw [up2_n _ _ _ (by decide), up2_e], by rw [h2 38 n (by omega) (by omega) (by omega)]; show up2 _ _ _ _ _ _ = _; rw [up2_e], hm⟩))) hh0 (by omega) (up2 (up2 (up2 M 0 40 (nI s.length)) 0 41 (nI (st0.length + 1))) 0 41 (nI st0.length)) (fun r i h => by rw [up2_a, if_neg (by omega), up2_a, if_neg (by omega), up2_a, if_neg (by omega)]) (by rw [up2_i _ _ _ (by decide), up2_i _ _ _ (by decide), up2_e]) (up2_e _ _ _ _)
    refine ⟨_, _, M', _, C, fun K0 tr htr => ?_, f2, f3, fr.1, fr.2, f4, _, rfl⟩
    rw [B0 K0 tr htr]
    by_cases z : tr ≤ rk w
    · rw [if_pos z, if_pos z, if_neg (show ¬ nI w = (2 : Int32) from fun q => w2 ((nI_eq (b := 2) (by omega) (by omega)).mp q))]
      unfold f_X12_bind_J58
      rw [drop (up2 M 0 40 (nI s.length)) (st0.length + 1) (by rw [up2_i _ _ _ (by decide)]; exact m41) (by omega), tx_b2_q, drop _ st0.length (up2_e _ _ _ _) (by omega), tx_b2_q, up2_n _ _ _ (show (40 : Nat) ≠ 0 by decide), up2_n _ _ _ (show (40 : Nat) ≠ 0 by decide), hy40, hx40, f1, tx_b1_q]
    · rw [if_neg z, if_neg z]
