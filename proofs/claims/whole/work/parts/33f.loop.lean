/-! binding goes on -/
def nBr : List Nat → Nat
  | [] => 0
  | w :: s => (if w = 0 then 1 else 0) + nBr s
theorem len_q (ws : List Nat) : ws.length = nOp ws + nBr ws := by
  induction ws with
  | nil => rfl
  | cons w s ih =>
    rw [List.length_cons, ih]
    show nOp s + nBr s + 1 = ((if w = 0 then 0 else 1) + nOp s) + ((if w = 0 then 1 else 0) + nBr s)
    by_cases h : w = 0
    · rw [if_pos h, if_pos h]; omega
    · rw [if_neg h, if_neg h]; omega
theorem nBin_le (ws : List Nat) : nBin ws ≤ nOp ws := by
  induction ws with
  | nil => exact Nat.le_refl _
  | cons w s ih =>
    show (if w = 0 ∨ w = 2 then 0 else 1) + nBin s ≤ (if w = 0 then 0 else 1) + nOp s
    by_cases h : w = 0
    · rw [if_pos h, if_pos (Or.inl h)]; omega
    · rw [if_neg h]; split <;> omega
theorem rk_0 : rk 0 = 0 := rfl
theorem rk_p {w : Nat} (h0 : w ≠ 0) (h1 : w ≠ 1) : 1 ≤ rk w := by
  unfold rk
  split <;> (try omega); split <;> (try omega); split <;> (try omega); split <;> (try omega); split <;> (try omega); split <;> omega
theorem drop_y {t w : Nat} {s : List Nat} (h : t ≤ rk w) : dropW t (w :: s) = dropW t s := by show (if t ≤ rk w then _ else _) = _; rw [if_pos h]
theorem drop_n {t w : Nat} {s : List Nat} (h : ¬ t ≤ rk w) : dropW t (w :: s) = w :: s := by show (if t ≤ rk w then _ else _) = _; rw [if_neg h]
theorem drop_br {t : Nat} (ht : 1 ≤ t) : ∀ ws : List Nat, nBr (dropW t ws) = nBr ws := by
  intro ws
  induction ws with
  | nil => rfl
  | cons w s ih =>
    by_cases h : t ≤ rk w
    · rw [drop_y h, ih]
      show nBr s = (if w = 0 then 1 else 0) + nBr s
      rw [if_neg (fun z => by subst z; rw [rk_0] at h; omega)]; omega
    · rw [drop_n h]
theorem wtR.drop {R M : S32} {t : Nat} : ∀ {ws : List Nat}, wtR R M ws → wtR R M (dropW t ws) := by
  intro ws
  induction ws with
  | nil => exact id
  | cons w s ih =>
    intro h
    by_cases z : t ≤ rk w
    · rw [drop_y z]; exact ih h.2.2.2.2
    · rw [drop_n z]; exact h
theorem stop1 (fu : Nat) (vL v : S64) {R L M : S32} {a n w tc tr : Nat} {s st : List Nat} (hB : BS R L M a n (w :: s) st) (hl : s.length ≤ 71) (hc : ¬ tc ≤ rk w) (hr : ¬ tr ≤ rk w) (htc : tc ≤ 6) (htr : tr ≤ 6) (K1 : S32 → S32 → Int32 → Option (S32 × S32)) (K2 : S32 → Int32 → Option S32) : f_X4_release_J0 fu vL K1 R L (nI tc) = some (R, L) ∧ f_X12_bind_J0 fu v K2 M (nI tr) = some M := by
  obtain ⟨r2, m40, ⟨hw, hw1, w39, wR, hs⟩, -⟩ := hB
  have hlc : (w :: s).length = s.length + 1 := List.length_cons
  unfold f_X4_release_J0 f_X12_bind_J0
  rw [r2, m40, hlc, if_neg (nI_nle (n := s.length + 1) (by omega) (by omega)), if_neg (nI_nle (n := s.length + 1) (by omega) (by omega)), if_neg (show ¬ (72 : Int32) < nI (s.length + 1) from nI_nlt (a := 72) (by omega) (by omega)), nI_pred, tx_ck_q (j := s.length) (by omega) (by omega), tx_ck_q (j := s.length) (by omega) (by omega), nI_clamp (n := s.length) (by omega), wR, w39, c_rk fu hw hw1, m_rk fu hw hw1, tx_b1_q, tx_b1_q, if_pos (nI_lt (by omega) (by omega)), if_pos (nI_lt (by omega) (by omega))]
  exact ⟨rfl, rfl⟩
theorem bindL (fu : Nat) (vL v : S64) {a tc tr : Nat} (h1 : 1 ≤ tr) (htc : tc ≤ 6) (htr : tr ≤ 6) : ∀ (ws st : List Nat) (R L M : S32) (n nf nf' : Nat), BS R L M a n ws st → agT tc tr ws → ws.length ≤ 72 → st.length = 1 + nBin ws → n + nOp ws ≤ 64 → ws.length < nf → ws.length < nf' →
    ∃ R' L' M' st' n', f_X4_release_L0 fu vL nf R L (nI tc) = some (R', L') ∧ f_X12_bind_L0 fu v nf' M (nI tr) = some M' ∧ BS R' L' M' a n' (dropW tr ws) st' ∧ st'.length = 1 + nBin (dropW tr ws) ∧ n' + nOp (dropW tr ws) = n + nOp ws ∧ n ≤ n' ∧ (∀ r i, ¬ (r = 0 ∧ i = 2) → R' r i = R r i) ∧ (∀ r i, ¬ ((r = 1 ∨ r = 2) ∧ n ≤ i) → ¬ (r = 0 ∧ i = 5) → L' r i = L r i) ∧ BF n M M' ∧ ((∃ s', st = (n - 1) :: s') → ∃ s', st' = (n' - 1) :: s') := by
  intro ws
  induction ws with
  | nil =>
    intro st R L M n nf nf' hB _ _ hst hn h2 h3
    obtain ⟨nf, rfl⟩ := pos_ex h2
    obtain ⟨nf', rfl⟩ := pos_ex h3
    refine ⟨R, L, M, st, n, ?_, ?_, hB, hst, rfl, Nat.le_refl _, fun _ _ _ => rfl, fun _ _ _ _ => rfl, BF.refl n M, id⟩
    · show f_X4_release_J0 _ _ _ _ _ _ = _
      unfold f_X4_release_J0
      rw [hB.1]
      rfl
    · show f_X12_bind_J0 _ _ _ _ _ = _
      unfold f_X12_bind_J0
      rw [hB.2.1]
      rfl
  | cons w s ih =>
    intro st R L M n nf nf' hB hag hl hst hn h2 h3
    obtain ⟨nf, rfl⟩ := pos_ex h2
    obtain ⟨nf', rfl⟩ := pos_ex h3
    rw [List.length_cons] at hl h2 h3
    obtain ⟨hag1, hag2⟩ := hag
    by_cases z : tr ≤ rk w
    · have w0 : w ≠ 0 := fun q => by subst q; rw [rk_0] at z; omega
      have hop : nOp (w :: s) = 1 + nOp s := by show (if w = 0 then 0 else 1) + nOp s = _; rw [if_neg w0]
      have hbl := nBin_le (w :: s)
      have hll := len_q (w :: s)
      rw [List.length_cons] at hll
      obtain ⟨R1, L1, M1, st1, c1, c2, c3, c4, c5, c6, c7, s', c8⟩ := bind1 fu vL v hB w0 (by omega) (by omega) hst (by omega)
      obtain ⟨R', L', M', st', n', d1, d2, d3, d4, d5, d6, d7, d8, d9, d10⟩ := ih st1 R1 L1 M1 (n + 1) nf nf' c3 (hag2 z) (by omega) c4 (by omega) (by omega) (by omega)
      refine ⟨R', L', M', st', n', ?_, ?_, by rw [drop_y z]; exact d3, by rw [drop_y z]; exact d4, by rw [drop_y z]; omega, by omega, fun r i h => (d7 r i h).trans (c5 r i h), fun r i ha hb => (d8 r i (by omega) hb).trans (c6 r i ha hb), fun r i ha hb hc => (d9 r i ha (by omega) hc).trans (c7 r i ha hb hc), fun _ => d10 ⟨s', c8⟩⟩
      · show f_X4_release_J0 _ _ _ _ _ _ = _
        rw [c1 _ tc htc, if_pos (hag1.mpr z)]
        exact d1
      · show f_X12_bind_J0 _ _ _ _ _ = _
        rw [c2 _ tr htr, if_pos z]
        exact d2
    · obtain ⟨e1, e2⟩ := stop1 fu vL v hB (by omega) (fun q => z (hag1.mp q)) z htc htr (f_X4_release_L0 fu vL nf) (f_X12_bind_L0 fu v nf')
      refine ⟨R, L, M, st, n, e1, e2, by rw [drop_n z]; exact hB, by rw [drop_n z]; exact hst, by rw [drop_n z], Nat.le_refl _, fun _ _ _ => rfl, fun _ _ _ _ => rfl, BF.refl n M, id⟩
theorem agT.same (t : Nat) : ∀ ws, agT t t ws := by
  intro ws
  induction ws with
  | nil => trivial
  | cons w s ih => exact ⟨Iff.rfl, fun _ => ih⟩
/-- a comparison stands already -/
def cm (ws : List Nat) : Bool := match dropW 5 ws with | [] => false | w :: _ => decide (rk w = 4)
theorem cm_y {w : Nat} {s : List Nat} (h : 5 ≤ rk w) : cm (w :: s) = cm s := by unfold cm; rw [drop_y h]
theorem cm_n {w : Nat} {s : List Nat} (h : ¬ 5 ≤ rk w) : cm (w :: s) = decide (rk w = 4) := by unfold cm; rw [drop_n h]
theorem agT.cmp : ∀ ws, cm ws = false → agT 4 5 ws := by
  intro ws
  induction ws with
  | nil => intro _; trivial
  | cons w s ih =>
    intro h
    by_cases z : 5 ≤ rk w
    · rw [cm_y z] at h
      exact ⟨⟨fun _ => z, fun _ => by omega⟩, fun _ => ih h⟩
    · rw [cm_n z] at h
      have h4 := of_decide_eq_false h
      exact ⟨⟨fun q => by omega, fun q => absurd q z⟩, fun q => absurd q z⟩
theorem agT.end {R M : S32} : ∀ {ws}, wtR R M ws → nBr ws = 0 → agT 0 1 ws := by
  intro ws
  induction ws with
  | nil => intro _ _; trivial
  | cons w s ih =>
    intro hw h
    have h' : (if w = 0 then 1 else 0) + nBr s = 0 := h
    have w0 : w ≠ 0 := fun q => by rw [if_pos q] at h'; omega
    exact ⟨⟨fun _ => rk_p w0 hw.2.1, fun _ => Nat.zero_le _⟩, fun _ => ih hw.2.2.2.2 (by rw [if_neg w0] at h'; omega)⟩
theorem drop_end {R M : S32} : ∀ {ws}, wtR R M ws → nBr ws = 0 → dropW 1 ws = [] := by
  intro ws
  induction ws with
  | nil => intro _ _; rfl
  | cons w s ih =>
    intro hw h
    have h' : (if w = 0 then 1 else 0) + nBr s = 0 := h
    have w0 : w ≠ 0 := fun q => by rw [if_pos q] at h'; omega
    rw [drop_y (rk_p w0 hw.2.1)]
    exact ih hw.2.2.2.2 (by rw [if_neg w0] at h'; omega)
theorem drop_cl {R M : S32} : ∀ {ws}, wtR R M ws → 0 < nBr ws → ∃ s, dropW 1 ws = 0 :: s := by
  intro ws
  induction ws with
  | nil => intro _ h; exact absurd h (by decide)
  | cons w s ih =>
    intro hw h
    by_cases w0 : w = 0
    · subst w0; exact ⟨s, drop_n (by rw [rk_0]; omega)⟩
    · rw [drop_y (rk_p w0 hw.2.1)]
      have h' : 0 < (if w = 0 then 1 else 0) + nBr s := h
      rw [if_neg w0] at h'
      exact ih hw.2.2.2.2 (by omega)
theorem cm_drop {t : Nat} (ht : 5 ≤ t) : ∀ ws, cm (dropW t ws) = cm ws := by
  intro ws
  induction ws with
  | nil => rfl
  | cons w s ih =>
    by_cases z : t ≤ rk w
    · rw [drop_y z, ih, cm_y (by omega)]
    · rw [drop_n z]
theorem cm_5 {ws : List Nat} : (cm ws = true ↔ ∃ w s, dropW 5 ws = w :: s ∧ rk w = 4) := by
  unfold cm
  split
  · rename_i h; exact ⟨fun q => by simp at q, fun ⟨w, s, q, _⟩ => by rw [h] at q; cases q⟩
  · rename_i w s h
    exact ⟨fun q => ⟨w, s, h, of_decide_eq_true q⟩, fun ⟨w', s', q, r⟩ => by rw [h] at q; cases q; exact decide_eq_true r⟩
def bt (b : Bool) : Int32 := if b then 1 else 0
/-- the comparisons of what is open -/
def cmR (R : S32) : List Nat → Prop
  | [] => True
  | w :: s => (w = 0 → R 4 (nBr s) = bt (cm s)) ∧ cmR R s
theorem cmR.e {R R' : S32} : ∀ {ws}, cmR R ws → (∀ l, l < nBr ws → R' 4 l = R 4 l) → cmR R' ws := by
  intro ws
  induction ws with
  | nil => intro _ _; trivial
  | cons w s ih =>
    intro h e
    have hb : nBr (w :: s) = (if w = 0 then 1 else 0) + nBr s := rfl
    refine ⟨fun q => (e _ (by rw [hb, if_pos q]; omega)).trans (h.1 q), ih h.2 (fun l hl => e l (by omega))⟩
theorem cmR.drop {R : S32} {t : Nat} : ∀ {ws}, cmR R ws → cmR R (dropW t ws) := by
  intro ws
  induction ws with
  | nil => exact id
  | cons w s ih =>
    intro h
    by_cases z : t ≤ rk w
    · rw [drop_y z]; exact ih h.2
    · rw [drop_n z]; exact h
