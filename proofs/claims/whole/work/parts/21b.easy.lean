/-! what the relation gives, place by place -/
theorem one_ne : ¬ (1 : Int32) = 0 := by decide
theorem pos_ex {n m : Nat} (h : m < n) : ∃ k, n = k + 1 := ⟨n - 1, by omega⟩
theorem ge_lit {t n : Nat} (h : t < n) (hn : n < 2 ^ 31) : ¬ nI n ≤ nI t := nI_ge h hn
theorem ge12 {t : Nat} (h : t < 12) : ¬ (12 : Int32) ≤ nI t := ge_lit h (by decide)
theorem ge6 {t : Nat} (h : t < 6) : ¬ (6 : Int32) ≤ nI t := ge_lit h (by decide)
theorem ge4 {t : Nat} (h : t < 4) : ¬ (4 : Int32) ≤ nI t := ge_lit h (by decide)
theorem bk_p {B M : S32} {np nt nr : Nat} (h : bkOK B (pj M) np nt nr) {p : Nat} (hp : p < np) : B 3 p = M 23 p ∧ B 4 p = M 24 p ∧ B 5 p = M 25 p := by
  have h6 : p < 6 := by have := h.1.1; omega
  obtain ⟨h1, h2, h3⟩ := h.2.2.2.2.1 p hp
  rw [pj_in (rl6 (by simp) h6)] at h1 h2 h3
  exact ⟨h1, h2, h3⟩
theorem bk_t {B M : S32} {np nt nr : Nat} (h : bkOK B (pj M) np nt nr) {t : Nat} (ht : t < nt) : B 7 t = M 26 t ∧ B 8 t = M 27 t ∧ B 9 t = M 28 t ∧ B 10 t = M 29 t := by
  have h6 : t < 12 := by have := h.1.2.1; omega
  obtain ⟨h1, h2, h3, h4⟩ := h.2.2.2.2.2.1 t ht
  rw [pj_in (rl12 (by simp) h6)] at h1 h2 h3 h4
  exact ⟨h1, h2, h3, h4⟩
theorem bk_r {B M : S32} {np nt nr : Nat} (h : bkOK B (pj M) np nt nr) {r : Nat} (hr : r < nr) : B 12 r = M 30 r ∧ B 13 r = M 31 r ∧ B 14 r = M 32 r := by
  have h6 : r < 4 := by have := h.1.2.2; omega
  obtain ⟨h1, h2, h3⟩ := h.2.2.2.2.2.2.1 r hr
  rw [pj_in (rl4 (by simp) h6)] at h1 h2 h3
  exact ⟨h1, h2, h3⟩
theorem wd_p {W M : S32} {np nt : Nat} (h : wdOK W (pj M) 0 np nt) (hn : np ≤ 6) {p : Nat} (hp : p < np) : W 5 p = M 53 p ∧ W 7 p = M 54 p ∧ W 8 p = M 55 p ∧ W 9 p = M 56 p ∧ W 10 p = M 57 p := by
  have h6 : p < 6 := by omega
  obtain ⟨h1, h2, h3, h4, h5⟩ := h.1 p hp
  rw [Nat.mul_zero, Nat.zero_add, pj_in (rl6 (by simp) h6)] at h1 h2 h3 h4 h5
  exact ⟨h1, h2, h3, h4, h5⟩
theorem wd_t {W M : S32} {np nt : Nat} (h : wdOK W (pj M) 0 np nt) (hn : nt ≤ 12) {t : Nat} (ht : t < nt) : W 12 t = M 51 t ∧ W 13 t = M 52 t := by
  have h6 : t < 12 := by omega
  obtain ⟨h1, h2⟩ := h.2.1 t ht
  rw [Nat.mul_zero, Nat.zero_add, pj_in (rl12 (by simp) h6)] at h1 h2
  exact ⟨h1, h2⟩
/-! the class's tests of who holds -/
theorem c_isT {B : S32} {nt : Nat} (fu : Nat) (hB : B 0 5 = nI nt) (hn : nt ≤ 12) {t : Nat} (ht : t < nt) : f_X0_isThought fu B (nI t) = some 1 := by
  rcases s_cThought fu B hB hn (nI t) with ⟨-, e⟩ | ⟨hx, -⟩
  · exact e
  · exact absurd ⟨t, ht, rfl⟩ (s_no (by omega) hx)
theorem c_isM {B : S32} {np : Nat} (fu : Nat) (hB : B 0 1 = nI np) (hn : np ≤ 6) {p : Nat} (hp : p < np) : f_X0_isMan fu B (nI p) = some 1 := by
  rcases s_cMan fu B hB hn (nI p) with ⟨-, e⟩ | ⟨hx, -⟩
  · exact e
  · exact absurd ⟨p, hp, rfl⟩ (s_no (by omega) hx)
theorem c_isR {B : S32} {nr : Nat} (fu : Nat) (hB : B 0 10 = nI nr) (hn : nr ≤ 4) {r : Nat} (hr : r < nr) : f_X0_isReader fu B (nI r) = some 1 := by
  rcases s_cReader fu B hB hn (nI r) with ⟨-, e⟩ | ⟨hx, -⟩
  · exact e
  · exact absurd ⟨r, hr, rfl⟩ (s_no (by omega) hx)
theorem c_heldAt {B W : S32} {nt : Nat} (fu : Nat) (hB : B 0 5 = nI nt) (hn : nt ≤ 12) {t : Nat} (ht : t < nt) (x : Int32) : f_X10_isHeldAt fu W B (nI t) x = some (if W 11 t = 1 ∧ W 12 t = x then 1 else 0) := by
  unfold f_X10_isHeldAt
  rw [c_isT fu hB hn ht, tx_b1_q, if_neg (by decide)]
  simp (disch := omega) only [tx_ck_q, nI_clamp]
  by_cases h1 : W 11 t = 1
  · rw [if_pos h1]
    by_cases h2 : W 12 t = x
    · rw [if_pos h2, if_pos ⟨h1, h2⟩]
    · rw [if_neg h2, if_neg (fun z => h2 z.2)]
  · rw [if_neg h1, if_neg (fun z => h1 z.1)]
theorem c_held {B W : S32} {np nt nr : Nat} (fu : Nat) (hB : B 0 5 = nI nt) (hn : nt ≤ 12) (hB1 : B 0 1 = nI np) (hp : np ≤ 6) (hi : wdIn W np nt nr) {t : Nat} (ht : t < nt) : f_X10_isHeld fu W B (nI t) = some (if W 11 t = 1 then 1 else 0) := by
  unfold f_X10_isHeld
  rw [c_isT fu hB hn ht, tx_b1_q, if_neg (by decide)]
  simp (disch := omega) only [tx_ck_q, nI_clamp]
  by_cases h1 : W 11 t = 1
  · rw [if_pos h1, if_pos h1]
    rcases hi.2.1 t ht with ⟨-, a, ha, e⟩ | ⟨h | h, -⟩
    · rw [e, c_isM fu hB1 hp ha, tx_b1_q, if_neg (by decide)]
    · rw [h1] at h; exact absurd h (by decide)
    · rw [h1] at h; exact absurd h (by decide)
  · rw [if_neg h1, if_neg h1]
/-! calls that only look -/
theorem sp2 (fu : Nat) : SP2 RR fu := by
  intro k q U V y1 hR
  have h0 : U 12 0 2 = U 19 0 4 ∧ U 12 0 3 = U 19 0 5 := by
    obtain ⟨np, nt, nr, -, -, ⟨-, h, -⟩, -⟩ := hR
    exact h
  unfold f_X11_fault f_X12_fault
  rw [tx_let_q, up_t _ (by decide), up_t _ (by decide), ← h0.1, ← h0.2]
  by_cases e0 : y1 = 0
  · exact ⟨_, _, if_pos e0, if_pos e0, RR_t hR⟩
  · by_cases e1 : y1 = 1
    · exact ⟨_, _, (if_neg e0).trans (if_pos e1), (if_neg e0).trans (if_pos e1), RR_t hR⟩
    · exact ⟨_, _, (if_neg e0).trans (if_neg e1), (if_neg e0).trans (if_neg e1), RR_t hR⟩
theorem sp5 (fu : Nat) : SP5 RR fu := by
  intro k q U V y1 y2 hR
  obtain ⟨np, nt, nr, ⟨hb, hbi, hlw⟩, ⟨hw, hwi, hwb, hst, hnb⟩, hrest⟩ := id hR
  have hnp : np ≤ 6 := hb.1.1
  have h2 : (up2 (U 19) 0 2 0) 0 12 = nI np := by rw [up_t _ (by decide)]; exact hb.2.1.2
  unfold f_X11_man f_X12_man
  rw [tx_let_q]
  rcases t_man fu (U 2) (up2 (U 19) 0 2 0) (V 19) hb.2.1.1 h2 hnp y1 with ⟨p, hp, rfl, e1, e2⟩ | ⟨e1, e2⟩
  · rw [e1, e2, tx_b1_q, tx_b1_q, if_neg one_ne, if_neg one_ne]
    obtain ⟨w5, w7, w8, w9, w10⟩ := wd_p hw hnp hp
    obtain ⟨b3, b4, b5⟩ := bk_p hb hp
    have w6 := hwb.1 p hp
    simp (disch := omega) only [tx_ck_q, nI_clamp, up_r]
    rw [← w5, ← w7, ← w8, ← w9, ← w10, ← b5, w6]
    by_cases e0 : y2 = 0
    · exact ⟨_, _, if_pos e0, if_pos e0, RR_t hR⟩
    rw [if_neg e0, if_neg e0]
    by_cases e0 : y2 = 1
    · exact ⟨_, _, if_pos e0, if_pos e0, RR_t hR⟩
    rw [if_neg e0, if_neg e0]
    by_cases e0 : y2 = 2
    · exact ⟨_, _, if_pos e0, if_pos e0, RR_t hR⟩
    rw [if_neg e0, if_neg e0]
    by_cases e0 : y2 = 3
    · exact ⟨_, _, if_pos e0, if_pos e0, RR_t hR⟩
    rw [if_neg e0, if_neg e0]
    by_cases e0 : y2 = 4
    · exact ⟨_, _, if_pos e0, if_pos e0, RR_t hR⟩
    rw [if_neg e0, if_neg e0]
    by_cases e0 : y2 = 5
    · exact ⟨_, _, if_pos e0, if_pos e0, RR_t hR⟩
    · exact ⟨_, _, if_neg e0, if_neg e0, RR_t hR⟩
  · rw [e1, e2]
    exact ⟨_, _, rfl, rfl, RR_t hR⟩
theorem sp6 (fu : Nat) : SP6 RR fu := by
  intro k q U V y1 y2 hR
  obtain ⟨np, nt, nr, ⟨hb, hbi, hlw⟩, ⟨hw, hwi, hwb, hst, hnb⟩, hrest⟩ := id hR
  have hnr : nr ≤ 4 := hb.1.2.2
  have h2 : (up2 (U 19) 0 2 0) 0 14 = nI nr := by rw [up_t _ (by decide)]; exact hb.2.2.2.1.2
  unfold f_X11_reader f_X12_reader
  rw [tx_let_q]
  rcases t_reader fu (U 2) (up2 (U 19) 0 2 0) (V 19) hb.2.2.2.1.1 h2 hnr y1 with ⟨p, hp, rfl, e1, e2⟩ | ⟨e1, e2⟩
  · rw [e1, e2, tx_b1_q, tx_b1_q, if_neg one_ne, if_neg one_ne]
    obtain ⟨b3, b4, b5⟩ := bk_r hb hp
    have w6 := hwb.2 p hp
    simp (disch := omega) only [tx_ck_q, nI_clamp, up_r]
    rw [← b4, ← b5, w6.1, w6.2]
    by_cases e0 : y2 = 0
    · exact ⟨_, _, if_pos e0, if_pos e0, RR_t hR⟩
    rw [if_neg e0, if_neg e0]
    by_cases e0 : y2 = 1
    · exact ⟨_, _, if_pos e0, if_pos e0, RR_t hR⟩
    · exact ⟨_, _, if_neg e0, if_neg e0, RR_t hR⟩
  · rw [e1, e2]
    exact ⟨_, _, rfl, rfl, RR_t hR⟩
