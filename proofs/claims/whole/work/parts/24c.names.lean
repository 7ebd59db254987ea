/-! the names of a law at a door -/
theorem fl_nameDoor {B W : S32} {nt : Nat} (fu : Nat) (hB : B 0 5 = nI nt) (hn : nt ≤ 12) (x : Int32) (vN : S64) : ∀ (m t n : Nat) (a : Int32), t + m = nt → m < n → f_X10_nameDoor_L130 fu W B n vN x a (nI t) = some (up4 vN 0 5 (fd (fun (t : Nat) (a : Int32) => a + if W 11 t = 1 ∧ W 12 t = x then 1 else 0) m t a).toInt64) := by
  intro m
  induction m with
  | zero =>
    intro t n a ht hn2
    obtain ⟨n, rfl⟩ := pos_ex hn2
    show f_X10_nameDoor_J130 _ _ _ _ _ _ _ _ = _
    unfold f_X10_nameDoor_J130
    rw [hB, if_pos (nI_le (by omega) (by omega))]
    rfl
  | succ m ih =>
    intro t n a ht hn2
    obtain ⟨n, rfl⟩ := pos_ex hn2
    show f_X10_nameDoor_J130 _ _ _ _ _ _ _ _ = some (up4 vN 0 5 (fd (α := Int32) _ m (t + 1) _).toInt64)
    unfold f_X10_nameDoor_J130 f_X10_nameDoor_J177 f_X10_nameDoor_J178
    rw [hB, if_neg (ge_lit (t := t) (by omega) (by omega)), if_neg (ge12 (t := t) (by omega)), ← ih (t + 1) n _ (by omega) (by omega)]
    simp (disch := omega) only [tx_ck_q, nI_clamp, tx_let_q, tx_b1_q, nI_1]
    by_cases h0 : W 11 t = 1 <;> by_cases h1 : W 12 t = x <;> simp [h0, h1]
theorem fl_there {M : S32} {v : S64} {nt b : Nat} (fu : Nat) (hM : M 0 13 = nI nt) (hn : nt ≤ 12) (hb : b ≤ 1) (x : Int32) : ∀ (m t n : Nat) (a : Int32), t + m = nt → m < n → f_X12_there_L5 fu M v n (nI b) x a (nI t) = some (fd (fun (t : Nat) (a : Int32) => a + if M 50 (12 * b + t) = 1 ∧ M 51 (12 * b + t) = x then 1 else 0) m t a) := by
  intro m
  induction m with
  | zero =>
    intro t n a ht hn2
    obtain ⟨n, rfl⟩ := pos_ex hn2
    show f_X12_there_J5 _ _ _ _ _ _ _ _ = _
    unfold f_X12_there_J5
    rw [hM, if_pos (nI_le (by omega) (by omega))]
    rfl
  | succ m ih =>
    intro t n a ht hn2
    obtain ⟨n, rfl⟩ := pos_ex hn2
    show f_X12_there_J5 _ _ _ _ _ _ _ _ = some (fd _ m (t + 1) _)
    unfold f_X12_there_J5 f_X12_there_J51 f_X12_there_J52
    rw [hM, if_neg (ge_lit (t := t) (by omega) (by omega)), ← ih (t + 1) n _ (by omega) (by omega)]
    simp (disch := omega) only [ix12, tx_ck_q, nI_clamp, tx_let_q, tx_b1_q, nI_1]
    by_cases h0 : M 50 (12 * b + t) = 1 <;> by_cases h1 : M 51 (12 * b + t) = x <;> simp [h0, h1]
theorem ck7 {β : Type} (k : Option β) : tx_ck (1 : Int32) 7 k = k ∧ tx_ck (2 : Int32) 7 k = k ∧ tx_ck (3 : Int32) 7 k = k ∧ tx_ck (4 : Int32) 7 k = k :=
  ⟨tx_ck_q (j := 1) (by omega) (by omega) k, tx_ck_q (j := 2) (by omega) (by omega) k, tx_ck_q (j := 3) (by omega) (by omega) k, tx_ck_q (j := 4) (by omega) (by omega) k⟩
theorem nm_c (fu : Nat) (hf : 1000 ≤ fu) {B W : S32} {np nt nr : Nat} (b1 : B 0 1 = nI np) (hnp : np ≤ 6) (b5 : B 0 5 = nI nt) (hnt : nt ≤ 12) (b10 : B 0 10 = nI nr) (hnr : nr ≤ 4) (vN : S64) {p : Nat} (hp : p < np) (xr sk wo : Int32) (hx : (∃ r, r < nr ∧ xr = nI r ∧ sk = W 14 r) ∨ (xr = -1 ∧ sk = 0)) :
    ∃ vN', f_X10_nameDoor fu W B vN (nI p) xr wo = some vN' ∧ vN' 0 0 = wo.toInt64 ∧ vN' 0 1 = sk.toInt64 ∧ vN' 0 2 = (W 5 p).toInt64 ∧ vN' 0 3 = (W 6 p).toInt64 ∧ vN' 0 4 = (W 9 p).toInt64 ∧ vN' 0 5 = (fd (fun (t : Nat) (a : Int32) => a + if W 11 t = 1 ∧ W 12 t = nI p then 1 else 0) nt 0 0).toInt64 ∧ vN' 0 6 = (W 0 1).toInt64 := by
  have key : ∀ vN : S64, f_X10_nameDoor_J45 fu W B (up4 vN 0 0 wo.toInt64) (nI p) 1 1 sk.toInt64 = some (up4 (up4 (up4 (up4 (up4 (up4 (up4 vN 0 0 wo.toInt64) 0 1 sk.toInt64) 0 2 (W 5 p).toInt64) 0 3 (W 6 p).toInt64) 0 4 (W 9 p).toInt64) 0 6 (W 0 1).toInt64) 0 5 (fd (fun (t : Nat) (a : Int32) => a + if W 11 t = 1 ∧ W 12 t = nI p then 1 else 0) nt 0 0).toInt64) := by
    intro vN
    unfold f_X10_nameDoor_J45
    rw [(ck7 _).1, tx_let_q, if_neg one_ne, tx_ck_q (by omega) (by omega), nI_clamp (by omega)]
    unfold f_X10_nameDoor_J67
    rw [(ck7 _).2.1, tx_let_q, if_neg one_ne, tx_ck_q (by omega) (by omega), nI_clamp (by omega)]
    unfold f_X10_nameDoor_J89
    rw [(ck7 _).2.2.1, tx_let_q, if_neg one_ne, tx_ck_q (by omega) (by omega), nI_clamp (by omega)]
    unfold f_X10_nameDoor_J111
    rw [(ck7 _).2.2.2, tx_let_q, tx_let_q]
    exact fl_nameDoor fu b5 hnt (nI p) _ nt 0 fu 0 (by omega) (by omega)
  have key2 : f_X10_nameDoor fu W B vN (nI p) xr wo = f_X10_nameDoor_J45 fu W B (up4 vN 0 0 wo.toInt64) (nI p) 1 1 sk.toInt64 := by
    unfold f_X10_nameDoor
    rw [c_isM fu b1 hnp hp, tx_b1_q, tx_let_q]
    rcases hx with ⟨r, hr, rfl, rfl⟩ | ⟨rfl, rfl⟩
    · rw [c_isR fu b10 hnr hr, tx_b1_q, if_neg one_ne, tx_ck_q (by omega) (by omega), nI_clamp (by omega)]
      rfl
    · rcases s_cReader fu B b10 hnr (-1) with ⟨⟨r, hr, e⟩, -⟩ | ⟨-, e⟩
      · exact absurd e.symm (m1_ne (by omega))
      · rw [e, tx_b1_q, if_pos rfl]
        rfl
  refine ⟨_, key2.trans (key vN), ?_⟩
  refine ⟨?_, ?_, ?_, ?_, ?_, ?_, ?_⟩
  · rw [up4_i _ _ _ (by decide), up4_i _ _ _ (by decide), up4_i _ _ _ (by decide), up4_i _ _ _ (by decide), up4_i _ _ _ (by decide), up4_i _ _ _ (by decide), up4_e]
  · rw [up4_i _ _ _ (by decide), up4_i _ _ _ (by decide), up4_i _ _ _ (by decide), up4_i _ _ _ (by decide), up4_i _ _ _ (by decide), up4_e]
  · rw [up4_i _ _ _ (by decide), up4_i _ _ _ (by decide), up4_i _ _ _ (by decide), up4_i _ _ _ (by decide), up4_e]
  · rw [up4_i _ _ _ (by decide), up4_i _ _ _ (by decide), up4_i _ _ _ (by decide), up4_e]
  · rw [up4_i _ _ _ (by decide), up4_i _ _ _ (by decide), up4_e]
  · rw [up4_e]
  · rw [up4_i _ _ _ (by decide), up4_e]
theorem m_wiles (fu : Nat) {W M : S32} (v : S64) {np nr : Nat} (hnp : np ≤ 6) (h : flK W M np nr) {p : Nat} (hp : p < np) : f_X12_wilesOf fu M v (nI p) = some (W 6 p) := by
  unfold f_X12_wilesOf
  rw [(h.1 p hp).1]
  by_cases e : M 0 62 = 0
  · rw [if_pos e, if_pos e, tx_ck_q (by omega) (by omega), nI_clamp (by omega)]
  · rw [if_neg e, if_neg e]
theorem m_skill (fu : Nat) {W M : S32} (v : S64) {np nr : Nat} (hnr : nr ≤ 4) (h : flK W M np nr) {r : Nat} (hr : r < nr) : f_X12_skillIn fu M v (nI r) = some (W 14 r) := by
  unfold f_X12_skillIn
  rw [(h.2 r hr).1, if_pos (nI_pos' (by omega))]
  by_cases e : M 0 64 = 0
  · rw [if_pos e, if_pos e]
    by_cases e2 : nI r = M 0 68
    · rw [if_pos e2, if_pos e2]
    · rw [if_neg e2, if_neg e2, tx_ck_q (by omega) (by omega), nI_clamp (by omega)]
  · rw [if_neg e, if_neg e]
theorem m_skill0 (fu : Nat) (M : S32) (v : S64) : f_X12_skillIn fu M v (-1) = some 0 := by
  unfold f_X12_skillIn
  rw [if_neg (by decide)]
theorem ck2 {β : Type} {b : Nat} (hb : b ≤ 1) (k : Option β) : tx_ck (nI b) 2 k = k := tx_ck_q (by omega) (by omega) k
theorem thR.one {W M : S32} {b nt x : Nat} (h : thR W M b nt x) {t : Nat} (ht : t < nt) : W 11 t = 1 ↔ M 50 (12 * b + t) = 1 := by
  rcases (h t ht).1 with ⟨e, -⟩ | ⟨e1, e2, -⟩
  · rw [e]
  · rw [e1, e2]
    constructor
    · intro z; exact absurd z (by decide)
    · intro z; exact absurd z (by decide)
/-- the names laid on either side -/
theorem nm (fu : Nat) (hf : 1000 ≤ fu) {B L W M : S32} {b np nt nr x : Nat} {S : Nat → Prop} (h : WR B L W M b np nt nr x S) (vN v : S64) {p : Nat} (hp : p < np) (hS : S p) (xr sk wo : Int32) (hx : (∃ r, r < nr ∧ xr = nI r ∧ sk = W 14 r) ∨ (xr = -1 ∧ sk = 0)) :
    ∃ vN' v', f_X10_nameDoor fu W B vN (nI p) xr wo = some vN' ∧ f_X12_layNames fu M v (nI b) wo sk (nI p) = some v' ∧ (∀ r, r ≠ 47 → v' r = v r) ∧ ∀ a, a < 7 → vN' 0 a = v' 47 a ∧ inG (vN' 0 a) := by
  obtain ⟨⟨hb, ⟨⟨hnp, hnt, hnr⟩, ⟨b1, m1⟩, ⟨b5, m5⟩, ⟨b10, m10⟩, hbt, hbi⟩, hlw, hfl⟩, ⟨hth, hpp, hw0⟩, hin⟩ := h
  obtain ⟨vN', c0, c1, c2, c3, c4, c5, c6, c7⟩ := nm_c fu hf b1 hnp b5 hnt b10 hnr vN hp xr sk wo hx
  obtain ⟨p5, p7, p8, p9, p10⟩ := hpp p hS
  have th : ∀ v : S64, f_X12_there fu M v (nI b) (nI p) = some (fd (fun (t : Nat) (a : Int32) => a + if M 50 (12 * b + t) = 1 ∧ M 51 (12 * b + t) = nI p then 1 else 0) nt 0 0) := fun v => fl_there (v := v) fu m5 hnt hb (nI p) nt 0 fu 0 (by omega) (by omega)
  have ck := fun k : Option S64 => tx_ck_q (j := 6 * b + p) (n := 12) (by omega) (by omega) k
  have cl := nI_clamp (n := 6 * b + p) (by omega)
  have lay : f_X12_layNames fu M v (nI b) wo sk (nI p) = some (up4 (up4 (up4 (up4 (up4 (up4 (up4 v 47 0 wo.toInt64) 47 1 sk.toInt64) 47 2 (M 53 (6 * b + p)).toInt64) 47 3 (W 6 p).toInt64) 47 4 (M 56 (6 * b + p)).toInt64) 47 5 (fd (fun (t : Nat) (a : Int32) => a + if M 50 (12 * b + t) = 1 ∧ M 51 (12 * b + t) = nI p then 1 else 0) nt 0 0).toInt64) 47 6 (M 59 b).toInt64) := by
    unfold f_X12_layNames
    rw [ix6, cl, tx_let_q, tx_let_q, ck, tx_let_q, m_wiles fu _ hnp hfl hp, tx_b1_q, tx_let_q, ck, tx_let_q, th, tx_b1_q, tx_let_q, ck2 hb, tx_let_q, nI_clamp (n := b) (by omega)]
    rfl
  refine ⟨vN', _, c0, lay, ?_, ?_⟩
  · intro r hr
    rw [up4_n _ _ _ hr, up4_n _ _ _ hr, up4_n _ _ _ hr, up4_n _ _ _ hr, up4_n _ _ _ hr, up4_n _ _ _ hr, up4_n _ _ _ hr]
  · intro a ha
    have ha7 : a = 0 ∨ a = 1 ∨ a = 2 ∨ a = 3 ∨ a = 4 ∨ a = 5 ∨ a = 6 := by omega
    rcases ha7 with rfl | rfl | rfl | rfl | rfl | rfl | rfl
    · rw [up4_i _ _ _ (by decide), up4_i _ _ _ (by decide), up4_i _ _ _ (by decide), up4_i _ _ _ (by decide), up4_i _ _ _ (by decide), up4_i _ _ _ (by decide), up4_e, c1]
      exact ⟨rfl, q_i32 _⟩
    · rw [up4_i _ _ _ (by decide), up4_i _ _ _ (by decide), up4_i _ _ _ (by decide), up4_i _ _ _ (by decide), up4_i _ _ _ (by decide), up4_e, c2]
      exact ⟨rfl, q_i32 _⟩
    · rw [up4_i _ _ _ (by decide), up4_i _ _ _ (by decide), up4_i _ _ _ (by decide), up4_i _ _ _ (by decide), up4_e, c3, p5]
      exact ⟨rfl, q_i32 _⟩
    · rw [up4_i _ _ _ (by decide), up4_i _ _ _ (by decide), up4_i _ _ _ (by decide), up4_e, c4]
      exact ⟨rfl, q_i32 _⟩
    · rw [up4_i _ _ _ (by decide), up4_i _ _ _ (by decide), up4_e, c5, p9]
      exact ⟨rfl, q_i32 _⟩
    · rw [up4_i _ _ _ (by decide), up4_e, c6]
      refine ⟨congrArg Int32.toInt64 (fd_congr (n := nt) (fun t ht a => ?_) nt 0 0 (by omega)), q_i32 _⟩
      rw [(hth t ht).2.1]
      simp only [hth.one ht]
    · rw [up4_e, c7, hw0]
      exact ⟨rfl, q_i32 _⟩
