/-! what is put and taken -/
theorem put27_77 (fu : Nat) (v : S64) {o : Nat} (ho : o + 31 ≤ 620) : ∀ m p n M, p + m = 6 → m < n → ∃ M', f_X12_put_tX12r77_L27 fu v n M (nI o) (nI p) = some M' ∧ (∀ r, r ≠ 77 → M' r = M r) ∧ (∀ i, (∀ x, p ≤ x → x < 6 → i ≠ o + 12 + x ∧ i ≠ o + 18 + x ∧ i ≠ o + 24 + x) → i ≠ o + 30 → M' 77 i = M 77 i) ∧ (∀ x, p ≤ x → x < 6 → M' 77 (o + 12 + x) = M 53 x ∧ M' 77 (o + 18 + x) = M 56 x ∧ M' 77 (o + 24 + x) = M 57 x) ∧ M' 77 (o + 30) = M 58 0 := by
  intro m
  induction m with
  | zero =>
    intro p n M hp hn
    obtain ⟨n, rfl⟩ := pos_ex hn
    have : p = 6 := by omega
    subst this
    refine ⟨up2 M 77 (o + 30) (M 58 0), ?_, fun r h => up2_n _ _ _ h, fun i _ h => up2_i _ _ _ h, fun x h1 h2 => absurd h2 (by omega), up2_e _ _ _ _⟩
    show f_X12_put_tX12r77_J27 _ _ _ _ _ _ = _
    unfold f_X12_put_tX12r77_J27
    have e30 : nI o + (30 : Int32) = nI (o + 30) := nI_add o 30
    rw [if_pos (show (6 : Int32) ≤ nI 6 by decide), e30, tx_ck_q (by omega) (by omega), tx_let_q, nI_clamp (n := o + 30) (by omega)]
    rfl
  | succ m ih =>
    intro p n M hp hn
    obtain ⟨n, rfl⟩ := pos_ex hn
    obtain ⟨M', e1, e2, e3, e4, e5⟩ := ih (p + 1) n (up2 (up2 (up2 M 77 (o + 12 + p) (M 53 p)) 77 (o + 18 + p) (M 56 p)) 77 (o + 24 + p) (M 57 p)) (by omega) (by omega)
    have f : ∀ r, r ≠ 77 → (up2 (up2 (up2 M 77 (o + 12 + p) (M 53 p)) 77 (o + 18 + p) (M 56 p)) 77 (o + 24 + p) (M 57 p)) r = M r := fun r h => by rw [up2_n _ _ _ h, up2_n _ _ _ h, up2_n _ _ _ h]
    refine ⟨M', ?_, fun r h => (e2 r h).trans (f r h), ?_, ?_, e5.trans (by rw [f 58 (by decide)])⟩
    · show f_X12_put_tX12r77_J27 _ _ _ _ _ _ = _
      unfold f_X12_put_tX12r77_J27
      have a1 : nI o + (12 : Int32) + nI p = nI (o + 12 + p) := by rw [show (12 : Int32) = nI 12 from rfl, nI_add, nI_add]
      have a2 : nI o + (18 : Int32) + nI p = nI (o + 18 + p) := by rw [show (18 : Int32) = nI 18 from rfl, nI_add, nI_add]
      have a3 : nI o + (24 : Int32) + nI p = nI (o + 24 + p) := by rw [show (24 : Int32) = nI 24 from rfl, nI_add, nI_add]
      have ck := fun k : Option S32 => tx_ck_q (j := p) (n := 12) (by omega) (by omega) k
      have c1 := fun k : Option S32 => tx_ck_q (j := o + 12 + p) (n := 620) (by omega) (by omega) k
      have c2 := fun k : Option S32 => tx_ck_q (j := o + 18 + p) (n := 620) (by omega) (by omega) k
      have c3 := fun k : Option S32 => tx_ck_q (j := o + 24 + p) (n := 620) (by omega) (by omega) k
      rw [if_neg (ge6 (t := p) (by omega)), a1, a2, a3, ck, c1, tx_let_q, ck, c2, tx_let_q, ck, c3, tx_let_q, tx_let_q, nI_clamp (n := p) (by omega), nI_clamp (n := o + 12 + p) (by omega), nI_clamp (n := o + 18 + p) (by omega), nI_clamp (n := o + 24 + p) (by omega), nI_1]
      exact e1
    · intro i h1 h2
      rw [e3 i (fun x hx hx2 => h1 x (by omega) hx2) h2]
      obtain ⟨g1, g2, g3⟩ := h1 p (by omega) (by omega)
      rw [up2_i _ _ _ g3, up2_i _ _ _ g2, up2_i _ _ _ g1]
    · intro x h1 h2
      by_cases e : x = p
      · subst e
        refine ⟨?_, ?_, ?_⟩
        · rw [e3 _ (fun y hy hy2 => by omega) (by omega), up2_i _ _ _ (by omega), up2_i _ _ _ (by omega), up2_e]
        · rw [e3 _ (fun y hy hy2 => by omega) (by omega), up2_i _ _ _ (by omega), up2_e]
        · rw [e3 _ (fun y hy hy2 => by omega) (by omega), up2_e]
      · obtain ⟨g1, g2, g3⟩ := e4 x (by omega) h2
        rw [f 53 (by decide)] at g1
        rw [f 56 (by decide)] at g2
        rw [f 57 (by decide)] at g3
        exact ⟨g1, g2, g3⟩
theorem put2_77 (fu : Nat) (hf : 1000 ≤ fu) (v : S64) {o : Nat} (ho : o + 31 ≤ 620) : ∀ m t n M, t + m = 12 → m < n → ∃ M', f_X12_put_tX12r77_L2 fu v n M (nI o) (nI t) = some M' ∧ (∀ r, r ≠ 77 → M' r = M r) ∧ (∀ i, i < o + t ∨ o + 31 ≤ i → M' 77 i = M 77 i) ∧ (∀ x, t ≤ x → x < 12 → M' 77 (o + x) = M 51 x) ∧ (∀ x, x < 6 → M' 77 (o + 12 + x) = M 53 x ∧ M' 77 (o + 18 + x) = M 56 x ∧ M' 77 (o + 24 + x) = M 57 x) ∧ M' 77 (o + 30) = M 58 0 := by
  intro m
  induction m with
  | zero =>
    intro t n M ht hn
    obtain ⟨n, rfl⟩ := pos_ex hn
    have : t = 12 := by omega
    subst this
    obtain ⟨M', e1, e2, e3, e4, e5⟩ := put27_77 fu v ho 6 0 fu M (by omega) (by omega)
    refine ⟨M', ?_, e2, fun i hi => e3 i (fun x _ h => by omega) (by omega), fun x h1 h2 => absurd h2 (by omega), fun x hx => e4 x (by omega) hx, e5⟩
    show f_X12_put_tX12r77_J2 _ _ _ _ _ _ = _
    unfold f_X12_put_tX12r77_J2
    rw [if_pos (show (12 : Int32) ≤ nI 12 by decide)]
    exact e1
  | succ m ih =>
    intro t n M ht hn
    obtain ⟨n, rfl⟩ := pos_ex hn
    obtain ⟨M', e1, e2, e3, e4, e5, e6⟩ := ih (t + 1) n (up2 M 77 (o + t) (M 51 t)) (by omega) (by omega)
    have f : ∀ r, r ≠ 77 → (up2 M 77 (o + t) (M 51 t)) r = M r := fun r h => up2_n _ _ _ h
    refine ⟨M', ?_, fun r h => (e2 r h).trans (f r h), ?_, ?_, ?_, e6.trans (by rw [f 58 (by decide)])⟩
    · show f_X12_put_tX12r77_J2 _ _ _ _ _ _ = _
      unfold f_X12_put_tX12r77_J2
      have ck := fun k : Option S32 => tx_ck_q (j := t) (n := 24) (by omega) (by omega) k
      have c1 := fun k : Option S32 => tx_ck_q (j := o + t) (n := 620) (by omega) (by omega) k
      rw [if_neg (ge12 (t := t) (by omega)), ck, nI_add, c1, tx_let_q, tx_let_q, nI_clamp (n := t) (by omega), nI_clamp (n := o + t) (by omega), nI_1]
      exact e1
    · intro i hi
      rw [e3 i (by omega), up2_i _ _ _ (by omega)]
    · intro x h1 h2
      by_cases e : x = t
      · subst e
        rw [e3 _ (by omega), up2_e]
      · rw [e4 x (by omega) h2, f 51 (by decide)]
    · intro x hx
      obtain ⟨g1, g2, g3⟩ := e5 x hx
      rw [f 53 (by decide)] at g1
      rw [f 56 (by decide)] at g2
      rw [f 57 (by decide)] at g3
      exact ⟨g1, g2, g3⟩
theorem put_77 (fu : Nat) (hf : 1000 ≤ fu) (v : S64) {o : Nat} (ho : o + 31 ≤ 620) (M : S32) : ∃ M', f_X12_put_tX12r77 fu v M (nI o) = some M' ∧ (∀ r, r ≠ 77 → M' r = M r) ∧ (∀ i, i < o ∨ o + 31 ≤ i → M' 77 i = M 77 i) ∧ (∀ x, x < 12 → M' 77 (o + x) = M 51 x) ∧ (∀ x, x < 6 → M' 77 (o + 12 + x) = M 53 x ∧ M' 77 (o + 18 + x) = M 56 x ∧ M' 77 (o + 24 + x) = M 57 x) ∧ M' 77 (o + 30) = M 58 0 := by
  obtain ⟨M', e1, e2, e3, e4, e5, e6⟩ := put2_77 fu hf v ho 12 0 fu M (by omega) (by omega)
  exact ⟨M', e1, e2, fun i hi => e3 i (by omega), fun x hx => e4 x (by omega) hx, e5, e6⟩
theorem take27_77 (fu : Nat) (v : S64) {o : Nat} (ho : o + 31 ≤ 620) : ∀ m p n M, p + m = 6 → m < n → ∃ M', f_X12_take_tX12r77_L27 fu v n M (nI o) (nI p) = some M' ∧ (∀ r, r ≠ 53 → r ≠ 56 → r ≠ 57 → r ≠ 58 → M' r = M r) ∧ (∀ i, i ≠ 0 → M' 58 i = M 58 i) ∧ M' 58 0 = M 77 (o + 30) ∧ (∀ x, x < p ∨ 6 ≤ x → M' 53 x = M 53 x ∧ M' 56 x = M 56 x ∧ M' 57 x = M 57 x) ∧ (∀ x, p ≤ x → x < 6 → M' 53 x = M 77 (o + 12 + x) ∧ M' 56 x = M 77 (o + 18 + x) ∧ M' 57 x = M 77 (o + 24 + x)) := by
  intro m
  induction m with
  | zero =>
    intro p n M hp hn
    obtain ⟨n, rfl⟩ := pos_ex hn
    have : p = 6 := by omega
    subst this
    refine ⟨up2 M 58 0 (M 77 (o + 30)), ?_, fun r _ _ _ h => up2_n _ _ _ h, fun i h => up2_i _ _ _ h, up2_e _ _ _ _, fun x _ => ⟨by rw [up2_n _ _ _ (by decide)], by rw [up2_n _ _ _ (by decide)], by rw [up2_n _ _ _ (by decide)]⟩, fun x h1 h2 => absurd h2 (by omega)⟩
    show f_X12_take_tX12r77_J27 _ _ _ _ _ _ = _
    unfold f_X12_take_tX12r77_J27
    have e30 : nI o + (30 : Int32) = nI (o + 30) := nI_add o 30
    rw [if_pos (show (6 : Int32) ≤ nI 6 by decide), e30, tx_ck_q (by omega) (by omega), tx_let_q, nI_clamp (n := o + 30) (by omega)]
    rfl
  | succ m ih =>
    intro p n M hp hn
    obtain ⟨n, rfl⟩ := pos_ex hn
    obtain ⟨M', e1, e2, e3, e4, e5, e6⟩ := ih (p + 1) n (up2 (up2 (up2 M 53 p (M 77 (o + 12 + p))) 56 p (M 77 (o + 18 + p))) 57 p (M 77 (o + 24 + p))) (by omega) (by omega)
    have f : ∀ r, r ≠ 53 → r ≠ 56 → r ≠ 57 → (up2 (up2 (up2 M 53 p (M 77 (o + 12 + p))) 56 p (M 77 (o + 18 + p))) 57 p (M 77 (o + 24 + p))) r = M r := fun r h1 h2 h3 => by rw [up2_n _ _ _ h3, up2_n _ _ _ h2, up2_n _ _ _ h1]
    refine ⟨M', ?_, fun r h1 h2 h3 h4 => (e2 r h1 h2 h3 h4).trans (f r h1 h2 h3), fun i hi => (e3 i hi).trans (by rw [f 58 (by decide) (by decide) (by decide)]), e4.trans (by rw [f 77 (by decide) (by decide) (by decide)]), ?_, ?_⟩
    · show f_X12_take_tX12r77_J27 _ _ _ _ _ _ = _
      unfold f_X12_take_tX12r77_J27
      have a1 : nI o + (12 : Int32) + nI p = nI (o + 12 + p) := by rw [show (12 : Int32) = nI 12 from rfl, nI_add, nI_add]
      have a2 : nI o + (18 : Int32) + nI p = nI (o + 18 + p) := by rw [show (18 : Int32) = nI 18 from rfl, nI_add, nI_add]
      have a3 : nI o + (24 : Int32) + nI p = nI (o + 24 + p) := by rw [show (24 : Int32) = nI 24 from rfl, nI_add, nI_add]
      have ck := fun k : Option S32 => tx_ck_q (j := p) (n := 12) (by omega) (by omega) k
      have c1 := fun k : Option S32 => tx_ck_q (j := o + 12 + p) (n := 620) (by omega) (by omega) k
      have c2 := fun k : Option S32 => tx_ck_q (j := o + 18 + p) (n := 620) (by omega) (by omega) k
      have c3 := fun k : Option S32 => tx_ck_q (j := o + 24 + p) (n := 620) (by omega) (by omega) k
      rw [if_neg (ge6 (t := p) (by omega)), a1, a2, a3, c1, ck, tx_let_q, c2, ck, tx_let_q, c3, ck, tx_let_q, tx_let_q, nI_clamp (n := p) (by omega), nI_clamp (n := o + 12 + p) (by omega), nI_clamp (n := o + 18 + p) (by omega), nI_clamp (n := o + 24 + p) (by omega), nI_1]
      exact e1
    · intro x hx
      obtain ⟨g1, g2, g3⟩ := e5 x (by omega)
      rw [g1, g2, g3]
      refine ⟨?_, ?_, ?_⟩
      · rw [up2_n _ _ _ (by decide), up2_n _ _ _ (by decide), up2_i _ _ _ (by omega)]
      · rw [up2_n _ _ _ (by decide), up2_i _ _ _ (by omega), up2_n _ _ _ (by decide)]
      · rw [up2_i _ _ _ (by omega), up2_n _ _ _ (by decide), up2_n _ _ _ (by decide)]
    · intro x h1 h2
      by_cases e : x = p
      · subst e
        obtain ⟨g1, g2, g3⟩ := e5 x (by omega)
        rw [g1, g2, g3]
        refine ⟨?_, ?_, ?_⟩
        · rw [up2_n _ _ _ (by decide), up2_n _ _ _ (by decide), up2_e]
        · rw [up2_n _ _ _ (by decide), up2_e]
        · rw [up2_e]
      · obtain ⟨g1, g2, g3⟩ := e6 x (by omega) h2
        rw [f 77 (by decide) (by decide) (by decide)] at g1 g2 g3
        exact ⟨g1, g2, g3⟩
theorem take2_77 (fu : Nat) (hf : 1000 ≤ fu) (v : S64) {o : Nat} (ho : o + 31 ≤ 620) : ∀ m t n M, t + m = 12 → m < n → ∃ M', f_X12_take_tX12r77_L2 fu v n M (nI o) (nI t) = some M' ∧ (∀ r, r ≠ 51 → r ≠ 53 → r ≠ 56 → r ≠ 57 → r ≠ 58 → M' r = M r) ∧ (∀ i, i ≠ 0 → M' 58 i = M 58 i) ∧ M' 58 0 = M 77 (o + 30) ∧ (∀ x, 6 ≤ x → M' 53 x = M 53 x ∧ M' 56 x = M 56 x ∧ M' 57 x = M 57 x) ∧ (∀ x, x < 6 → M' 53 x = M 77 (o + 12 + x) ∧ M' 56 x = M 77 (o + 18 + x) ∧ M' 57 x = M 77 (o + 24 + x)) ∧ (∀ x, x < t ∨ 12 ≤ x → M' 51 x = M 51 x) ∧ (∀ x, t ≤ x → x < 12 → M' 51 x = M 77 (o + x)) := by
  intro m
  induction m with
  | zero =>
    intro t n M ht hn
    obtain ⟨n, rfl⟩ := pos_ex hn
    have : t = 12 := by omega
    subst this
    obtain ⟨M', e1, e2, e3, e4, e5, e6⟩ := take27_77 fu v ho 6 0 fu M (by omega) (by omega)
    refine ⟨M', ?_, fun r _ h1 h2 h3 h4 => e2 r h1 h2 h3 h4, e3, e4, fun x hx => e5 x (Or.inr hx), fun x hx => e6 x (by omega) hx, fun x _ => by rw [e2 51 (by decide) (by decide) (by decide) (by decide)], fun x h1 h2 => absurd h2 (by omega)⟩
    show f_X12_take_tX12r77_J2 _ _ _ _ _ _ = _
    unfold f_X12_take_tX12r77_J2
    rw [if_pos (show (12 : Int32) ≤ nI 12 by decide)]
    exact e1
  | succ m ih =>
    intro t n M ht hn
    obtain ⟨n, rfl⟩ := pos_ex hn
    obtain ⟨M', e1, e2, e3, e4, e5, e6, e7, e8⟩ := ih (t + 1) n (up2 M 51 t (M 77 (o + t))) (by omega) (by omega)
    have f : ∀ r, r ≠ 51 → (up2 M 51 t (M 77 (o + t))) r = M r := fun r h => up2_n _ _ _ h
    rw [f 58 (by decide)] at e3
    rw [f 77 (by decide)] at e4
    refine ⟨M', ?_, fun r h h1 h2 h3 h4 => (e2 r h h1 h2 h3 h4).trans (f r h), e3, e4, fun x hx => ?_, fun x hx => ?_, fun x hx => ?_, fun x h1 h2 => ?_⟩
    · show f_X12_take_tX12r77_J2 _ _ _ _ _ _ = _
      unfold f_X12_take_tX12r77_J2
      have ck := fun k : Option S32 => tx_ck_q (j := t) (n := 24) (by omega) (by omega) k
      have c1 := fun k : Option S32 => tx_ck_q (j := o + t) (n := 620) (by omega) (by omega) k
      rw [if_neg (ge12 (t := t) (by omega)), nI_add, c1, ck, tx_let_q, tx_let_q, nI_clamp (n := t) (by omega), nI_clamp (n := o + t) (by omega), nI_1]
      exact e1
    · have g := e5 x hx
      rw [f 53 (by decide), f 56 (by decide), f 57 (by decide)] at g
      exact g
    · have g := e6 x hx
      rw [f 77 (by decide)] at g
      exact g
    · rw [e7 x (by omega), up2_i _ _ _ (by omega)]
    · by_cases e : x = t
      · subst e
        rw [e7 x (by omega), up2_e]
      · rw [e8 x (by omega) h2, f 77 (by decide)]
theorem take_77 (fu : Nat) (hf : 1000 ≤ fu) (v : S64) {o : Nat} (ho : o + 31 ≤ 620) (M : S32) : ∃ M', f_X12_take_tX12r77 fu v M (nI o) = some M' ∧ (∀ r, r ≠ 51 → r ≠ 53 → r ≠ 56 → r ≠ 57 → r ≠ 58 → M' r = M r) ∧ M' 58 0 = M 77 (o + 30) ∧ (∀ x, x < 6 → M' 53 x = M 77 (o + 12 + x) ∧ M' 56 x = M 77 (o + 18 + x) ∧ M' 57 x = M 77 (o + 24 + x)) ∧ (∀ x, x < 12 → M' 51 x = M 77 (o + x)) := by
  obtain ⟨M', e1, e2, e3, e4, e5, e6, e7, e8⟩ := take2_77 fu hf v ho 12 0 fu M (by omega) (by omega)
  exact ⟨M', e1, e2, e4, e6, fun x hx => e8 x (by omega) hx⟩
theorem put27_79 (fu : Nat) (v : S64) {o : Nat} (ho : o + 31 ≤ 31) : ∀ m p n M, p + m = 6 → m < n → ∃ M', f_X12_put_tX12r79_L27 fu v n M (nI o) (nI p) = some M' ∧ (∀ r, r ≠ 79 → M' r = M r) ∧ (∀ i, (∀ x, p ≤ x → x < 6 → i ≠ o + 12 + x ∧ i ≠ o + 18 + x ∧ i ≠ o + 24 + x) → i ≠ o + 30 → M' 79 i = M 79 i) ∧ (∀ x, p ≤ x → x < 6 → M' 79 (o + 12 + x) = M 53 x ∧ M' 79 (o + 18 + x) = M 56 x ∧ M' 79 (o + 24 + x) = M 57 x) ∧ M' 79 (o + 30) = M 58 0 := by
  intro m
  induction m with
  | zero =>
    intro p n M hp hn
    obtain ⟨n, rfl⟩ := pos_ex hn
    have : p = 6 := by omega
    subst this
    refine ⟨up2 M 79 (o + 30) (M 58 0), ?_, fun r h => up2_n _ _ _ h, fun i _ h => up2_i _ _ _ h, fun x h1 h2 => absurd h2 (by omega), up2_e _ _ _ _⟩
    show f_X12_put_tX12r79_J27 _ _ _ _ _ _ = _
    unfold f_X12_put_tX12r79_J27
    have e30 : nI o + (30 : Int32) = nI (o + 30) := nI_add o 30
    rw [if_pos (show (6 : Int32) ≤ nI 6 by decide), e30, tx_ck_q (by omega) (by omega), tx_let_q, nI_clamp (n := o + 30) (by omega)]
    rfl
  | succ m ih =>
    intro p n M hp hn
    obtain ⟨n, rfl⟩ := pos_ex hn
    obtain ⟨M', e1, e2, e3, e4, e5⟩ := ih (p + 1) n (up2 (up2 (up2 M 79 (o + 12 + p) (M 53 p)) 79 (o + 18 + p) (M 56 p)) 79 (o + 24 + p) (M 57 p)) (by omega) (by omega)
    have f : ∀ r, r ≠ 79 → (up2 (up2 (up2 M 79 (o + 12 + p) (M 53 p)) 79 (o + 18 + p) (M 56 p)) 79 (o + 24 + p) (M 57 p)) r = M r := fun r h => by rw [up2_n _ _ _ h, up2_n _ _ _ h, up2_n _ _ _ h]
    refine ⟨M', ?_, fun r h => (e2 r h).trans (f r h), ?_, ?_, e5.trans (by rw [f 58 (by decide)])⟩
    · show f_X12_put_tX12r79_J27 _ _ _ _ _ _ = _
      unfold f_X12_put_tX12r79_J27
      have a1 : nI o + (12 : Int32) + nI p = nI (o + 12 + p) := by rw [show (12 : Int32) = nI 12 from rfl, nI_add, nI_add]
      have a2 : nI o + (18 : Int32) + nI p = nI (o + 18 + p) := by rw [show (18 : Int32) = nI 18 from rfl, nI_add, nI_add]
      have a3 : nI o + (24 : Int32) + nI p = nI (o + 24 + p) := by rw [show (24 : Int32) = nI 24 from rfl, nI_add, nI_add]
      have ck := fun k : Option S32 => tx_ck_q (j := p) (n := 12) (by omega) (by omega) k
      have c1 := fun k : Option S32 => tx_ck_q (j := o + 12 + p) (n := 31) (by omega) (by omega) k
      have c2 := fun k : Option S32 => tx_ck_q (j := o + 18 + p) (n := 31) (by omega) (by omega) k
      have c3 := fun k : Option S32 => tx_ck_q (j := o + 24 + p) (n := 31) (by omega) (by omega) k
      rw [if_neg (ge6 (t := p) (by omega)), a1, a2, a3, ck, c1, tx_let_q, ck, c2, tx_let_q, ck, c3, tx_let_q, tx_let_q, nI_clamp (n := p) (by omega), nI_clamp (n := o + 12 + p) (by omega), nI_clamp (n := o + 18 + p) (by omega), nI_clamp (n := o + 24 + p) (by omega), nI_1]
      exact e1
    · intro i h1 h2
      rw [e3 i (fun x hx hx2 => h1 x (by omega) hx2) h2]
      obtain ⟨g1, g2, g3⟩ := h1 p (by omega) (by omega)
      rw [up2_i _ _ _ g3, up2_i _ _ _ g2, up2_i _ _ _ g1]
    · intro x h1 h2
      by_cases e : x = p
      · subst e
        refine ⟨?_, ?_, ?_⟩
        · rw [e3 _ (fun y hy hy2 => by omega) (by omega), up2_i _ _ _ (by omega), up2_i _ _ _ (by omega), up2_e]
        · rw [e3 _ (fun y hy hy2 => by omega) (by omega), up2_i _ _ _ (by omega), up2_e]
        · rw [e3 _ (fun y hy hy2 => by omega) (by omega), up2_e]
      · obtain ⟨g1, g2, g3⟩ := e4 x (by omega) h2
        rw [f 53 (by decide)] at g1
        rw [f 56 (by decide)] at g2
        rw [f 57 (by decide)] at g3
        exact ⟨g1, g2, g3⟩
theorem put2_79 (fu : Nat) (hf : 1000 ≤ fu) (v : S64) {o : Nat} (ho : o + 31 ≤ 31) : ∀ m t n M, t + m = 12 → m < n → ∃ M', f_X12_put_tX12r79_L2 fu v n M (nI o) (nI t) = some M' ∧ (∀ r, r ≠ 79 → M' r = M r) ∧ (∀ i, i < o + t ∨ o + 31 ≤ i → M' 79 i = M 79 i) ∧ (∀ x, t ≤ x → x < 12 → M' 79 (o + x) = M 51 x) ∧ (∀ x, x < 6 → M' 79 (o + 12 + x) = M 53 x ∧ M' 79 (o + 18 + x) = M 56 x ∧ M' 79 (o + 24 + x) = M 57 x) ∧ M' 79 (o + 30) = M 58 0 := by
  intro m
  induction m with
  | zero =>
    intro t n M ht hn
    obtain ⟨n, rfl⟩ := pos_ex hn
    have : t = 12 := by omega
    subst this
    obtain ⟨M', e1, e2, e3, e4, e5⟩ := put27_79 fu v ho 6 0 fu M (by omega) (by omega)
    refine ⟨M', ?_, e2, fun i hi => e3 i (fun x _ h => by omega) (by omega), fun x h1 h2 => absurd h2 (by omega), fun x hx => e4 x (by omega) hx, e5⟩
    show f_X12_put_tX12r79_J2 _ _ _ _ _ _ = _
    unfold f_X12_put_tX12r79_J2
    rw [if_pos (show (12 : Int32) ≤ nI 12 by decide)]
    exact e1
  | succ m ih =>
    intro t n M ht hn
    obtain ⟨n, rfl⟩ := pos_ex hn
    obtain ⟨M', e1, e2, e3, e4, e5, e6⟩ := ih (t + 1) n (up2 M 79 (o + t) (M 51 t)) (by omega) (by omega)
    have f : ∀ r, r ≠ 79 → (up2 M 79 (o + t) (M 51 t)) r = M r := fun r h => up2_n _ _ _ h
    refine ⟨M', ?_, fun r h => (e2 r h).trans (f r h), ?_, ?_, ?_, e6.trans (by rw [f 58 (by decide)])⟩
    · show f_X12_put_tX12r79_J2 _ _ _ _ _ _ = _
      unfold f_X12_put_tX12r79_J2
      have ck := fun k : Option S32 => tx_ck_q (j := t) (n := 24) (by omega) (by omega) k
      have c1 := fun k : Option S32 => tx_ck_q (j := o + t) (n := 31) (by omega) (by omega) k
      rw [if_neg (ge12 (t := t) (by omega)), ck, nI_add, c1, tx_let_q, tx_let_q, nI_clamp (n := t) (by omega), nI_clamp (n := o + t) (by omega), nI_1]
      exact e1
    · intro i hi
      rw [e3 i (by omega), up2_i _ _ _ (by omega)]
    · intro x h1 h2
      by_cases e : x = t
      · subst e
        rw [e3 _ (by omega), up2_e]
      · rw [e4 x (by omega) h2, f 51 (by decide)]
    · intro x hx
      obtain ⟨g1, g2, g3⟩ := e5 x hx
      rw [f 53 (by decide)] at g1
      rw [f 56 (by decide)] at g2
      rw [f 57 (by decide)] at g3
      exact ⟨g1, g2, g3⟩
theorem put_79 (fu : Nat) (hf : 1000 ≤ fu) (v : S64) {o : Nat} (ho : o + 31 ≤ 31) (M : S32) : ∃ M', f_X12_put_tX12r79 fu v M (nI o) = some M' ∧ (∀ r, r ≠ 79 → M' r = M r) ∧ (∀ i, i < o ∨ o + 31 ≤ i → M' 79 i = M 79 i) ∧ (∀ x, x < 12 → M' 79 (o + x) = M 51 x) ∧ (∀ x, x < 6 → M' 79 (o + 12 + x) = M 53 x ∧ M' 79 (o + 18 + x) = M 56 x ∧ M' 79 (o + 24 + x) = M 57 x) ∧ M' 79 (o + 30) = M 58 0 := by
  obtain ⟨M', e1, e2, e3, e4, e5, e6⟩ := put2_79 fu hf v ho 12 0 fu M (by omega) (by omega)
  exact ⟨M', e1, e2, fun i hi => e3 i (by omega), fun x hx => e4 x (by omega) hx, e5, e6⟩
theorem take27_79 (fu : Nat) (v : S64) {o : Nat} (ho : o + 31 ≤ 31) : ∀ m p n M, p + m = 6 → m < n → ∃ M', f_X12_take_tX12r79_L27 fu v n M (nI o) (nI p) = some M' ∧ (∀ r, r ≠ 53 → r ≠ 56 → r ≠ 57 → r ≠ 58 → M' r = M r) ∧ (∀ i, i ≠ 0 → M' 58 i = M 58 i) ∧ M' 58 0 = M 79 (o + 30) ∧ (∀ x, x < p ∨ 6 ≤ x → M' 53 x = M 53 x ∧ M' 56 x = M 56 x ∧ M' 57 x = M 57 x) ∧ (∀ x, p ≤ x → x < 6 → M' 53 x = M 79 (o + 12 + x) ∧ M' 56 x = M 79 (o + 18 + x) ∧ M' 57 x = M 79 (o + 24 + x)) := by
  intro m
  induction m with
  | zero =>
    intro p n M hp hn
    obtain ⟨n, rfl⟩ := pos_ex hn
    have : p = 6 := by omega
    subst this
    refine ⟨up2 M 58 0 (M 79 (o + 30)), ?_, fun r _ _ _ h => up2_n _ _ _ h, fun i h => up2_i _ _ _ h, up2_e _ _ _ _, fun x _ => ⟨by rw [up2_n _ _ _ (by decide)], by rw [up2_n _ _ _ (by decide)], by rw [up2_n _ _ _ (by decide)]⟩, fun x h1 h2 => absurd h2 (by omega)⟩
    show f_X12_take_tX12r79_J27 _ _ _ _ _ _ = _
    unfold f_X12_take_tX12r79_J27
    have e30 : nI o + (30 : Int32) = nI (o + 30) := nI_add o 30
    rw [if_pos (show (6 : Int32) ≤ nI 6 by decide), e30, tx_ck_q (by omega) (by omega), tx_let_q, nI_clamp (n := o + 30) (by omega)]
    rfl
  | succ m ih =>
    intro p n M hp hn
    obtain ⟨n, rfl⟩ := pos_ex hn
    obtain ⟨M', e1, e2, e3, e4, e5, e6⟩ := ih (p + 1) n (up2 (up2 (up2 M 53 p (M 79 (o + 12 + p))) 56 p (M 79 (o + 18 + p))) 57 p (M 79 (o + 24 + p))) (by omega) (by omega)
    have f : ∀ r, r ≠ 53 → r ≠ 56 → r ≠ 57 → (up2 (up2 (up2 M 53 p (M 79 (o + 12 + p))) 56 p (M 79 (o + 18 + p))) 57 p (M 79 (o + 24 + p))) r = M r := fun r h1 h2 h3 => by rw [up2_n _ _ _ h3, up2_n _ _ _ h2, up2_n _ _ _ h1]
    refine ⟨M', ?_, fun r h1 h2 h3 h4 => (e2 r h1 h2 h3 h4).trans (f r h1 h2 h3), fun i hi => (e3 i hi).trans (by rw [f 58 (by decide) (by decide) (by decide)]), e4.trans (by rw [f 79 (by decide) (by decide) (by decide)]), ?_, ?_⟩
    · show f_X12_take_tX12r79_J27 _ _ _ _ _ _ = _
      unfold f_X12_take_tX12r79_J27
      have a1 : nI o + (12 : Int32) + nI p = nI (o + 12 + p) := by rw [show (12 : Int32) = nI 12 from rfl, nI_add, nI_add]
      have a2 : nI o + (18 : Int32) + nI p = nI (o + 18 + p) := by rw [show (18 : Int32) = nI 18 from rfl, nI_add, nI_add]
      have a3 : nI o + (24 : Int32) + nI p = nI (o + 24 + p) := by rw [show (24 : Int32) = nI 24 from rfl, nI_add, nI_add]
      have ck := fun k : Option S32 => tx_ck_q (j := p) (n := 12) (by omega) (by omega) k
      have c1 := fun k : Option S32 => tx_ck_q (j := o + 12 + p) (n := 31) (by omega) (by omega) k
      have c2 := fun k : Option S32 => tx_ck_q (j := o + 18 + p) (n := 31) (by omega) (by omega) k
      have c3 := fun k : Option S32 => tx_ck_q (j := o + 24 + p) (n := 31) (by omega) (by omega) k
      rw [if_neg (ge6 (t := p) (by omega)), a1, a2, a3, c1, ck, tx_let_q, c2, ck, tx_let_q, c3, ck, tx_let_q, tx_let_q, nI_clamp (n := p) (by omega), nI_clamp (n := o + 12 + p) (by omega), nI_clamp (n := o + 18 + p) (by omega), nI_clamp (n := o + 24 + p) (by omega), nI_1]
      exact e1
    · intro x hx
      obtain ⟨g1, g2, g3⟩ := e5 x (by omega)
      rw [g1, g2, g3]
      refine ⟨?_, ?_, ?_⟩
      · rw [up2_n _ _ _ (by decide), up2_n _ _ _ (by decide), up2_i _ _ _ (by omega)]
      · rw [up2_n _ _ _ (by decide), up2_i _ _ _ (by omega), up2_n _ _ _ (by decide)]
      · rw [up2_i _ _ _ (by omega), up2_n _ _ _ (by decide), up2_n _ _ _ (by decide)]
    · intro x h1 h2
      by_cases e : x = p
      · subst e
        obtain ⟨g1, g2, g3⟩ := e5 x (by omega)
        rw [g1, g2, g3]
        refine ⟨?_, ?_, ?_⟩
        · rw [up2_n _ _ _ (by decide), up2_n _ _ _ (by decide), up2_e]
        · rw [up2_n _ _ _ (by decide), up2_e]
        · rw [up2_e]
      · obtain ⟨g1, g2, g3⟩ := e6 x (by omega) h2
        rw [f 79 (by decide) (by decide) (by decide)] at g1 g2 g3
        exact ⟨g1, g2, g3⟩
theorem take2_79 (fu : Nat) (hf : 1000 ≤ fu) (v : S64) {o : Nat} (ho : o + 31 ≤ 31) : ∀ m t n M, t + m = 12 → m < n → ∃ M', f_X12_take_tX12r79_L2 fu v n M (nI o) (nI t) = some M' ∧ (∀ r, r ≠ 51 → r ≠ 53 → r ≠ 56 → r ≠ 57 → r ≠ 58 → M' r = M r) ∧ (∀ i, i ≠ 0 → M' 58 i = M 58 i) ∧ M' 58 0 = M 79 (o + 30) ∧ (∀ x, 6 ≤ x → M' 53 x = M 53 x ∧ M' 56 x = M 56 x ∧ M' 57 x = M 57 x) ∧ (∀ x, x < 6 → M' 53 x = M 79 (o + 12 + x) ∧ M' 56 x = M 79 (o + 18 + x) ∧ M' 57 x = M 79 (o + 24 + x)) ∧ (∀ x, x < t ∨ 12 ≤ x → M' 51 x = M 51 x) ∧ (∀ x, t ≤ x → x < 12 → M' 51 x = M 79 (o + x)) := by
  intro m
  induction m with
  | zero =>
    intro t n M ht hn
    obtain ⟨n, rfl⟩ := pos_ex hn
    have : t = 12 := by omega
    subst this
    obtain ⟨M', e1, e2, e3, e4, e5, e6⟩ := take27_79 fu v ho 6 0 fu M (by omega) (by omega)
    refine ⟨M', ?_, fun r _ h1 h2 h3 h4 => e2 r h1 h2 h3 h4, e3, e4, fun x hx => e5 x (Or.inr hx), fun x hx => e6 x (by omega) hx, fun x _ => by rw [e2 51 (by decide) (by decide) (by decide) (by decide)], fun x h1 h2 => absurd h2 (by omega)⟩
    show f_X12_take_tX12r79_J2 _ _ _ _ _ _ = _
    unfold f_X12_take_tX12r79_J2
    rw [if_pos (show (12 : Int32) ≤ nI 12 by decide)]
    exact e1
  | succ m ih =>
    intro t n M ht hn
    obtain ⟨n, rfl⟩ := pos_ex hn
    obtain ⟨M', e1, e2, e3, e4, e5, e6, e7, e8⟩ := ih (t + 1) n (up2 M 51 t (M 79 (o + t))) (by omega) (by omega)
    have f : ∀ r, r ≠ 51 → (up2 M 51 t (M 79 (o + t))) r = M r := fun r h => up2_n _ _ _ h
    rw [f 58 (by decide)] at e3
    rw [f 79 (by decide)] at e4
    refine ⟨M', ?_, fun r h h1 h2 h3 h4 => (e2 r h h1 h2 h3 h4).trans (f r h), e3, e4, fun x hx => ?_, fun x hx => ?_, fun x hx => ?_, fun x h1 h2 => ?_⟩
    · show f_X12_take_tX12r79_J2 _ _ _ _ _ _ = _
      unfold f_X12_take_tX12r79_J2
      have ck := fun k : Option S32 => tx_ck_q (j := t) (n := 24) (by omega) (by omega) k
      have c1 := fun k : Option S32 => tx_ck_q (j := o + t) (n := 31) (by omega) (by omega) k
      rw [if_neg (ge12 (t := t) (by omega)), nI_add, c1, ck, tx_let_q, tx_let_q, nI_clamp (n := t) (by omega), nI_clamp (n := o + t) (by omega), nI_1]
      exact e1
    · have g := e5 x hx
      rw [f 53 (by decide), f 56 (by decide), f 57 (by decide)] at g
      exact g
    · have g := e6 x hx
      rw [f 79 (by decide)] at g
      exact g
    · rw [e7 x (by omega), up2_i _ _ _ (by omega)]
    · by_cases e : x = t
      · subst e
        rw [e7 x (by omega), up2_e]
      · rw [e8 x (by omega) h2, f 79 (by decide)]
theorem take_79 (fu : Nat) (hf : 1000 ≤ fu) (v : S64) {o : Nat} (ho : o + 31 ≤ 31) (M : S32) : ∃ M', f_X12_take_tX12r79 fu v M (nI o) = some M' ∧ (∀ r, r ≠ 51 → r ≠ 53 → r ≠ 56 → r ≠ 57 → r ≠ 58 → M' r = M r) ∧ M' 58 0 = M 79 (o + 30) ∧ (∀ x, x < 6 → M' 53 x = M 79 (o + 12 + x) ∧ M' 56 x = M 79 (o + 18 + x) ∧ M' 57 x = M 79 (o + 24 + x)) ∧ (∀ x, x < 12 → M' 51 x = M 79 (o + x)) := by
  obtain ⟨M', e1, e2, e3, e4, e5, e6, e7, e8⟩ := take2_79 fu hf v ho 12 0 fu M (by omega) (by omega)
  exact ⟨M', e1, e2, e4, e6, fun x hx => e8 x (by omega) hx⟩
