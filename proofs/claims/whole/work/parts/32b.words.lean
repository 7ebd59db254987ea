/-! words of the language -/
def wrdL : List (List Nat) := [[109, 97, 110], [116, 104, 111, 117, 103, 104, 116], [114, 101, 97, 100, 101, 114], [114, 97, 116, 101], [100, 117, 108, 108], [115, 101, 101, 100], [108, 97, 119], [114, 101, 97, 100], [100, 117, 101], [104, 105, 100, 101], [97, 110, 100], [111, 114], [110, 111, 116], [119, 111, 114, 116, 104], [115, 107, 105, 108, 108], [112, 117, 114, 115, 101], [119, 105, 108, 101, 115], [100, 117, 108, 108, 101, 100], [116, 104, 101, 114, 101], [119, 101, 101, 107]]
def wrd (k i : Nat) : Nat := (wrdL.getD k []).getD i 0
def wlen (k : Nat) : Nat := (wrdL.getD k []).length
def woff (k : Nat) : Nat := ([0, 4, 12, 19, 24, 29, 34, 38, 43, 47, 52, 56, 59, 63, 69, 75, 81, 87, 94, 100, 105] : List Nat).getD k 0
/-- the number of a word in the class -/
def sw (k : Nat) : Nat := if k = 10 then 11 else if k = 11 then 10 else k
theorem w_tab : ∀ k : Fin 20, woff k.1 + wlen k.1 + 1 = woff (k.1 + 1) ∧ wd_X12_104 (woff k.1 + wlen k.1) = 32 ∧ wlen k.1 ≤ 7 ∧ 2 ≤ wlen k.1 ∧ woff k.1 ≤ 100 ∧ tx_words (sw k.1) = lN (cdN 256 (wrd k.1) (wlen k.1)) ∧ sw k.1 < 20 ∧ sw (sw k.1) = k.1 := by decide +kernel
theorem w_tab2 : ∀ k : Fin 20, ∀ i : Fin 7, i.1 < wlen k.1 → wd_X12_104 (woff k.1 + i.1) = nI (wrd k.1 i.1) ∧ ¬ wd_X12_104 (woff k.1 + i.1) = 32 ∧ 97 ≤ wrd k.1 i.1 ∧ wrd k.1 i.1 ≤ 122 := by decide +kernel
theorem w_dis : ∀ k : Fin 20, ∀ l : Fin 20, k.1 ≠ l.1 → ¬ tx_words k.1 = tx_words l.1 := by decide +kernel
/-- the signs from a to b are the word k -/
def MT (M : S32) (a b k : Nat) : Prop := b = a + wlen k ∧ ∀ i, i < wlen k → M 1 (a + i) = nI (wrd k i)
theorem wa_cmp (fu : Nat) (M : S32) (v : S64) (K : Int32 → Int32 → Int32 → Int32 → Option Int32) {a b k o len : Nat} (hl : len ≤ 7) (ho : o + len < 105) (ha : a + len ≤ 700) : ∀ m i n, i + m = len → m < n → ((∀ j, i ≤ j → j < len → M 4 (o + j) = M 1 (a + j)) → f_X12_wordAt_L57 fu M v K n (nI a) (nI b) (nI k) (nI o) (nI len) 1 (nI i) = some (nI k)) ∧ (¬ (∀ j, i ≤ j → j < len → M 4 (o + j) = M 1 (a + j)) → f_X12_wordAt_L57 fu M v K n (nI a) (nI b) (nI k) (nI o) (nI len) 1 (nI i) = K (nI a) (nI b) (nI (k + 1)) (nI (o + len + 1))) := by
  intro m
  induction m with
  | zero =>
    intro i n hi hn
    obtain ⟨n, rfl⟩ := pos_ex hn
    refine ⟨fun _ => ?_, fun z => absurd (fun j h1 h2 => absurd h2 (by omega)) z⟩
    show f_X12_wordAt_J57 _ _ _ _ _ _ _ _ _ _ _ _ = _
    unfold f_X12_wordAt_J57 f_X12_wordAt_J104
    rw [if_pos (nI_le (by omega) (by omega)), if_neg one_ne]
  | succ m ih =>
    intro i n hi hn
    obtain ⟨n, rfl⟩ := pos_ex hn
    obtain ⟨ih1, ih2⟩ := ih (i + 1) n (by omega) (by omega)
    have C : f_X12_wordAt_L57 fu M v K (n + 1) (nI a) (nI b) (nI k) (nI o) (nI len) 1 (nI i) = if M 4 (o + i) = M 1 (a + i) then f_X12_wordAt_L57 fu M v K n (nI a) (nI b) (nI k) (nI o) (nI len) 1 (nI (i + 1)) else f_X12_wordAt_L57 fu M v K n (nI a) (nI b) (nI k) (nI o) (nI len) 0 (nI (i + 1)) := by
      show f_X12_wordAt_J57 _ _ _ _ _ _ _ _ _ _ _ _ = _
      unfold f_X12_wordAt_J57 f_X12_wordAt_J96
      rw [if_neg (nI_ge (show i < len by omega) (by omega)), if_neg one_ne, nI_add, nI_add, tx_ck_q (j := o + i) (by omega) (by omega), tx_ck_q (j := a + i) (by omega) (by omega), nI_clamp (n := o + i) (by omega), nI_clamp (n := a + i) (by omega), tx_let_q, tx_let_q, nI_1]
    rw [C]
    by_cases z : M 4 (o + i) = M 1 (a + i)
    · rw [if_pos z]
      refine ⟨fun h => ih1 (fun j h1 h2 => h j (by omega) h2), fun h => ih2 (fun g => h (fun j h1 h2 => ?_))⟩
      by_cases e : j = i
      · subst e; exact z
      · exact g j (by omega) h2
    · rw [if_neg z]
      refine ⟨fun h => absurd (h i (Nat.le_refl _) (by omega)) z, fun _ => ?_⟩
      obtain ⟨n, rfl⟩ := pos_ex (show 0 < n by omega)
      show f_X12_wordAt_J57 _ _ _ _ _ _ _ _ _ _ _ _ = _
      unfold f_X12_wordAt_J57 f_X12_wordAt_J104
      have e1 : nI o + (nI len + 1) = nI (o + len + 1) := by rw [nI_1, nI_add, Nat.add_assoc]
      rw [if_pos rfl, if_pos rfl, tx_let_q, tx_let_q, e1, nI_1]
      by_cases w : nI len ≤ nI (i + 1)
      · rw [if_pos w]
      · rw [if_neg w]
theorem wa_0 (fu : Nat) (M : S32) (v : S64) (K : Int32 → Int32 → Int32 → Int32 → Option Int32) {a b k o len : Nat} (n : Nat) (hn : 0 < n) : f_X12_wordAt_L57 fu M v K n (nI a) (nI b) (nI k) (nI o) (nI len) 0 0 = K (nI a) (nI b) (nI (k + 1)) (nI (o + len + 1)) := by
  obtain ⟨n, rfl⟩ := pos_ex hn
  show f_X12_wordAt_J57 _ _ _ _ _ _ _ _ _ _ _ _ = _
  unfold f_X12_wordAt_J57 f_X12_wordAt_J104
  have e1 : nI o + (nI len + 1) = nI (o + len + 1) := by rw [nI_1, nI_add, Nat.add_assoc]
  rw [if_pos rfl, if_pos rfl, tx_let_q, tx_let_q, e1, nI_1]
  by_cases w : nI len ≤ 0
  · rw [if_pos w]
  · rw [if_neg w]
theorem wa_18 (fu : Nat) (M : S32) (v : S64) (K : Int32 → Int32 → Int32 → Int32 → Option Int32) {a b k : Nat} (hk : k < 20) (hab : a ≤ b) (hb : b ≤ 700) (h4 : ∀ j, j < 105 → M 4 j = wd_X12_104 j) : ∀ m i n, i + m = wlen k → m < n → f_X12_wordAt_L18 fu M v K n (nI a) (nI b) (nI k) (nI (woff k)) (nI i) = f_X12_wordAt_J52 fu M v K (nI a) (nI b) (nI k) (nI (woff k)) (nI (wlen k)) (if wlen k = b - a then 1 else 0) := by
  obtain ⟨t1, t2, t3, t4, t5, -⟩ := w_tab ⟨k, hk⟩
  intro m
  induction m with
  | zero =>
    intro i n hi hn
    obtain ⟨n, rfl⟩ := pos_ex hn
    have : i = wlen k := by omega
    subst this
    show f_X12_wordAt_J18 _ _ _ _ _ _ _ _ _ _ = _
    unfold f_X12_wordAt_J18
    have t3' : wlen k ≤ 7 := t3
    have t5' : woff k ≤ 100 := t5
    have t1' : woff k + wlen k + 1 = woff (k + 1) := t1
    have o2 : woff (k + 1) ≤ 105 := by
      have : ∀ j : Fin 21, woff j.1 ≤ 105 := by decide
      exact this ⟨k + 1, by omega⟩
    rw [nI_add, tx_ck_q (j := woff k + wlen k) (by omega) (by omega), nI_clamp (n := woff k + wlen k) (by omega), h4 _ (by omega), if_pos t2, pk_sub hab]
    by_cases e : wlen k = b - a
    · rw [if_pos e, ← e, if_pos rfl]
    · rw [if_neg e, if_neg (fun z => e ((nI_eq (by omega) (by omega)).mp z))]
  | succ m ih =>
    intro i n hi hn
    obtain ⟨n, rfl⟩ := pos_ex hn
    have t3' : wlen k ≤ 7 := t3
    have t5' : woff k ≤ 100 := t5
    have t1' : woff k + wlen k + 1 = woff (k + 1) := t1
    have o2 : woff (k + 1) ≤ 105 := by
      have : ∀ j : Fin 21, woff j.1 ≤ 105 := by decide
      exact this ⟨k + 1, by omega⟩
    show f_X12_wordAt_J18 _ _ _ _ _ _ _ _ _ _ = _
    unfold f_X12_wordAt_J18
    have hn32 := (w_tab2 ⟨k, hk⟩ ⟨i, by omega⟩ (show i < wlen k by omega)).2.1
    rw [nI_add, tx_ck_q (j := woff k + i) (by omega) (by omega), nI_clamp (n := woff k + i) (by omega), h4 _ (by omega), if_neg hn32, tx_let_q, nI_1]
    exact ih (i + 1) n (by omega) (by omega)
theorem o_tab {k : Nat} (hk : k ≤ 20) : woff k ≤ 105 := by
  have : ∀ j : Fin 21, woff j.1 ≤ 105 := by decide
  exact this ⟨k, by omega⟩
theorem o_lt {k : Nat} (hk : k < 20) : ¬ (105 : Int32) ≤ nI (woff k) := by
  have h : woff k ≤ 100 := (w_tab ⟨k, hk⟩).2.2.2.2.1
  exact nI_ge (b := 105) (by omega) (by omega)
theorem wa_step (fu : Nat) (hf : 1000 ≤ fu) (M : S32) (v : S64) (K : Int32 → Int32 → Int32 → Int32 → Option Int32) {a b k : Nat} (hk : k < 20) (hab : a ≤ b) (hb : b ≤ 700) (h4 : ∀ j, j < 105 → M 4 j = wd_X12_104 j) : (MT M a b k → f_X12_wordAt_J5 fu M v K (nI a) (nI b) (nI k) (nI (woff k)) = some (nI k)) ∧ (¬ MT M a b k → f_X12_wordAt_J5 fu M v K (nI a) (nI b) (nI k) (nI (woff k)) = K (nI a) (nI b) (nI (k + 1)) (nI (woff (k + 1)))) := by
  obtain ⟨t1, t2, t3, t4, t5, -⟩ := w_tab ⟨k, hk⟩
  have t3' : wlen k ≤ 7 := t3
  have t5' : woff k ≤ 100 := t5
  have t1' : woff k + wlen k + 1 = woff (k + 1) := t1
  have o2 := o_tab (show k + 1 ≤ 20 by omega)
  have E : f_X12_wordAt_J5 fu M v K (nI a) (nI b) (nI k) (nI (woff k)) = f_X12_wordAt_L57 fu M v K fu (nI a) (nI b) (nI k) (nI (woff k)) (nI (wlen k)) (if wlen k = b - a then 1 else 0) 0 := by
    unfold f_X12_wordAt_J5
    rw [if_neg (o_lt hk)]
    exact (wa_18 fu M v K hk hab hb h4 (wlen k) 0 fu (by omega) (by omega))
  rw [E]
  by_cases e : wlen k = b - a
  · rw [if_pos e]
    obtain ⟨c1, c2⟩ := wa_cmp fu M v K (a := a) (b := b) (k := k) (o := woff k) (len := wlen k) t3' (by omega) (by omega) (wlen k) 0 fu (by omega) (by omega)
    have iff : (∀ j, 0 ≤ j → j < wlen k → M 4 (woff k + j) = M 1 (a + j)) ↔ MT M a b k := by
      constructor
      · intro h
        refine ⟨by omega, fun i hi => ?_⟩
        rw [← h i (by omega) hi, h4 _ (by omega)]
        exact (w_tab2 ⟨k, hk⟩ ⟨i, by omega⟩ hi).1
      · intro h j _ hj
        rw [h.2 j hj, h4 _ (by omega)]
        exact (w_tab2 ⟨k, hk⟩ ⟨j, by omega⟩ hj).1
    refine ⟨fun h => c1 (iff.mpr h), fun h => ?_⟩
    rw [← t1']
    exact c2 (fun z => h (iff.mp z))
  · rw [if_neg e]
    refine ⟨fun h => absurd (by have := h.1; omega) e, fun _ => ?_⟩
    rw [← t1']
    exact wa_0 fu M v K fu (by omega)
theorem wa_q (fu : Nat) (hf : 1000 ≤ fu) (M : S32) (v : S64) {a b : Nat} (hab : a ≤ b) (hb : b ≤ 700) (h4 : ∀ j, j < 105 → M 4 j = wd_X12_104 j) : ∀ m k n, k + m = 20 → m < n → (∃ l, k ≤ l ∧ l < 20 ∧ MT M a b l ∧ f_X12_wordAt_L5 fu M v n (nI a) (nI b) (nI k) (nI (woff k)) = some (nI l)) ∨ ((∀ l, k ≤ l → l < 20 → ¬ MT M a b l) ∧ f_X12_wordAt_L5 fu M v n (nI a) (nI b) (nI k) (nI (woff k)) = some (-1)) := by
  intro m
  induction m with
  | zero =>
    intro k n hk hn
    obtain ⟨n, rfl⟩ := pos_ex hn
    have : k = 20 := by omega
    subst this
    refine Or.inr ⟨fun l h1 h2 => absurd h2 (by omega), ?_⟩
    show f_X12_wordAt_J5 _ _ _ _ _ _ _ _ = _
    unfold f_X12_wordAt_J5
    rw [if_pos (by decide)]
  | succ m ih =>
    intro k n hk hn
    obtain ⟨n, rfl⟩ := pos_ex hn
    obtain ⟨s1, s2⟩ := wa_step fu hf M v (f_X12_wordAt_L5 fu M v n) (show k < 20 by omega) hab hb h4
    by_cases z : MT M a b k
    · exact Or.inl ⟨k, Nat.le_refl _, by omega, z, s1 z⟩
    · rcases ih (k + 1) n (by omega) (by omega) with ⟨l, g1, g2, g3, g4⟩ | ⟨g1, g2⟩
      · exact Or.inl ⟨l, by omega, g2, g3, (s2 z).trans g4⟩
      · refine Or.inr ⟨fun l h1 h2 => ?_, (s2 z).trans g2⟩
        by_cases e : l = k
        · subst e; exact z
        · exact g1 l (by omega) h2
/-! the class's words: by a code -/
theorem cd_pos {f : Nat → Nat} : ∀ n, 0 < n → (∀ i, i < n → 1 ≤ f i) → 0 < cdN 256 f n := by
  intro n hn h
  obtain ⟨m, rfl⟩ := pos_ex hn
  show 0 < cdN 256 f m * 256 + f m
  have := h m (by omega)
  omega
theorem cd_inj {f g : Nat → Nat} : ∀ n m, (∀ i, i < n → 1 ≤ f i ∧ f i ≤ 255) → (∀ i, i < m → 1 ≤ g i ∧ g i ≤ 255) → cdN 256 f n = cdN 256 g m → n = m ∧ ∀ i, i < n → f i = g i := by
  intro n
  induction n with
  | zero =>
    intro m _ hg h
    rcases Nat.eq_zero_or_pos m with e | e
    · exact ⟨e.symm, fun i hi => absurd hi (by omega)⟩
    · have := cd_pos (f := g) m e (fun i hi => (hg i hi).1)
      have h' : 0 = cdN 256 g m := h
      omega
  | succ n ih =>
    intro m hf hg h
    have hfn := hf n (by omega)
    rcases Nat.eq_zero_or_pos m with e | e
    · subst e
      have := cd_pos (f := f) (n + 1) (by omega) (fun i hi => (hf i hi).1)
      have h' : cdN 256 f (n + 1) = 0 := h
      omega
    · obtain ⟨m, rfl⟩ := pos_ex e
      have hgm := hg m (by omega)
      have h' : cdN 256 f n * 256 + f n = cdN 256 g m * 256 + g m := h
      obtain ⟨e1, e2⟩ := ih m (fun i hi => hf i (by omega)) (fun i hi => hg i (by omega)) (by omega)
      subst e1
      refine ⟨rfl, fun i hi => ?_⟩
      by_cases ei : i = n
      · subst ei; omega
      · exact e2 i (by omega)
theorem cd_lt {f : Nat → Nat} : ∀ n, (∀ i, i < n → f i ≤ 255) → cdN 256 f n < 256 ^ n := by
  intro n
  induction n with
  | zero => intro _; show 0 < 256 ^ 0; omega
  | succ n ih =>
    intro h
    have := ih (fun i hi => h i (by omega))
    have h2 := h n (by omega)
    show cdN 256 f n * 256 + f n < 256 ^ (n + 1)
    rw [Nat.pow_succ]
    omega
theorem s_l64 : ((((8 : Int32).toInt64 &&& 63)).toBitVec.smod 64).toNat = 8 := by decide +kernel
theorem lN_tn {n : Nat} (h : n < 2 ^ 64) : (lN n).toBitVec.toNat = n := by
  show (BitVec.ofNat 64 n).toNat = n
  rw [BitVec.toNat_ofNat]
  exact Nat.mod_eq_of_lt h
theorem lN_sh {c d : Nat} (hc : c < 2 ^ 48) (hd : d ≤ 255) : (lN c <<< ((8 : Int32).toInt64 &&& 63)) ||| lN d = lN (c * 256 + d) := by
  apply Int64.toBitVec_inj.1
  apply BitVec.eq_of_toNat_eq
  rw [Int64.toBitVec_or, Int64.toBitVec_shiftLeft, BitVec.toNat_or, lN_tn (by omega), lN_tn (by omega)]
  have e : ((lN c).toBitVec <<< (((8 : Int32).toInt64 &&& 63)).toBitVec.smod 64).toNat = c * 256 := by
    show ((lN c).toBitVec <<< ((((8 : Int32).toInt64 &&& 63)).toBitVec.smod 64).toNat).toNat = _
    rw [s_l64, BitVec.toNat_shiftLeft, lN_tn (by omega), Nat.shiftLeft_eq]
    omega
  rw [e]
  have h2 := Nat.shiftLeft_add_eq_or_of_lt (i := 8) (b := d) (by omega) c
  rw [Nat.shiftLeft_eq] at h2
  rw [← h2]
def CW (P : S32) (a : Nat) : Nat → Int64
  | 0 => 0
  | i + 1 => (CW P a i <<< ((8 : Int32).toInt64 &&& 63)) ||| (P 1 (a + i)).toInt64
def PW (P : S32) (a : Nat) : Nat → Int32
  | 0 => 0
  | i + 1 => (PW P a i <<< ((5 : Int32) &&& 31)) ||| ((P 1 (a + i) - 97) + 1)
theorem CW_q {P : S32} {a : Nat} {f : Nat → Nat} : ∀ n, n ≤ 7 → (∀ i, i < n → P 1 (a + i) = nI (f i) ∧ f i ≤ 255) → CW P a n = lN (cdN 256 f n) := by
  intro n
  induction n with
  | zero => intro _ _; rfl
  | succ n ih =>
    intro hn h
    have h1 := ih (by omega) (fun i hi => h i (by omega))
    obtain ⟨h2, h3⟩ := h n (by omega)
    have hlt := cd_lt (f := f) n (fun i hi => (h i (by omega)).2)
    have hp : 256 ^ n ≤ 256 ^ 6 := Nat.pow_le_pow_right (by omega) (by omega)
    show (CW P a n <<< ((8 : Int32).toInt64 &&& 63)) ||| (P 1 (a + n)).toInt64 = lN (cdN 256 f n * 256 + f n)
    rw [h1, h2, nI_l (by omega)]
    exact lN_sh (by omega) h3
theorem wo_q (fu : Nat) {x : Int64} : ∀ m k n, k + m = 20 → m < n → (∃ l, k ≤ l ∧ l < 20 ∧ tx_words l = x ∧ f_X8_wordOf_L2 fu n x (nI k) = some (nI l)) ∨ ((∀ l, k ≤ l → l < 20 → ¬ tx_words l = x) ∧ f_X8_wordOf_L2 fu n x (nI k) = some (-1)) := by
  intro m
  induction m with
  | zero =>
    intro k n hk hn
    obtain ⟨n, rfl⟩ := pos_ex hn
    have : k = 20 := by omega
    subst this
    refine Or.inr ⟨fun l h1 h2 => absurd h2 (by omega), ?_⟩
    show f_X8_wordOf_J2 _ _ _ _ = _
    unfold f_X8_wordOf_J2
    rw [if_pos (by decide)]
  | succ m ih =>
    intro k n hk hn
    obtain ⟨n, rfl⟩ := pos_ex hn
    have C : f_X8_wordOf_L2 fu (n + 1) x (nI k) = if tx_words k = x then some (nI k) else f_X8_wordOf_L2 fu n x (nI (k + 1)) := by
      show f_X8_wordOf_J2 _ _ _ _ = _
      unfold f_X8_wordOf_J2
      rw [if_neg (show ¬ (20 : Int32) ≤ nI k from nI_ge (b := 20) (by omega) (by omega)), tx_ck_q (j := k) (by omega) (by omega), nI_clamp (n := k) (by omega), tx_let_q, nI_1]
      by_cases z : tx_words k = x
      · rw [if_pos z, if_pos ((lg_cmp_eq _ _).mpr z)]
      · rw [if_neg z, if_neg (fun w => z ((lg_cmp_eq _ _).mp w))]
    rw [C]
    by_cases z : tx_words k = x
    · rw [if_pos z]
      exact Or.inl ⟨k, Nat.le_refl _, by omega, z, rfl⟩
    · rw [if_neg z]
      rcases ih (k + 1) n (by omega) (by omega) with ⟨l, g1, g2, g3, g4⟩ | ⟨g1, g2⟩
      · exact Or.inl ⟨l, by omega, g2, g3, g4⟩
      · refine Or.inr ⟨fun l h1 h2 => ?_, g2⟩
        by_cases e : l = k
        · subst e; exact z
        · exact g1 l (by omega) h2
/-- both know the same words -/
theorem word_q (fu : Nat) (hf : 1000 ≤ fu) {P M : S32} (v : S64) {a n : Nat} {f : Nat → Nat} (hn : n ≤ 7) (hb : a + n ≤ 700) (h4 : ∀ j, j < 105 → M 4 j = wd_X12_104 j) (h : ∀ i, i < n → P 1 (a + i) = nI (f i) ∧ M 1 (a + i) = nI (f i) ∧ 97 ≤ f i ∧ f i ≤ 122) : (∃ k, k < 20 ∧ f_X8_wordOf fu (CW P a n) = some (nI (sw k)) ∧ f_X12_wordAt fu M v (nI a) (nI (a + n)) = some (nI k)) ∨ (f_X8_wordOf fu (CW P a n) = some (-1) ∧ f_X12_wordAt fu M v (nI a) (nI (a + n)) = some (-1)) := by
  have hc := CW_q (P := P) (a := a) (f := f) n hn (fun i hi => ⟨(h i hi).1, by have := (h i hi).2.2.2; omega⟩)
  have hw : ∀ k, k < 20 → ∀ i, i < wlen k → 97 ≤ wrd k i ∧ wrd k i ≤ 122 := fun k hk i hi => by
    have hl : wlen k ≤ 7 := (w_tab ⟨k, hk⟩).2.2.1
    exact (w_tab2 ⟨k, hk⟩ ⟨i, by omega⟩ hi).2.2
  have key : ∀ k, k < 20 → (MT M a (a + n) k ↔ tx_words (sw k) = CW P a n) := by
    intro k hk
    have ht : tx_words (sw k) = lN (cdN 256 (wrd k) (wlen k)) := (w_tab ⟨k, hk⟩).2.2.2.2.2.1
    have hl : wlen k ≤ 7 := (w_tab ⟨k, hk⟩).2.2.1
    have l1 := cd_lt (f := wrd k) (wlen k) (fun i hi => by have := (hw k hk i hi).2; omega)
    have l2 := cd_lt (f := f) n (fun i hi => by have := (h i hi).2.2.2; omega)
    have p1 : 256 ^ wlen k ≤ 256 ^ 7 := Nat.pow_le_pow_right (by omega) hl
    have p2 : 256 ^ n ≤ 256 ^ 7 := Nat.pow_le_pow_right (by omega) hn
    rw [ht, hc, pk_lEQ (by omega) (by omega)]
    constructor
    · rintro ⟨e1, e2⟩
      have en : wlen k = n := by omega
      rw [en] at e2 ⊢
      have : ∀ m, m ≤ n → cdN 256 (wrd k) m = cdN 256 f m := by
        intro m
        induction m with
        | zero => intro _; rfl
        | succ m ih =>
          intro hm
          have e3 : wrd k m = f m := by
            refine (nI_eq ?_ ?_).mp ((e2 m (by omega)).symm.trans (h m (by omega)).2.1)
            · have := (hw k hk m (by omega)).2; omega
            · have := (h m (by omega)).2.2.2; omega
          show cdN 256 (wrd k) m * 256 + wrd k m = cdN 256 f m * 256 + f m
          rw [ih (by omega), e3]
      exact this n (Nat.le_refl _)
    · intro e
      obtain ⟨e1, e2⟩ := cd_inj (wlen k) n (fun i hi => by have := hw k hk i hi; omega) (fun i hi => by have := (h i hi).2.2; omega) e
      refine ⟨by omega, fun i hi => ?_⟩
      rw [(h i (by omega)).2.1, e2 i hi]
  have C := wo_q fu (x := CW P a n) 20 0 fu (by omega) (by omega)
  have R := wa_q fu hf M v (a := a) (b := a + n) (by omega) hb h4 20 0 fu (by omega) (by omega)
  have sw20 : ∀ k, k < 20 → sw k < 20 ∧ sw (sw k) = k := fun k hk => (w_tab ⟨k, hk⟩).2.2.2.2.2.2
  rcases C with ⟨l, -, l1, l2, l3⟩ | ⟨l1, l2⟩
  · rcases R with ⟨k, -, k1, k2, k3⟩ | ⟨k1, k2⟩
    · left
      refine ⟨k, k1, ?_, k3⟩
      have e : sw k = l := by
        by_cases z : sw k = l
        · exact z
        · exact absurd (((key k k1).mp k2).trans l2.symm) (w_dis ⟨sw k, (sw20 k k1).1⟩ ⟨l, l1⟩ z)
      rw [e]
      exact l3
    · exfalso
      have s := sw20 l l1
      refine k1 (sw l) (by omega) s.1 ((key (sw l) s.1).mpr ?_)
      rw [s.2]
      exact l2
  · rcases R with ⟨k, -, k1, k2, k3⟩ | ⟨k1, k2⟩
    · exact absurd ((key k k1).mp k2) (l1 (sw k) (by omega) (sw20 k k1).1)
    · exact Or.inr ⟨l2, k2⟩
