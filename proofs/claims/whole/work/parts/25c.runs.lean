/-! a trial runs -/
theorem trun (fu : Nat) (hf : 1000 ≤ fu) {B L W M : S32} {np nt nr x w n : Nat} (vL vN v : S64) (hn : n ≤ 100) (hw : w ≤ 9900) (h : WR B L W M 1 np nt nr x (fun p => p < np)) (h61 : M 0 61 = 0) (h65 : M 0 65 = 0) (hk : wkOK W np w) (hrt : W 0 2 = M 58 1) :
    ∃ W' vL' vN' M' v', f_X10_goWeeks fu B L W vL vN (nI n) 0 = some (W', vL', vN') ∧ f_X12_goMany fu M v (nI n) = some (M', v') ∧ WR B L W' M' 1 np nt nr x (fun p => p < np) ∧ wkOK W' np (w + n) ∧ FR 1 M M' ∧ v' 0 59 = v 0 59 ∧ v' 0 80 = v 0 80 ∧ mo W W' np n := by
  obtain ⟨W', vL', vN', a1, a2, a3, a4, -, a6⟩ := many fu hf (x3 := 0) hn n 0 w W vL vN M v fu fu (by omega) h ⟨h61, Or.inl rfl⟩ h65 hk (by omega) (by omega) (by omega)
  obtain ⟨M', v', c1, c2, c3, c4, c5⟩ := a6 (Or.inl hrt)
  exact ⟨W', vL', vN', M', v', a1, c1, c2, a4.1, c5, (c4.2.2 rfl).1, c4.2.1 80 (by decide), a4.2⟩
def sP (W : S32) (np : Nat) : Int32 := fd (fun (t : Nat) (a : Int32) => a + W 7 t) np 0 0
def sO (W : S32) (np : Nat) : Int32 := fd (fun (t : Nat) (a : Int32) => a + W 8 t) np 0 0
theorem c_sP (fu : Nat) (hf : 1000 ≤ fu) {B W : S32} {np : Nat} (b1 : B 0 1 = nI np) (hn : np ≤ 6) : f_X10_sum_tX10r7 fu W B = some (sP W np) := fl_sum7 fu b1 hn np 0 fu 0 (by omega) (by omega)
theorem c_sO (fu : Nat) (hf : 1000 ≤ fu) {B W : S32} {np : Nat} (b1 : B 0 1 = nI np) (hn : np ≤ 6) : f_X10_sum_tX10r8 fu W B = some (sO W np) := fl_sum8 fu b1 hn np 0 fu 0 (by omega) (by omega)
theorem m_sP (fu : Nat) (hf : 1000 ≤ fu) {W M : S32} (v : S64) {np b : Nat} (m1 : M 0 12 = nI np) (hn : np ≤ 6) (hb : b ≤ 1) (h : ∀ p, p < np → W 7 p = M 54 (6 * b + p)) : f_X12_paidAll fu M v (nI b) = some (sP W np) := by
  have e : f_X12_paidAll fu M v (nI b) = _ := fl_paidAll fu m1 hn hb np 0 fu 0 (by omega) (by omega)
  rw [e]
  unfold sP
  rw [fd_congr (n := np) (fun t ht a => ?_) np 0 0 (by omega)]
  rw [h t ht]
theorem m_sO (fu : Nat) (hf : 1000 ≤ fu) {W M : S32} (v : S64) {np b : Nat} (m1 : M 0 12 = nI np) (hn : np ≤ 6) (hb : b ≤ 1) (h : ∀ p, p < np → W 8 p = M 55 (6 * b + p)) : f_X12_owedAll fu M v (nI b) = some (sO W np) := by
  have e : f_X12_owedAll fu M v (nI b) = _ := fl_owedAll fu m1 hn hb np 0 fu 0 (by omega) (by omega)
  rw [e]
  unfold sO
  rw [fd_congr (n := np) (fun t ht a => ?_) np 0 0 (by omega)]
  rw [h t ht]
/-- the sums of both worlds -/
theorem sums (fu : Nat) (hf : 1000 ≤ fu) {B L W W' M : S32} {np nt nr w x : Nat} (h : NW B L W M np nt nr w) (h' : WR B L W' M 1 np nt nr x (fun p => p < np)) (v : S64) :
    f_X12_paidAll fu M v 1 = some (sP W' np) ∧ f_X12_owedAll fu M v 1 = some (sO W' np) ∧ f_X12_paidAll fu M v 0 = some (sP W np) ∧ f_X12_owedAll fu M v 0 = some (sO W np) := by
  obtain ⟨⟨hnp, hnt, hnr⟩, ⟨b1, m1⟩, -, -, -, -, -, -, hwp, -⟩ := h.1
  have hpp := h'.2.1.2.1
  refine ⟨m_sP fu hf v (b := 1) m1 hnp (by omega) (fun p hp => (hpp p hp).2.1), m_sO fu hf v (b := 1) m1 hnp (by omega) (fun p hp => (hpp p hp).2.2.1), m_sP fu hf v (b := 0) m1 hnp (by omega) (fun p hp => ?_), m_sO fu hf v (b := 0) m1 hnp (by omega) (fun p hp => ?_)⟩
  · rw [Nat.mul_zero, Nat.zero_add]; exact (hwp p hp).2.1
  · rw [Nat.mul_zero, Nat.zero_add]; exact (hwp p hp).2.2.1
theorem tx_b5_q {α β δ ε ζ γ : Type} (a : α) (b : β) (c : δ) (d : ε) (e : ζ) (k : α → β → δ → ε → ζ → Option γ) : tx_b5 (some (a, b, c, d, e)) k = k a b c d e := rfl
theorem tx_b6_q {α β δ ε ζ η γ : Type} (a : α) (b : β) (c : δ) (d : ε) (e : ζ) (f : η) (k : α → β → δ → ε → ζ → η → Option γ) : tx_b6 (some (a, b, c, d, e, f)) k = k a b c d e f := rfl
theorem isIn_t (fu : Nat) {x lo hi : Int32} (h1 : ¬ x < lo) (h2 : ¬ hi < x) : f_X12_isIn fu x lo hi = some 1 := by
  unfold f_X12_isIn
  rw [if_neg h1, if_neg h2]
theorem isIn_f (fu : Nat) {x lo hi : Int32} (h : x < lo ∨ hi < x) : f_X12_isIn fu x lo hi = some 0 := by
  unfold f_X12_isIn
  by_cases h1 : x < lo
  · rw [if_pos h1]
  · rw [if_neg h1, if_pos (h.resolve_left h1)]
theorem sp13 (fu : Nat) (hf : 1000 ≤ fu) : SP13 RR fu := by
  intro k q U V y1 y2 hR
  obtain ⟨np, nt, nr, w, hN⟩ := RR_NW hR
  have hbit := RR_bit hR
  have bad : ∃ (r : Int32) (zu_W3 : S32) (zv_L : S64) (zv_N3 : S64) (zq_W3_0 : Nat) (zu_M : S32) (zv_M : S64), (some ((-1 : Int32), U 7, V 17, V 8, q 1) : Option (Int32 × S32 × S64 × S64 × Nat)) = some (r, zu_W3, zv_L, zv_N3, zq_W3_0) ∧ (some ((-1 : Int32), up2 (U 19) 0 2 0, V 19) : Option (Int32 × S32 × S64)) = some (r, zu_M, zv_M) ∧ RR k (va_up q 1 zq_W3_0) (va_up (va_up U 7 zu_W3) 19 zu_M) (va_up (va_up (va_up V 17 zv_L) 8 zv_N3) 19 zv_M) :=
    ⟨_, _, _, _, _, _, _, rfl, rfl, RR_T hR (PF.t _) hbit rfl rfl _ _ _⟩
  unfold f_X11_ahead f_X12_ahead
  rw [tx_let_q]
  by_cases a1 : y1 < 0
  · rw [if_pos a1, isIn_f fu (Or.inl a1)]; exact bad
  rw [if_neg a1]
  by_cases a2 : 99 < y1
  · rw [if_pos a2, isIn_f fu (Or.inr a2)]; exact bad
  rw [if_neg a2, isIn_t fu a1 a2, tx_b1_q, if_neg one_ne]
  by_cases a3 : y2 < 0
  · rw [if_pos a3, isIn_f fu (Or.inl a3)]; exact bad
  rw [if_neg a3]
  by_cases a4 : y2 ≤ 3
  · rw [if_pos a4, isIn_t fu a3 (Int32.not_lt.mpr a4), tx_b1_q, if_neg one_ne]
    obtain ⟨n, hn, rfl⟩ := nI_of2 (M := 99) (n := 99) rfl a1 (Int32.not_lt.mp a2)
    obtain ⟨Wc, Ml, c1, c2, c3, c4, c5, c6, c7, c8, c9, -⟩ := tr_lay fu hf hN (V 19) (U 7) hbit
    obtain ⟨W', vL', vN', M', v', g1, g2, g3, g4, g5, g6, g7, -⟩ := trun fu hf (V 17) (V 8) (V 19) (n := n) (by omega) hN.2.2.2.1 c5 c4.1 c4.2.2.2.2.1 c6 c7
    have hPF : PF (U 19) M' := ((PF.t _).trans c3).trans g5.pf
    have hN' := (hN.pf c3).pf g5.pf
    obtain ⟨s1, s2, s3, s4⟩ := sums fu hf hN' g3 v'
    obtain ⟨⟨hnp, hnt, hnr⟩, ⟨b1, m1⟩, ⟨b5, m5⟩, -, -, -, -, -, -, hwt, -⟩ := hN'.1
    unfold f_X9_comes
    rw [c1, c2, tx_b1_q, tx_b1_q, g1, g2, tx_b3_q, tx_b2_q]
    have fin := fun r : Int32 => (⟨r, W', vL', vN', k 0, M', v', rfl, rfl, RR_T hR hPF g3.2.2.2.2.2.2 g6 g7 _ _ _⟩ : ∃ (r' : Int32) (zu_W3 : S32) (zv_L : S64) (zv_N3 : S64) (zq_W3_0 : Nat) (zu_M : S32) (zv_M : S64), (some (r, W', vL', vN', k 0) : Option (Int32 × S32 × S64 × S64 × Nat)) = some (r', zu_W3, zv_L, zv_N3, zq_W3_0) ∧ (some (r, M', v') : Option (Int32 × S32 × S64)) = some (r', zu_M, zv_M) ∧ RR k (va_up q 1 zq_W3_0) (va_up (va_up U 7 zu_W3) 19 zu_M) (va_up (va_up (va_up V 17 zv_L) 8 zv_N3) 19 zv_M))
    have cnt : ∀ y : Int32, (y = 1 ∨ y = 2) → f_X12_are fu M' v' 1 y = f_X10_countOf fu W' (U 2) y := by
      intro y hy
      show f_X12_are fu M' v' (nI 1) y = _
      rw [s_count fu hf b5 hnt, s_are (b := 1) fu hf m5 hnt (by omega)]
      rw [fd_congr (n := nt) (fun t ht a => ?_) nt 0 0 (by omega)]
      obtain ⟨hs, -⟩ := g3.2.1.1 t ht
      rcases hs with ⟨e, -⟩ | ⟨-, -, hbar⟩
      · rw [e]
      · -- nothing is barred here
        exfalso
        have hp6 : M' 0 66 = -1 := (g5 0 66 (by unfold sc; omega)).trans c4.2.2.2.2.2.1
        have hp7 : M' 0 67 = -1 := (g5 0 67 (by unfold sc; omega)).trans c4.2.2.2.2.2.2.1
        obtain ⟨⟨a', ha', ea⟩, -⟩ := g3.1.2.1.2.2.2.2.2.2.1 t ht
        obtain ⟨t7, -⟩ := g3.1.2.1.2.2.2.2.1 t ht
        rcases hbar with z | z
        · rw [← t7, ea, hp6] at z; exact m1_ne (by omega) z
        · rw [hp7] at z; exact m1_ne (by omega) z
    have cnt0 : ∀ y : Int32, f_X12_are fu M' v' 0 y = f_X10_countOf fu (U 1) (U 2) y := by
      intro y
      show f_X12_are fu M' v' (nI 0) y = _
      rw [s_count fu hf b5 hnt, s_are (b := 0) fu hf m5 hnt (by omega)]
      rw [fd_congr (n := nt) (fun t ht a => ?_) nt 0 0 (by omega)]
      rw [Nat.mul_zero, Nat.zero_add, (hwt t ht).1]
    by_cases e0 : y2 = 0
    · rw [if_pos e0, if_pos e0, c_sP fu hf b1 hnp, c_sP fu hf b1 hnp, s1, s3]
      exact fin _
    rw [if_neg e0, if_neg e0]
    by_cases e1 : y2 = 1
    · rw [if_pos e1, if_pos e1, c_sO fu hf b1 hnp, c_sO fu hf b1 hnp, s2, s4]
      exact fin _
    rw [if_neg e1, if_neg e1]
    by_cases e2 : y2 = 2
    · rw [if_pos e2, if_pos e2, cnt 2 (Or.inr rfl), cnt0, s_count fu hf b5 hnt, s_count fu hf b5 hnt]
      exact fin _
    · rw [if_neg e2, if_neg e2, cnt 1 (Or.inl rfl), s_count fu hf b5 hnt]
      exact fin _
  · rw [if_neg a4, isIn_f fu (Or.inr (Int32.not_le.mp a4))]; exact bad
