/-! the round by which most is due -/
theorem pow4 {nr e : Nat} (h : nr ≤ 4) (he : e ≤ 4) : nr ^ e ≤ 256 := Nat.le_trans (Nat.pow_le_pow_left h e) (Nat.pow_le_pow_right (show 0 < 4 by omega) he)
theorem pw_l (fu : Nat) (nr e : Nat) (he : e ≤ 10) : ∀ m k n, k + m = e → m < n → f_X12_powerOf_L4 fu n (nI nr) (nI e) (nI (nr ^ k)) (nI k) = some (nI (nr ^ e)) := by
  intro m
  induction m with
  | zero =>
    intro k n hk hn
    obtain ⟨n, rfl⟩ := pos_ex hn
    have : k = e := by omega
    subst this
    show f_X12_powerOf_J4 _ _ _ _ _ _ = _
    unfold f_X12_powerOf_J4
    rw [if_pos (nI_le (Nat.le_refl _) (by omega))]
  | succ m ih =>
    intro k n hk hn
    obtain ⟨n, rfl⟩ := pos_ex hn
    show f_X12_powerOf_J4 _ _ _ _ _ _ = _
    unfold f_X12_powerOf_J4
    rw [if_neg (nI_ge (by omega) (by omega)), tx_let_q, tx_let_q, pk_mul, ← Nat.pow_succ, nI_1]
    exact ih (k + 1) n (by omega) (by omega)
theorem pw_q (fu : Nat) (hf : 1000 ≤ fu) (nr e : Nat) (he : e ≤ 10) : f_X12_powerOf fu (nI nr) (nI e) = some (nI (nr ^ e)) := pw_l fu nr e he e 0 fu (by omega) (by omega)
theorem dg_q (fu : Nat) (hf : 1000 ≤ fu) {nr k c p : Nat} (h1 : 0 < nr) (hnr : nr ≤ 4) (hk : k ≤ 4) (hp : p < k) (hc : c ≤ 256) : f_X12_powerOf fu (nI nr) ((nI k - 1) - nI p) = some (nI (nr ^ (k - 1 - p))) ∧ ¬ nI (nr ^ (k - 1 - p)) = 0 ∧ ¬ nI nr = 0 ∧ (nI c / nI (nr ^ (k - 1 - p))) - (nI c / nI (nr ^ (k - 1 - p))) / nI nr * nI nr = nI (dg nr k c p) := by
  have hb := pow4 hnr (show k - 1 - p ≤ 4 by omega)
  have h0 : 0 < nr ^ (k - 1 - p) := Nat.pow_pos h1
  have hd : c / nr ^ (k - 1 - p) ≤ c := Nat.div_le_self _ _
  refine ⟨?_, nI_ne0 h0 (by omega), nI_ne0 h1 (by omega), ?_⟩
  · rw [show (1 : Int32) = nI 1 from rfl, pk_sub (by omega), pk_sub (by omega)]
    exact pw_q fu hf nr _ (by omega)
  · rw [pk_div (by omega) h0 (by omega), pk_rem (by omega) h1 (by omega)]
    rfl
theorem dg_loop (fu : Nat) (hf : 1000 ≤ fu) {nr k c : Nat} (h1 : 0 < nr) (hnr : nr ≤ 4) (hk : k ≤ 4) (hc : c ≤ 256) (K61 : S32 → S64 → Int32 → Int32 → Int32 → Int32 → Int32 → Option (Int32 × S32 × S64)) (v : S64) (w1 w3 w4 : Int32) : ∀ m p n M, p + m = k → m < n → M 0 14 = nI nr → ∃ M', f_X12_bestRound_L81 fu K61 n M v w1 (nI k) w3 w4 (nI c) (nI p) = f_X12_bestRound_J81 fu K61 (fun _ _ _ _ _ _ _ _ => none) M' v w1 (nI k) w3 w4 (nI c) (nI k) ∧ (∀ r, r ≠ 57 → M' r = M r) ∧ (∀ x, p ≤ x → x < k → M' 57 (6 + x) = nI (dg nr k c x)) ∧ (∀ i, i < 6 + p ∨ 6 + k ≤ i → M' 57 i = M 57 i) := by
  intro m
  induction m with
  | zero =>
    intro p n M hp hn h14
    obtain ⟨n, rfl⟩ := pos_ex hn
    have : p = k := by omega
    subst this
    refine ⟨M, ?_, fun _ _ => rfl, fun x a b => absurd b (by omega), fun _ _ => rfl⟩
    show f_X12_bestRound_J81 _ _ _ _ _ _ _ _ _ _ _ = _
    unfold f_X12_bestRound_J81
    rw [if_pos (nI_le (Nat.le_refl p) (by omega)), if_pos (nI_le (Nat.le_refl p) (by omega))]
  | succ m ih =>
    intro p n M hp hn h14
    obtain ⟨n, rfl⟩ := pos_ex hn
    obtain ⟨d1, d2, d3, d4⟩ := dg_q fu hf (c := c) h1 hnr hk (show p < k by omega) hc
    obtain ⟨M', e1, e2, e3, e4⟩ := ih (p + 1) n (up2 M 57 (6 + p) (nI (dg nr k c p))) (by omega) (by omega) (by rw [up2_n _ _ _ (by decide)]; exact h14)
    refine ⟨M', ?_, fun r hr => (e2 r hr).trans (up2_n _ _ _ hr), fun x a b => ?_, fun i hi => ?_⟩
    · rw [← e1]
      show f_X12_bestRound_J81 _ _ _ _ _ _ _ _ _ _ _ = _
      unfold f_X12_bestRound_J81
      have e6 : (6 : Int32) + nI p = nI (6 + p) := nI_add 6 p
      rw [if_neg (nI_ge (show p < k by omega) (by omega)), h14, d1, tx_b1_q, tx_nz_q d2, tx_nz_q d3, e6, tx_ck_q (j := 6 + p) (by omega) (by omega), tx_let_q, tx_let_q, nI_clamp (n := 6 + p) (by omega), d4, nI_1]
    · by_cases e : x = p
      · subst e
        rw [e4 _ (by omega), up2_e]
      · exact e3 x (by omega) b
    · rw [e4 i (by omega), up2_i _ _ _ (by omega)]
def roC (nr k c : Nat) (r0 : Nat → Nat) (p : Nat) : Nat := if p < k then dg nr k c p else r0 p
def TTc (dl : Nat → Nat → Nat) (np nr k : Nat) (r0 : Nat → Nat) (c : Nat) : Nat := sN (fun p => dl p (roC nr k c r0 p)) np 0
theorem one_code (fu : Nat) (hf : 1000 ≤ fu) {B L W0 M0 T Wc W1 : S32} {np nt nr w : Nat} (hN : NW B L W0 M0 np nt nr w) (hT : T 0 15 = 0 ∨ T 0 15 = 1) (hcp : f_X10_copy fu W0 T = some Wc) (hth : f_X10_think fu B Wc = some W1) (hW1 : ∀ q, q ≠ 11 → q ≠ 12 → W1 q = Wc q) {dl : Nat → Nat → Nat} (hdl : dlK fu B L W1 np nt nr dl) {r0 : Nat → Nat} (hr0 : ∀ p, p < np → W0 10 p = nI (r0 p) ∧ r0 p < nr) {k c : Nat} (h1 : 0 < nr) (hk : k ≤ 4) (hkn : k ≤ np) (hc : c ≤ 256) {M : S32} {v : S64} (hP : PF M0 M)
    (K61 : S32 → S64 → Int32 → Int32 → Int32 → Int32 → Int32 → Option (Int32 × S32 × S64)) (w1 w3 w4 : Int32) : ∃ Mf vf, PF M0 Mf ∧ vf 0 59 = v 0 59 ∧ vf 0 80 = v 0 80 ∧ (tx_b1 (f_X12_layTried fu v M) fun (u_T_20 : S32) => f_X12_bestRound_L81 fu K61 fu u_T_20 v w1 (nI k) w3 w4 (nI c) (0 : Int32)) = (if w3 < (0 : Int32) then (f_X12_bestRound_J154 fu K61 Mf vf w1 (nI k) (nI c) (nI (TTc dl np nr k r0 c))) else (if w4 < nI (TTc dl np nr k r0 c) then (f_X12_bestRound_J154 fu K61 Mf vf w1 (nI k) (nI c) (nI (TTc dl np nr k r0 c))) else (f_X12_bestRound_J161 fu K61 Mf vf w1 (nI k) w3 w4 (nI c)))) := by
  obtain ⟨⟨hnp, hnt, hnr⟩, -, -, ⟨b10, m10⟩, -⟩ := id hN.1
  obtain ⟨Wd, Ml, c1, c2, c3, c4, c5, c6, c7, c8, c9, c10, c11, c12, c13, c14⟩ := tr_lay fu hf (hN.pf hP) v T hT
  have eW : Wd = Wc := by
    rw [hcp] at c1
    injection c1 with c1
    exact c1.symm
  subst eW
  have h14 : Ml 0 14 = nI nr := ((hP.trans c3) 0 14 (by decide)).trans m10
  obtain ⟨Md, d1, d2, d3, d4⟩ := dg_loop fu hf (c := c) h1 hnr hk hc K61 v w1 w3 w4 k 0 fu Ml (by omega) (by omega) h14
  have hZ0 := c5.wide.zc (M' := Md) (fun r hr => d2 r (by omega))
  have hZ := hZ0.uf (i := 65) 1 (Or.inr rfl)
  have z : ∀ r, r ≠ 0 → (up2 Md 0 65 1) r = Md r := fun r h => up2_n _ _ _ h
  have hro : ∀ p, p < np → roC nr k c r0 p < nr := by
    intro p hp
    unfold roC
    by_cases e : p < k
    · rw [if_pos e]; exact Nat.mod_lt _ h1
    · rw [if_neg e]; exact (hr0 p hp).2
  have hC : ∀ p, p < np → dC Wd (up2 Md 0 65 1) p (roC nr k c r0 p) := by
    intro p hp
    obtain ⟨p5, p7, p8, p9, p10⟩ := c5.2.1.2.1 p hp
    rw [show 6 * 1 + p = 6 + p by omega] at p5 p7 p8 p9 p10
    unfold dC
    rw [z 53 (by decide), z 54 (by decide), z 55 (by decide), z 56 (by decide), z 57 (by decide), d2 53 (by decide), d2 54 (by decide), d2 55 (by decide), d2 56 (by decide)]
    refine ⟨p5, p7, p8, p9, ?_⟩
    unfold roC
    by_cases e : p < k
    · rw [if_pos e]; exact d3 p (by omega) e
    · rw [if_neg e, d4 _ (by omega), ← p10, (c11 p (by omega)).2.2.2.2.2]
      exact (hr0 p hp).1
  obtain ⟨Mf, vf, f1, f2, f3, f4, f5⟩ := weekV fu hf v hth hdl hro hZ hC (by rw [up2_i _ _ _ (by decide), d2 0 (by decide)]; exact c4.1) (up2_e _ _ _ _) (by rw [z 58 (by decide), d2 58 (by decide)]; exact c7)
  have hPd : PF Ml Md := by
    intro r i hr
    by_cases e : r = 57
    · subst e
      have hi : i < 6 := by
        rcases Nat.lt_or_ge i 6 with h | h
        · exact h
        · rw [hi6 (by simp) h] at hr; cases hr
      exact d4 i (by omega)
    · rw [d2 r e]
  have hPf : PF M0 Mf := (((hP.trans c3).trans hPd).up _ (by decide)).trans f3.pf
  have hm := more_q fu hf vf (hN.pf hPf) (e := fun p => dl p (roC nr k c r0 p)) (fun p hp => by
    rw [f2 p hp, hW1 7 (by decide) (by decide), hW1 8 (by decide) (by decide), (c11 p (by omega)).2.2.1, (c11 p (by omega)).2.2.2.1])
  refine ⟨Mf, vf, hPf, f4, f5, ?_⟩
  rw [nI_0] at d1
  rw [c2, tx_b1_q, d1]
  unfold f_X12_bestRound_J81
  rw [if_pos (nI_le (Nat.le_refl k) (by omega)), tx_let_q, f1, tx_b2_q, hm, tx_b1_q]
  rfl
theorem TT_le {fu : Nat} {B L W1 : S32} {np nt nr : Nat} {dl : Nat → Nat → Nat} (hdl : dlK fu B L W1 np nt nr dl) (hnp : np ≤ 6) {g : Nat → Nat} (hg : ∀ p, p < np → g p < nr) : sN (fun p => dl p (g p)) np 0 ≤ 5994 := by
  have h := sN_congr (e := fun p => dl p (g p)) (e' := fun p => if p < np then dl p (g p) else 0) np 0 (fun p _ h2 => by
    show _ = if p < np then dl p (g p) else 0
    rw [if_pos (by omega)])
  rw [h]
  have h2 := sN_le (e := fun p => if p < np then dl p (g p) else 0) (c := 999) (fun p => by
    show (if p < np then dl p (g p) else 0) ≤ 999
    by_cases e : p < np
    · rw [if_pos e]; exact (hdl p (g p) e (hg p e)).1
    · rw [if_neg e]; omega) np 0
  omega
theorem code_loop (fu : Nat) (hf : 1000 ≤ fu) {B L W0 M0 T Wc W1 : S32} {v0 : S64} {np nt nr w : Nat} (hN : NW B L W0 M0 np nt nr w) (hT : T 0 15 = 0 ∨ T 0 15 = 1) (hcp : f_X10_copy fu W0 T = some Wc) (hth : f_X10_think fu B Wc = some W1) (hW1 : ∀ q, q ≠ 11 → q ≠ 12 → W1 q = Wc q) {dl : Nat → Nat → Nat} (hdl : dlK fu B L W1 np nt nr dl) {r0 : Nat → Nat} (hr0 : ∀ p, p < np → W0 10 p = nI (r0 p) ∧ r0 p < nr) {k : Nat} (h1 : 0 < nr) (hk : k ≤ 4) (hkn : k ≤ np) (y1 : Int32) :
    ∀ m c M v best most n, c + m = nr ^ k → m < n → PF M0 M → v 0 59 = v0 0 59 → v 0 80 = v0 0 80 → ((c = 0 ∧ best = -1 ∧ most = 0) ∨ ∃ a, FA (TTc dl np nr k r0) c a ∧ best = nI a ∧ most = nI (TTc dl np nr k r0 a)) →
    ∃ a M' v', FA (TTc dl np nr k r0) (nr ^ k) a ∧ f_X12_bestRound_L61 fu n M v y1 (nI k) best most (nI c) = f_X12_bestRound_J61 fu (fun _ _ _ _ _ _ _ => none) M' v' y1 (nI k) (nI a) (nI (TTc dl np nr k r0 a)) (nI (nr ^ k)) ∧ PF M0 M' ∧ v' 0 59 = v0 0 59 ∧ v' 0 80 = v0 0 80 := by
  obtain ⟨⟨hnp, hnt, hnr⟩, -, -, ⟨b10, m10⟩, -⟩ := id hN.1
  have hpow := pow4 hnr hk
  have hpos : 0 < nr ^ k := Nat.pow_pos h1
  have hro : ∀ c p, p < np → roC nr k c r0 p < nr := by
    intro c p hp
    unfold roC
    by_cases e : p < k
    · rw [if_pos e]; exact Nat.mod_lt _ h1
    · rw [if_neg e]; exact (hr0 p hp).2
  have hTT : ∀ c, TTc dl np nr k r0 c ≤ 5994 := fun c => TT_le hdl hnp (hro c)
  intro m
  induction m with
  | zero =>
    intro c M v best most n hc hn hP h59 h80 hI
    obtain ⟨n, rfl⟩ := pos_ex hn
    rcases hI with ⟨e, -⟩ | ⟨a, hFA, rfl, rfl⟩
    · omega
    have ec : c = nr ^ k := by omega
    subst ec
    refine ⟨a, M, v, hFA, ?_, hP, h59, h80⟩
    show f_X12_bestRound_J61 _ _ _ _ _ _ _ _ _ = _
    unfold f_X12_bestRound_J61
    rw [(hP 0 14 (by decide)).trans m10, pw_q fu hf nr k (by omega), tx_b1_q, tx_b1_q, if_pos (nI_le (Nat.le_refl _) (by omega)), if_pos (nI_le (Nat.le_refl _) (by omega))]
  | succ m ih =>
    intro c M v best most n hc hn hP h59 h80 hI
    obtain ⟨n, rfl⟩ := pos_ex hn
    obtain ⟨Mf, vf, g1, g2, g3, g4⟩ := one_code fu hf (v := v) hN hT hcp hth hW1 hdl hr0 h1 hk hkn (c := c) (by omega) hP (f_X12_bestRound_L61 fu n) y1 best most
    have C : f_X12_bestRound_L61 fu (n + 1) M v y1 (nI k) best most (nI c) = (if best < (0 : Int32) then (f_X12_bestRound_J154 fu (f_X12_bestRound_L61 fu n) Mf vf y1 (nI k) (nI c) (nI (TTc dl np nr k r0 c))) else (if most < nI (TTc dl np nr k r0 c) then (f_X12_bestRound_J154 fu (f_X12_bestRound_L61 fu n) Mf vf y1 (nI k) (nI c) (nI (TTc dl np nr k r0 c))) else (f_X12_bestRound_J161 fu (f_X12_bestRound_L61 fu n) Mf vf y1 (nI k) best most (nI c)))) := by
      rw [← g4]
      show f_X12_bestRound_J61 _ _ _ _ _ _ _ _ _ = _
      unfold f_X12_bestRound_J61
      rw [(hP 0 14 (by decide)).trans m10, pw_q fu hf nr k (by omega), tx_b1_q, if_neg (nI_ge (show c < nr ^ k by omega) (by omega))]
    have ih' := fun best most => ih (c + 1) Mf vf best most n (by omega) (by omega) g1 (g2.trans h59) (g3.trans h80)
    have J154 : f_X12_bestRound_J154 fu (f_X12_bestRound_L61 fu n) Mf vf y1 (nI k) (nI c) (nI (TTc dl np nr k r0 c)) = f_X12_bestRound_L61 fu n Mf vf y1 (nI k) (nI c) (nI (TTc dl np nr k r0 c)) (nI (c + 1)) := by
      unfold f_X12_bestRound_J154 f_X12_bestRound_J161
      rw [tx_let_q, nI_1]
    have J161 : f_X12_bestRound_J161 fu (f_X12_bestRound_L61 fu n) Mf vf y1 (nI k) best most (nI c) = f_X12_bestRound_L61 fu n Mf vf y1 (nI k) best most (nI (c + 1)) := by
      unfold f_X12_bestRound_J161
      rw [tx_let_q, nI_1]
    rw [C, J154, J161]
    rcases hI with ⟨rfl, rfl, rfl⟩ | ⟨a, hFA, rfl, rfl⟩
    · rw [if_pos (by decide)]
      exact ih' _ _ (Or.inr ⟨0, FA.one _, rfl, rfl⟩)
    · have ha := hFA.1
      have t1 := hTT a
      have t2 := hTT c
      rw [if_neg (nI_pos (n := a) (by omega))]
      by_cases z : TTc dl np nr k r0 a < TTc dl np nr k r0 c
      · rw [if_pos (nI_lt z (by omega))]
        exact ih' _ _ (Or.inr ⟨c, hFA.step.2 z, rfl, rfl⟩)
      · rw [if_neg (nI_nlt (by omega) (by omega))]
        exact ih' _ _ (Or.inr ⟨a, hFA.step.1 (by omega), rfl, rfl⟩)
theorem rm_loop (fu : Nat) {B L W1 : S32} {np nt nr : Nat} (hnr : nr ≤ 4) (b10 : B 0 10 = nI nr) {dl : Nat → Nat → Nat} (hdl : dlK fu B L W1 np nt nr dl) (Y : S32) {p : Nat} (hp : p < np) (h1 : 0 < nr) : ∀ m r W vL vN chosen most n, r + m = nr → m < n → cFb W1 W nt → ((r = 0 ∧ chosen = 0 ∧ most = -1) ∨ ∃ a, FA (dl p) r a ∧ chosen = nI a ∧ most = nI (dl p a)) → ∃ a W' vL' vN', FA (dl p) nr a ∧ f_X9_readerOfMost_L7 fu Y B L n W vL vN (nI p) chosen most (nI r) = some (nI a, W', vL', vN') ∧ cFb W1 W' nt := by
  intro m
  induction m with
  | zero =>
    intro r W vL vN chosen most n hr hn hW hI
    obtain ⟨n, rfl⟩ := pos_ex hn
    rcases hI with ⟨e, -⟩ | ⟨a, hFA, rfl, rfl⟩
    · omega
    have : r = nr := by omega
    subst this
    refine ⟨a, W, vL, vN, hFA, ?_, hW⟩
    show f_X9_readerOfMost_J7 _ _ _ _ _ _ _ _ _ _ _ _ = _
    unfold f_X9_readerOfMost_J7
    rw [b10, if_pos (nI_le (Nat.le_refl _) (by omega))]
  | succ m ih =>
    intro r W vL vN chosen most n hr hn hW hI
    obtain ⟨n, rfl⟩ := pos_ex hn
    obtain ⟨h9, hd⟩ := hdl p r hp (by omega)
    obtain ⟨W', vL', vN', d1, d2⟩ := hd W hW vL vN
    have ih' := fun chosen most => ih (r + 1) W' vL' vN' chosen most n (by omega) (by omega) d2
    show ∃ a W' vL' vN', FA (dl p) nr a ∧ f_X9_readerOfMost_J7 fu Y B L (f_X9_readerOfMost_L7 fu Y B L n) W vL vN (nI p) chosen most (nI r) = some (nI a, W', vL', vN') ∧ cFb W1 W' nt
    unfold f_X9_readerOfMost_J7 f_X9_readerOfMost_J53
    rw [b10, if_neg (nI_ge (show r < nr by omega) (by omega)), if_neg (ge4 (t := r) (by omega)), d1, tx_b4_q, tx_let_q, tx_let_q, nI_1]
    rcases hI with ⟨rfl, rfl, rfl⟩ | ⟨a, hFA, rfl, rfl⟩
    · rw [if_neg (show ¬ nI (dl p 0) ≤ -1 from fun z => nI_pos (n := dl p 0) (by omega) (Int32.lt_of_le_of_lt z (by decide)))]
      exact ih' _ _ (Or.inr ⟨0, FA.one _, rfl, rfl⟩)
    · have ha := hFA.1
      have h9a := (hdl p a hp (by omega)).1
      by_cases z : dl p r ≤ dl p a
      · rw [if_pos (nI_le z (by omega))]
        exact ih' _ _ (Or.inr ⟨a, hFA.step.1 z, rfl, rfl⟩)
      · rw [if_neg (nI_ge (by omega) (by omega))]
        exact ih' _ _ (Or.inr ⟨r, hFA.step.2 (by omega), rfl, rfl⟩)
theorem rm_q (fu : Nat) (hf : 1000 ≤ fu) {B L W1 : S32} {np nt nr : Nat} (hnr : nr ≤ 4) (b10 : B 0 10 = nI nr) {dl : Nat → Nat → Nat} (hdl : dlK fu B L W1 np nt nr dl) (Y : S32) {p : Nat} (hp : p < np) (h1 : 0 < nr) {am : Nat} (ha : FA (dl p) nr am) {W : S32} (vL vN : S64) (hW : cFb W1 W nt) : ∃ W' vL' vN', f_X9_readerOfMost fu Y B L W vL vN (nI p) = some (nI am, W', vL', vN') ∧ cFb W1 W' nt := by
  obtain ⟨a, W', vL', vN', g1, g2, g3⟩ := rm_loop fu hnr b10 hdl Y hp h1 nr 0 W vL vN 0 (-1) fu (by omega) (by omega) hW (Or.inl ⟨rfl, rfl, rfl⟩)
  have := g1.uniq ha
  subst this
  exact ⟨W', vL', vN', g2, g3⟩
theorem door_q (fu : Nat) (hf : 1000 ≤ fu) {B L W0 W1 : S32} {np nt nr : Nat} (hnp : np ≤ 6) (hnr : nr ≤ 4) (b1 : B 0 1 = nI np) (b10 : B 0 10 = nI nr) {dl : Nat → Nat → Nat} (hdl : dlK fu B L W1 np nt nr dl) (Y : S32) (h1 : 0 < nr) {am r0 : Nat → Nat} (ha : ∀ p, p < np → FA (dl p) nr (am p)) (hr0 : ∀ p, p < np → W0 10 p = nI (r0 p) ∧ r0 p < nr) {q : Nat} (hq : q < np) {W : S32} (vL vN : S64) (hW : cFb W1 W nt) (K : S32 → S64 → S64 → Int32 → Int32 → Int32 → Option (Int32 × S32 × S64 × S64)) (y1 tax : Int32) :
    ∃ W' vL' vN', cFb W1 W' nt ∧ f_X9_roundOfMost_J20 fu Y W0 B L K W vL vN y1 tax (nI q) = f_X9_roundOfMost_J61 fu Y W0 B L K W' vL' vN' y1 tax (nI q) (nI (if q < 4 then am q else r0 q)) := by
  unfold f_X9_roundOfMost_J20
  rw [b1, if_neg (nI_ge hq (by omega)), if_neg (ge6 (t := q) (by omega))]
  by_cases e : q < 4
  · obtain ⟨W', vL', vN', g1, g2⟩ := rm_q fu hf hnr b10 hdl Y hq h1 (ha q hq) vL vN hW
    refine ⟨W', vL', vN', g2, ?_⟩
    rw [if_neg (ge4 e), g1, tx_b4_q, if_pos e]
  · refine ⟨W, vL, vN, hW, ?_⟩
    rw [if_pos (show (4 : Int32) ≤ nI q from nI_le (a := 4) (by omega) (by omega)), tx_ck_q (j := q) (by omega) (by omega), nI_clamp (n := q) (by omega), (hr0 q hq).1, if_neg e]
theorem ro_all (fu : Nat) (hf : 1000 ≤ fu) {B L W0 W1 : S32} {np nt nr : Nat} (hnp : np ≤ 6) (hnr : nr ≤ 4) (b1 : B 0 1 = nI np) (b10 : B 0 10 = nI nr) {dl : Nat → Nat → Nat} (hdl : dlK fu B L W1 np nt nr dl) (Y : S32) (h1 : 0 < nr) {am r0 : Nat → Nat} (ha : ∀ p, p < np → FA (dl p) nr (am p)) (hr0 : ∀ p, p < np → W0 10 p = nI (r0 p) ∧ r0 p < nr) (y1 : Int32) (hy : ∀ q, q < np → nI q = y1 → (4 : Int32) ≤ y1) : ∀ m q W vL vN s n, q + m = np → m < n → cFb W1 W nt → ∃ W' vL' vN', f_X9_roundOfMost_L20 fu Y W0 B L n W vL vN y1 (nI s) (nI q) = some (nI (s + sN (fun p => dl p (if p < 4 then am p else r0 p)) m q), W', vL', vN') ∧ cFb W1 W' nt := by
  intro m
  induction m with
  | zero =>
    intro q W vL vN s n hq hn hW
    obtain ⟨n, rfl⟩ := pos_ex hn
    refine ⟨W, vL, vN, ?_, hW⟩
    show f_X9_roundOfMost_J20 _ _ _ _ _ _ _ _ _ _ _ _ = _
    unfold f_X9_roundOfMost_J20
    rw [b1, if_pos (nI_le (by omega) (by omega))]
    rfl
  | succ m ih =>
    intro q W vL vN s n hq hn hW
    obtain ⟨n, rfl⟩ := pos_ex hn
    have hqn : q < np := by omega
    obtain ⟨W', vL', vN', g1, g2⟩ := door_q fu hf hnp hnr b1 b10 hdl Y h1 ha hr0 hqn vL vN hW (f_X9_roundOfMost_L20 fu Y W0 B L n) y1 (nI s)
    have hch : (if q < 4 then am q else r0 q) < nr := by
      by_cases e : q < 4
      · rw [if_pos e]; exact (ha q hqn).1
      · rw [if_neg e]; exact (hr0 q hqn).2
    obtain ⟨h9, hd⟩ := hdl q _ hqn hch
    obtain ⟨W2, vL2, vN2, d1, d2⟩ := hd W' g1 vL' vN'
    obtain ⟨W3, vL3, vN3, k1, k2⟩ := ih (q + 1) W2 vL2 vN2 (s + dl q (if q < 4 then am q else r0 q)) n (by omega) (by omega) d2
    refine ⟨W3, vL3, vN3, ?_, k2⟩
    show f_X9_roundOfMost_J20 _ _ _ _ _ _ _ _ _ _ _ _ = some (nI (s + (dl q (if q < 4 then am q else r0 q) + sN (fun p => dl p (if p < 4 then am p else r0 p)) m (q + 1))), W3, vL3, vN3)
    rw [g2, ← Nat.add_assoc, ← k1]
    unfold f_X9_roundOfMost_J61 f_X9_roundOfMost_J77
    rw [d1, tx_b4_q, tx_let_q, tx_let_q, nI_add, nI_1]
    by_cases e : nI q = y1
    · rw [if_pos e, if_pos (hy q hqn e)]
    · rw [if_neg e]
theorem ro_one (fu : Nat) (hf : 1000 ≤ fu) {B L W0 W1 : S32} {np nt nr : Nat} (hnp : np ≤ 6) (hnr : nr ≤ 4) (b1 : B 0 1 = nI np) (b10 : B 0 10 = nI nr) {dl : Nat → Nat → Nat} (hdl : dlK fu B L W1 np nt nr dl) (Y : S32) (h1 : 0 < nr) {am r0 : Nat → Nat} (ha : ∀ p, p < np → FA (dl p) nr (am p)) (hr0 : ∀ p, p < np → W0 10 p = nI (r0 p) ∧ r0 p < nr) {x : Nat} (hx : x < np) (hx4 : x < 4) : ∀ m q W vL vN s n, q + m = x → m < n → cFb W1 W nt → ∃ W' vL' vN', f_X9_roundOfMost_L20 fu Y W0 B L n W vL vN (nI x) (nI s) (nI q) = some (nI (am x), W', vL', vN') ∧ cFb W1 W' nt := by
  intro m
  induction m with
  | zero =>
    intro q W vL vN s n hq hn hW
    obtain ⟨n, rfl⟩ := pos_ex hn
    have : q = x := by omega
    subst this
    obtain ⟨W', vL', vN', g1, g2⟩ := door_q fu hf hnp hnr b1 b10 hdl Y h1 ha hr0 hx vL vN hW (f_X9_roundOfMost_L20 fu Y W0 B L n) (nI q) (nI s)
    refine ⟨W', vL', vN', ?_, g1⟩
    show f_X9_roundOfMost_J20 _ _ _ _ _ _ _ _ _ _ _ _ = _
    rw [g2]
    unfold f_X9_roundOfMost_J61
    rw [if_pos rfl, if_neg (ge4 hx4), if_pos hx4]
  | succ m ih =>
    intro q W vL vN s n hq hn hW
    obtain ⟨n, rfl⟩ := pos_ex hn
    have hqn : q < np := by omega
    obtain ⟨W', vL', vN', g1, g2⟩ := door_q fu hf hnp hnr b1 b10 hdl Y h1 ha hr0 hqn vL vN hW (f_X9_roundOfMost_L20 fu Y W0 B L n) (nI x) (nI s)
    have hch : (if q < 4 then am q else r0 q) < nr := by
      by_cases e : q < 4
      · rw [if_pos e]; exact (ha q hqn).1
      · rw [if_neg e]; exact (hr0 q hqn).2
    obtain ⟨h9, hd⟩ := hdl q _ hqn hch
    obtain ⟨W2, vL2, vN2, d1, d2⟩ := hd W' g1 vL' vN'
    obtain ⟨W3, vL3, vN3, k1, k2⟩ := ih (q + 1) W2 vL2 vN2 (s + dl q (if q < 4 then am q else r0 q)) n (by omega) (by omega) d2
    refine ⟨W3, vL3, vN3, ?_, k2⟩
    show f_X9_roundOfMost_J20 _ _ _ _ _ _ _ _ _ _ _ _ = _
    rw [g2, ← k1]
    unfold f_X9_roundOfMost_J61 f_X9_roundOfMost_J77
    rw [d1, tx_b4_q, tx_let_q, tx_let_q, nI_add, nI_1, if_neg (fun z => absurd ((nI_eq (by omega) (by omega)).mp z) (by omega))]
/-- the first code of most has each door's first reader of most -/
theorem best_dg {dl : Nat → Nat → Nat} {np nr k : Nat} {am r0 : Nat → Nat} (h1 : 0 < nr) (hkn : k ≤ np) (ha : ∀ p, p < np → FA (dl p) nr (am p)) {a : Nat} (hFA : FA (TTc dl np nr k r0) (nr ^ k) a) : ∀ p, p < k → dg nr k a p = am p := by
  obtain ⟨c1, c2⟩ := cd_dg h1 k (f := am) (fun p hp => (ha p (by omega)).1)
  have hle := hFA.2.1 _ c1
  have hm := sN_mono (e := fun p => dl p (roC nr k a r0 p)) (e' := fun p => dl p (roC nr k (cdN nr am k) r0 p)) np 0 (fun p _ hp => by
    show dl p (roC nr k a r0 p) ≤ dl p (roC nr k (cdN nr am k) r0 p)
    unfold roC
    by_cases e : p < k
    · rw [if_pos e, if_pos e, c2 p e]
      exact (ha p (by omega)).2.1 _ (Nat.mod_lt _ h1)
    · rw [if_neg e, if_neg e]
      exact Nat.le_refl _)
  have heq := hm.2 hle
  have hge : cdN nr am k ≤ a := cd_le h1 k a (fun p hp => by
    have e : dl p (roC nr k a r0 p) = dl p (roC nr k (cdN nr am k) r0 p) := heq p (by omega) (by omega)
    unfold roC at e
    rw [if_pos hp, if_pos hp, c2 p hp] at e
    rcases Nat.lt_or_ge (dg nr k a p) (am p) with z | z
    · have := (ha p (by omega)).2.2 _ z
      omega
    · exact z)
  have ea : cdN nr am k = a := by
    rcases Nat.lt_or_ge (cdN nr am k) a with z | z
    · have hlt := hFA.2.2 _ z
      have hm1 : TTc dl np nr k r0 a ≤ TTc dl np nr k r0 (cdN nr am k) := hm.1
      omega
    · omega
  intro p hp
  rw [← ea]
  exact c2 p hp
