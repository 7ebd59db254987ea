/-- what holds at the law's entry: the machine, the code, the tables' words (any of lw_tbl by 'hts w (by decide +kernel)'), the script of L ints xs at the cell b, what the Statement gives of the start (any of its parts by flat_of_before) -/
def lw_At (p : Program) (s : State) (m : MethodId) (meth : Method) (c : Code) (b L : Nat) (xs : Nat → Int32) : Prop :=
  p.tables.exec = Jvm.exec ∧ c.code = code ∧ meth.sig.returnType = ret ∧ c.maxLocals = 7 ∧ s.vm.findClass R_law = some m.cls ∧ (∀ w ∈ lw_tbl, w.before #[Value.ref b] s = true) ∧ va_X b L xs s s.heap ∧ b < s.heap.size ∧ meth.locks = false ∧ (Jvm.Cond.and given_1 narrow_1).before #[Value.ref b] s = true

theorem law_ar {args : Array Value} {s : State} {ty : FieldType} (h : (Cond.arrayClass ty).before args s = true) : ∃ cA : ClassId, ArrOfT s cA ty ∧ s.vm.findClass ("[" ++ ty.toString) = some cA := by
  obtain ⟨cA, k, comp, h1, h2, h3⟩ := Cond.arrayClass_spec h
  exact ⟨cA, fun n z => ⟨fun k9 h9 => (by cases h9), k, h2, comp, h3⟩, h1⟩
set_option maxRecDepth 100000 in
theorem law_st_WORDS {s : State} {b : Nat} (hgv : (Jvm.Cond.and given_1 narrow_1).before #[Value.ref b] s = true) : ∀ j : Nat, j < 20 → (Term.elem (.static "ThoughtTax$Tokens" "WORDS" "[J") (.int (Int32.ofNat j))).eval #[Value.ref b] s none [] s = some (.long (tx_words j)) := by
  have hs := flat_of_before _ hgv
  intro j hj
  match j, hj with
  | 0, _ => exact va_eqtl (hs (.eq (.elem (.static "ThoughtTax$Tokens" "WORDS" "[J") (.int 0)) (.long 7168366)) (by decide +kernel))
  | 1, _ => exact va_eqtl (hs (.eq (.elem (.static "ThoughtTax$Tokens" "WORDS" "[J") (.int 1)) (.long 32765925218805876)) (by decide +kernel))
  | 2, _ => exact va_eqtl (hs (.eq (.elem (.static "ThoughtTax$Tokens" "WORDS" "[J") (.int 2)) (.long 125779751232882)) (by decide +kernel))
  | 3, _ => exact va_eqtl (hs (.eq (.elem (.static "ThoughtTax$Tokens" "WORDS" "[J") (.int 3)) (.long 1918989413)) (by decide +kernel))
  | 4, _ => exact va_eqtl (hs (.eq (.elem (.static "ThoughtTax$Tokens" "WORDS" "[J") (.int 4)) (.long 1685417068)) (by decide +kernel))
  | 5, _ => exact va_eqtl (hs (.eq (.elem (.static "ThoughtTax$Tokens" "WORDS" "[J") (.int 5)) (.long 1936024932)) (by decide +kernel))
  | 6, _ => exact va_eqtl (hs (.eq (.elem (.static "ThoughtTax$Tokens" "WORDS" "[J") (.int 6)) (.long 7102839)) (by decide +kernel))
  | 7, _ => exact va_eqtl (hs (.eq (.elem (.static "ThoughtTax$Tokens" "WORDS" "[J") (.int 7)) (.long 1919246692)) (by decide +kernel))
  | 8, _ => exact va_eqtl (hs (.eq (.elem (.static "ThoughtTax$Tokens" "WORDS" "[J") (.int 8)) (.long 6583653)) (by decide +kernel))
  | 9, _ => exact va_eqtl (hs (.eq (.elem (.static "ThoughtTax$Tokens" "WORDS" "[J") (.int 9)) (.long 1751737445)) (by decide +kernel))
  | 10, _ => exact va_eqtl (hs (.eq (.elem (.static "ThoughtTax$Tokens" "WORDS" "[J") (.int 10)) (.long 28530)) (by decide +kernel))
  | 11, _ => exact va_eqtl (hs (.eq (.elem (.static "ThoughtTax$Tokens" "WORDS" "[J") (.int 11)) (.long 6385252)) (by decide +kernel))
  | 12, _ => exact va_eqtl (hs (.eq (.elem (.static "ThoughtTax$Tokens" "WORDS" "[J") (.int 12)) (.long 7237492)) (by decide +kernel))
  | 13, _ => exact va_eqtl (hs (.eq (.elem (.static "ThoughtTax$Tokens" "WORDS" "[J") (.int 13)) (.long 512970880104)) (by decide +kernel))
  | 14, _ => exact va_eqtl (hs (.eq (.elem (.static "ThoughtTax$Tokens" "WORDS" "[J") (.int 14)) (.long 495723310188)) (by decide +kernel))
  | 15, _ => exact va_eqtl (hs (.eq (.elem (.static "ThoughtTax$Tokens" "WORDS" "[J") (.int 15)) (.long 483006772069)) (by decide +kernel))
  | 16, _ => exact va_eqtl (hs (.eq (.elem (.static "ThoughtTax$Tokens" "WORDS" "[J") (.int 16)) (.long 512869819763)) (by decide +kernel))
  | 17, _ => exact va_eqtl (hs (.eq (.elem (.static "ThoughtTax$Tokens" "WORDS" "[J") (.int 17)) (.long 110455492994404)) (by decide +kernel))
  | 18, _ => exact va_eqtl (hs (.eq (.elem (.static "ThoughtTax$Tokens" "WORDS" "[J") (.int 18)) (.long 499967685221)) (by decide +kernel))
  | 19, _ => exact va_eqtl (hs (.eq (.elem (.static "ThoughtTax$Tokens" "WORDS" "[J") (.int 19)) (.long 2003133803)) (by decide +kernel))
  | k + 20, h => exact absurd h (by omega)
set_option maxRecDepth 100000 in
theorem law_st_RANKS {s : State} {b : Nat} (hgv : (Jvm.Cond.and given_1 narrow_1).before #[Value.ref b] s = true) : ∀ j : Nat, j < 15 → (Term.elem (.static "ThoughtTax$LawReader" "RANKS" "[I") (.int (Int32.ofNat j))).eval #[Value.ref b] s none [] s = some (.int (tx_ranks j)) := by
  have hs := flat_of_before _ hgv
  intro j hj
  match j, hj with
  | 0, _ => exact va_eqt (hs (.eq (.elem (.static "ThoughtTax$LawReader" "RANKS" "[I") (.int 0)) (.int 0)) (by decide +kernel))
  | 1, _ => exact va_eqt (hs (.eq (.elem (.static "ThoughtTax$LawReader" "RANKS" "[I") (.int 1)) (.int 0)) (by decide +kernel))
  | 2, _ => exact va_eqt (hs (.eq (.elem (.static "ThoughtTax$LawReader" "RANKS" "[I") (.int 2)) (.int 1)) (by decide +kernel))
  | 3, _ => exact va_eqt (hs (.eq (.elem (.static "ThoughtTax$LawReader" "RANKS" "[I") (.int 3)) (.int 2)) (by decide +kernel))
  | 4, _ => exact va_eqt (hs (.eq (.elem (.static "ThoughtTax$LawReader" "RANKS" "[I") (.int 4)) (.int 3)) (by decide +kernel))
  | 5, _ => exact va_eqt (hs (.eq (.elem (.static "ThoughtTax$LawReader" "RANKS" "[I") (.int 5)) (.int 4)) (by decide +kernel))
  | 6, _ => exact va_eqt (hs (.eq (.elem (.static "ThoughtTax$LawReader" "RANKS" "[I") (.int 6)) (.int 4)) (by decide +kernel))
  | 7, _ => exact va_eqt (hs (.eq (.elem (.static "ThoughtTax$LawReader" "RANKS" "[I") (.int 7)) (.int 4)) (by decide +kernel))
  | 8, _ => exact va_eqt (hs (.eq (.elem (.static "ThoughtTax$LawReader" "RANKS" "[I") (.int 8)) (.int 4)) (by decide +kernel))
  | 9, _ => exact va_eqt (hs (.eq (.elem (.static "ThoughtTax$LawReader" "RANKS" "[I") (.int 9)) (.int 4)) (by decide +kernel))
  | 10, _ => exact va_eqt (hs (.eq (.elem (.static "ThoughtTax$LawReader" "RANKS" "[I") (.int 10)) (.int 4)) (by decide +kernel))
  | 11, _ => exact va_eqt (hs (.eq (.elem (.static "ThoughtTax$LawReader" "RANKS" "[I") (.int 11)) (.int 5)) (by decide +kernel))
  | 12, _ => exact va_eqt (hs (.eq (.elem (.static "ThoughtTax$LawReader" "RANKS" "[I") (.int 12)) (.int 5)) (by decide +kernel))
  | 13, _ => exact va_eqt (hs (.eq (.elem (.static "ThoughtTax$LawReader" "RANKS" "[I") (.int 13)) (.int 6)) (by decide +kernel))
  | 14, _ => exact va_eqt (hs (.eq (.elem (.static "ThoughtTax$LawReader" "RANKS" "[I") (.int 14)) (.int 6)) (by decide +kernel))
  | k + 15, h => exact absurd h (by omega)
set_option maxRecDepth 100000 in
theorem law_st_PLAYS {s : State} {b : Nat} (hgv : (Jvm.Cond.and given_1 narrow_1).before #[Value.ref b] s = true) : ∀ j : Nat, j < 4 → (Term.elem (.static "ThoughtTax$Game" "PLAYS" "[I") (.int (Int32.ofNat j))).eval #[Value.ref b] s none [] s = some (.int (tx_plays j)) := by
  have hs := flat_of_before _ hgv
  intro j hj
  match j, hj with
  | 0, _ => exact va_eqt (hs (.eq (.elem (.static "ThoughtTax$Game" "PLAYS" "[I") (.int 0)) (.int 0)) (by decide +kernel))
  | 1, _ => exact va_eqt (hs (.eq (.elem (.static "ThoughtTax$Game" "PLAYS" "[I") (.int 1)) (.int 1)) (by decide +kernel))
  | 2, _ => exact va_eqt (hs (.eq (.elem (.static "ThoughtTax$Game" "PLAYS" "[I") (.int 2)) (.int 10)) (by decide +kernel))
  | 3, _ => exact va_eqt (hs (.eq (.elem (.static "ThoughtTax$Game" "PLAYS" "[I") (.int 3)) (.int 11)) (by decide +kernel))
  | k + 4, h => exact absurd h (by omega)
set_option maxHeartbeats 4000000 in
set_option maxRecDepth 100000 in
theorem law_EN {s : State} {b : Nat} (hts : ∀ w ∈ lw_tbl, w.before #[Value.ref b] s = true) (hgv : (Jvm.Cond.and given_1 narrow_1).before #[Value.ref b] s = true) : ∃ g : GG, EN g (fun q : Nat => s.heap.size ≤ q) s := by
  have tt : ∀ w ∈ allW, w.before #[Value.ref b] s = true := fun w h => hts w (List.mem_filter.mp h).1
  have hs := flat_of_before _ hgv
  obtain ⟨cX0, iX0, hX0⟩ := u_known (C := RX0) (T := TX0) (N := 18) (n := 18) tt inX0 (tt _ kw_47)
  obtain ⟨cX1, iX1, hX1⟩ := u_known (C := RX1) (T := TX1) (N := 4) (n := 4) tt inX1 (tt _ kw_388)
  obtain ⟨cX2, iX2, hX2⟩ := u_known (C := RX2) (T := TX2) (N := 7) (n := 7) tt inX2 (tt _ kw_408)
  obtain ⟨cX3, iX3, hX3⟩ := u_known (C := RX3) (T := TX3) (N := 4) (n := 4) tt inX3 (tt _ kw_438)
  obtain ⟨cX4, iX4, hX4⟩ := u_known (C := RX4) (T := TX4) (N := 9) (n := 9) tt inX4 (tt _ kw_220)
  obtain ⟨cX5, iX5, hX5⟩ := u_known (C := RX5) (T := TX5) (N := 6) (n := 6) tt inX5 (tt _ kw_53)
  obtain ⟨cX6, iX6, hX6⟩ := u_known (C := RX6) (T := TX6) (N := 2) (n := 2) tt inX6 (tt _ kw_31)
  obtain ⟨cX7, iX7, hX7⟩ := u_known (C := RX7) (T := TX7) (N := 7) (n := 7) tt inX7 (tt _ kw_184)
  obtain ⟨cX8, iX8, hX8⟩ := u_known (C := RX8) (T := TX8) (N := 6) (n := 6) tt inX8 (tt _ kw_190)
  obtain ⟨cX9, iX9, hX9⟩ := u_known (C := RX9) (T := TX9) (N := 2) (n := 2) tt inX9 (tt _ kw_373)
  obtain ⟨cX10, iX10, hX10⟩ := u_known (C := RX10) (T := TX10) (N := 17) (n := 17) tt inX10 (tt _ kw_279)
  obtain ⟨cX11, iX11, hX11⟩ := u_known (C := RX11) (T := TX11) (N := 11) (n := 11) tt inX11 (tt _ kw_23)
  obtain ⟨cX12, iX12, hX12⟩ := u_known (C := RX12) (T := TX12) (N := 81) (n := 81) tt inX12 (tt _ kw_1319)
  obtain ⟨ybyte, rbyte, nbyte⟩ := law_ar (tt _ kw_45)
  obtain ⟨yint, rint, nint⟩ := law_ar (tt _ kw_79)
  obtain ⟨ylong, rlong, nlong⟩ := law_ar (tt _ kw_80)
  obtain ⟨yboolean, rboolean, nboolean⟩ := law_ar (tt _ kw_253)
  obtain ⟨tWORDS, eWORDS, zWORDS⟩ := va_Tof (A := (fun q : Nat => s.heap.size ≤ q)) (N := 20) (by decide) (hs (.arrayOf (.static "ThoughtTax$Tokens" "WORDS" "[J") .long) (by decide +kernel)) (va_eqt (hs (.eq (.length (.static "ThoughtTax$Tokens" "WORDS" "[J")) (.int 20)) (by decide +kernel))) (law_st_WORDS hgv) (fun a h => Nat.not_le.mpr h)
  have sWORDS := va_Zof (A := (fun q : Nat => s.heap.size ≤ q)) (hts (.laysStatic "ThoughtTax$Tokens" "WORDS" "[J") (List.mem_append_right _ (List.mem_append_right _ (List.mem_append_right _ (List.mem_append_left _ (List.mem_of_getElem? (i := 75) rfl)))))) (tt _ kw_6) eWORDS (fun a h => Nat.not_le.mpr h)
  obtain ⟨tRANKS, eRANKS, zRANKS⟩ := va_Tof (A := (fun q : Nat => s.heap.size ≤ q)) (N := 15) (by decide) (hs (.arrayOf (.static "ThoughtTax$LawReader" "RANKS" "[I") .int) (by decide +kernel)) (va_eqt (hs (.eq (.length (.static "ThoughtTax$LawReader" "RANKS" "[I")) (.int 15)) (by decide +kernel))) (law_st_RANKS hgv) (fun a h => Nat.not_le.mpr h)
  have sRANKS := va_Zof (A := (fun q : Nat => s.heap.size ≤ q)) (hts (.laysStatic "ThoughtTax$LawReader" "RANKS" "[I") (List.mem_append_right _ (List.mem_append_right _ (List.mem_append_right _ (List.mem_append_left _ (List.mem_of_getElem? (i := 177) rfl)))))) (tt _ kw_7) eRANKS (fun a h => Nat.not_le.mpr h)
  obtain ⟨tPLAYS, ePLAYS, zPLAYS⟩ := va_Tof (A := (fun q : Nat => s.heap.size ≤ q)) (N := 4) (by decide) (hs (.arrayOf (.static "ThoughtTax$Game" "PLAYS" "[I") .int) (by decide +kernel)) (va_eqt (hs (.eq (.length (.static "ThoughtTax$Game" "PLAYS" "[I")) (.int 4)) (by decide +kernel))) (law_st_PLAYS hgv) (fun a h => Nat.not_le.mpr h)
  have sPLAYS := va_Zof (A := (fun q : Nat => s.heap.size ≤ q)) (hts (.laysStatic "ThoughtTax$Game" "PLAYS" "[I") (List.mem_append_right _ (List.mem_append_right _ (List.mem_append_left _ (List.mem_of_getElem? (i := 204) rfl))))) (tt _ kw_12) ePLAYS (fun a h => Nat.not_le.mpr h)
  refine ⟨((fun i => [cX0, cX1, cX2, cX3, cX4, cX5, cX6, cX7, cX8, cX9, cX10, cX11, cX12].getD i cX0, fun i => [iX0, iX1, iX2, iX3, iX4, iX5, iX6, iX7, iX8, iX9, iX10, iX11, iX12].getD i iX0), fun i => [ybyte, yint, ylong, yboolean].getD i ybyte, fun i => [tWORDS, tRANKS, tPLAYS].getD i 0), ⟨?_, ?_⟩, ⟨⟨sWORDS, zWORDS⟩, ⟨sRANKS, zRANKS⟩, ⟨sPLAYS, zPLAYS⟩⟩, ?_⟩
  · intro k q hq
    match k, hq with
    | 0, hq => cases hq; exact hX0
    | 1, hq => cases hq; exact hX1
    | 2, hq => cases hq; exact hX2
    | 3, hq => cases hq; exact hX3
    | 4, hq => cases hq; exact hX4
    | 5, hq => cases hq; exact hX5
    | 6, hq => cases hq; exact hX6
    | 7, hq => cases hq; exact hX7
    | 8, hq => cases hq; exact hX8
    | 9, hq => cases hq; exact hX9
    | 10, hq => cases hq; exact hX10
    | 11, hq => cases hq; exact hX11
    | 12, hq => cases hq; exact hX12
    | k + 13, hq => simp [vwCl] at hq
  · intro k q hq
    match k, hq with
    | 0, hq => cases hq; exact ⟨rbyte, nbyte⟩
    | 1, hq => cases hq; exact ⟨rint, nint⟩
    | 2, hq => cases hq; exact ⟨rlong, nlong⟩
    | 3, hq => cases hq; exact ⟨rboolean, nboolean⟩
    | k + 4, hq => simp [tx_tys] at hq
  · intro w hw
    have h2 := (List.mem_filter.mp hw).2
    have h3 := hts w (List.mem_append_right _ (List.mem_filter.mp hw).1)
    cases w <;> first | exact va_Nw.of rfl h3 | (exact absurd h2 (by intro q; cases q))
def lawQ0 (k : Nat → Nat) : Nat → Nat := fun i => [k 0, k 0, k 1, k 3].getD i 0
def lawU0 (u20 u41 : S32) : Nat → S32 := fun i => ([i_X11_u, u20, i_X0_u, i_X3_u, i_X2_u, i_X1_u, i_X9_u, i_X10_u, (fun _ _ => 0), i_X10_u, (fun _ _ => 0), (fun _ _ => 0), i_X7_u, i_X4_u, i_X8_u, i_X0_u, i_X5_u, i_X5_u, i_X6_u, u41] : List S32).getD i (fun _ _ => 0)
def lawV0 (v42 : S64) : Nat → S64 := fun i => ([(fun _ _ => 0), (fun _ _ => 0), (fun _ _ => 0), (fun _ _ => 0), (fun _ _ => 0), (fun _ _ => 0), (fun _ _ => 0), (fun _ _ => 0), (fun _ _ => 0), (fun _ _ => 0), (fun _ _ => 0), (fun _ _ => 0), (fun _ _ => 0), (fun _ _ => 0), (fun _ _ => 0), (fun _ _ => 0), i_X5_v, i_X5_v, (fun _ _ => 0), v42] : List S64).getD i (fun _ _ => 0)
def INIT (RR : RRt) (fu : Nat) : Prop := ∃ (u20 u40 u41 : S32) (v42 : S64), f_X10_begin fu i_X0_u i_X10_u = some u20 ∧ f_X12_plain fu i_X12_v i_X12_u = some u40 ∧ f_X12_keepText fu u40 i_X12_v = some (u41, v42) ∧ ∀ k : Nat → Nat, RR k (lawQ0 k) (lawU0 u20 u41) (lawV0 v42)
section TXL
variable {p : Program} {l : Launch} {e : Env} {R : Room} {s : State} {m : MethodId} {args : Array Value} {below : List Frame} {meth : Method} {c : Code} {H : Heap} {locs : List Loc} {cells slots : Nat} {Q : State → Prop}
variable {g : GG} {A : Nat → Prop} {ws : va_W} {pc : Nat} {ls : Array Slot} {rest : List Value} {cc : ByteArray} {nL : Nat} {own : String} {kc : Cond}
theorem tx_newl0 (S : CallFix p m c cc nL s args (kc :: allW) own) (hE : EN g A s) (hA : ∀ q : Nat, s.heap.size ≤ q → A q) (hw : WD g A s.heap ws H locs) {n : Int32} (N : Nat) (hn : ¬ n < 0) (hN : n.toNatClampNeg = N) (hby : N * componentBytes .long ≤ 536870912) (hc : cells + 1 ≤ R.cells) (hs : slots + N ≤ R.slots) (hdg : decode cc pc = .ok (.newarray .long, 2))
    (kk : ∀ (q : Nat) (H1 : Heap), WD g A s.heap ([(q, .inl (g.2.1 2, N, .inr (.inl (fun _ => 0))))] ++ ws) H1 locs → W p l e R s m args below meth c H1 locs (cells + 1) (slots + N) Q (F0 m (pc + 2) ls (.ref q :: rest))) : W p l e R s m args below meth c H locs cells slots Q (F0 m pc ls (.int n :: rest)) :=
  tx_newal (L := []) (r := ws) S hE hA hw N hn hN hby hc hs hdg kk
end TXL
set_option maxHeartbeats 8000000 in
set_option maxRecDepth 100000 in
theorem law_start_open {p : Program} {e : Env} {s : State} {m : MethodId} {below : List Frame} {meth : Method} {c : Code} (l : Launch) {fu b L : Nat} {xs : Nat → Int32} (hL : L ≤ 3072) (C0 : lw_At p s m meth c b L xs) (RR : RRt) (sp : SPall RR fu) (ini : INIT RR fu) (h4 : ∀ (g : GG) (qo : Nat), EN g (fun q : Nat => s.heap.size ≤ q) s → law4 RR p l e s m below meth c g b qo L) : W p l e room_1 s m #[Value.ref b] below meth c s.heap [] 0 0 (lw_Z below #[Value.ref b] s) (entryFrame m ([Value.ref b] : List Value).toArray 7) := by
  obtain ⟨hx, hb, hr, hml, hown, hts, hX, hbl, hlk, hgv⟩ := C0
  obtain ⟨g, hE⟩ := law_EN hts hgv
  obtain ⟨u20, u40, u41, v42, hf0, hf1, hf2, hR⟩ := ini
  have tt : ∀ w ∈ allW, w.before #[Value.ref b] s = true := fun w h => hts w (List.mem_filter.mp h).1
  have S : CallFix p m c code 7 s #[Value.ref b] (Cond.initialized RL :: allW) RL := ⟨hx, hb, hml, hown, fun w h => (List.mem_cons.mp h).elim (fun z => by rw [z]; exact tt _ kw_0) (tt w)⟩
  have hA : ∀ q : Nat, s.heap.size ≤ q → (fun q : Nat => s.heap.size ≤ q) q := fun _ h => h
  have hl := lv_entry ([.ref b]) (n := 7) (Nat.le_of_ble_eq_true rfl)
  rw [lg_entry_eq]
  generalize (lg_sl ([.ref b]) ++ List.replicate (7 - (lg_sl ([.ref b])).length) Slot.unset).toArray = ls at hl ⊢
  have hl : lv_has ls 7 [(0, .ref b)] := hl
  have hw : WD g (fun q : Nat => s.heap.size ≤ q) s.heap [] s.heap [] := ⟨fun k q h => by simp at h, ⟨fun i j p q h => by simp at h, fun k q h => by simp at h⟩, va_S.rf⟩
  refine tx_new (ci := 11) (fs := [.null, .null, .null, .null, .null, .null, .null, .null, .null, .null, .int 0]) S hE hA hw inX11 tyX11 tyX11_ok kw_22 kw_23 kw_1 rfl (fun j hj => by match j, hj with | 0, _ => rfl | 1, _ => rfl | 2, _ => rfl | 3, _ => rfl | 4, _ => rfl | 5, _ => rfl | 6, _ => rfl | 7, _ => rfl | 8, _ => rfl | 9, _ => rfl | 10, _ => rfl | k + 11, h => exact absurd h (by omega)) (by decide) (by decide) dL_law_0 (fun q0 H hw => ?_)
  refine lv_dup hx hb dL_law_3 rfl ?_
  refine tx_mkV (n := 0) S hE hA hw (k_X11_init (o := q0) hf0) kw_24 kw_26 kw_1 ⟨by decide +kernel, by decide +kernel, by decide +kernel⟩ kw_25 rfl rfl hl.1 (rest := [.ref q0]) rfl (Nat.le_of_ble_eq_true rfl) ⟨by decide, by decide⟩ dL_law_4 ⟨by decide, by decide⟩ (fun ad H locs had hw => ?_)
  rw [← had]
  refine lv_astore_n (lv' := [(1, .ref (ad 0 0)), (0, .ref b)]) hx hb dL_law_7 rfl hl (by decide) rfl (fun ls hl => ?_)
  refine tx_new (ci := 12) (fs := [.null, .int 0, .int 0, .null, .int 0, .int 0, .int 0, .int 0, .int 0, .int 0, .int 0, .int 0, .int 0, .int 0, .int 0, .int 0, .int 0, .int 0, .int 0, .int 0, .null, .null, .null, .null, .null, .null, .null, .null, .null, .null, .null, .null, .null, .null, .null, .null, .null, .null, .null, .null, .int 0, .int 0, .int 0, .int 0, .int 0, .int 0, .null, .null, .int 0, .null, .null, .null, .null, .null, .null, .null, .null, .null, .null, .long 0, .int 0, .int 0, .int 0, .int 0, .int 0, .int 0, .int 0, .int 0, .int 0, .int 0, .null, .int 0, .int 0, .null, .null, .int 0, .null, .int 0, .null, .null, .long 0]) S hE hA hw inX12 tyX12 tyX12_ok kw_1318 kw_1319 kw_15 rfl (fun j hj => by match j, hj with | 0, _ => rfl | 1, _ => rfl | 2, _ => rfl | 3, _ => rfl | 4, _ => rfl | 5, _ => rfl | 6, _ => rfl | 7, _ => rfl | 8, _ => rfl | 9, _ => rfl | 10, _ => rfl | 11, _ => rfl | 12, _ => rfl | 13, _ => rfl | 14, _ => rfl | 15, _ => rfl | 16, _ => rfl | 17, _ => rfl | 18, _ => rfl | 19, _ => rfl | 20, _ => rfl | 21, _ => rfl | 22, _ => rfl | 23, _ => rfl | 24, _ => rfl | 25, _ => rfl | 26, _ => rfl | 27, _ => rfl | 28, _ => rfl | 29, _ => rfl | 30, _ => rfl | 31, _ => rfl | 32, _ => rfl | 33, _ => rfl | 34, _ => rfl | 35, _ => rfl | 36, _ => rfl | 37, _ => rfl | 38, _ => rfl | 39, _ => rfl | 40, _ => rfl | 41, _ => rfl | 42, _ => rfl | 43, _ => rfl | 44, _ => rfl | 45, _ => rfl | 46, _ => rfl | 47, _ => rfl | 48, _ => rfl | 49, _ => rfl | 50, _ => rfl | 51, _ => rfl | 52, _ => rfl | 53, _ => rfl | 54, _ => rfl | 55, _ => rfl | 56, _ => rfl | 57, _ => rfl | 58, _ => rfl | 59, _ => rfl | 60, _ => rfl | 61, _ => rfl | 62, _ => rfl | 63, _ => rfl | 64, _ => rfl | 65, _ => rfl | 66, _ => rfl | 67, _ => rfl | 68, _ => rfl | 69, _ => rfl | 70, _ => rfl | 71, _ => rfl | 72, _ => rfl | 73, _ => rfl | 74, _ => rfl | 75, _ => rfl | 76, _ => rfl | 77, _ => rfl | 78, _ => rfl | 79, _ => rfl | 80, _ => rfl | k + 81, h => exact absurd h (by omega)) (by decide) (by decide) dL_law_8 (fun q1 H hw => ?_)
  refine lv_dup hx hb dL_law_11 rfl ?_
  refine tx_mkV (n := 0) S hE hA hw (k_X12_init (o := q1) hf1 hf2) kw_1320 kw_1322 kw_15 ⟨by decide +kernel, by decide +kernel, by decide +kernel⟩ kw_1321 rfl rfl hl.1 (rest := [.ref q1]) rfl (Nat.le_of_ble_eq_true rfl) ⟨by decide, by decide⟩ dL_law_12 ⟨by decide, by decide⟩ (fun am H locs ham hw => ?_)
  rw [← ham]
  refine lv_astore_n (lv' := [(2, .ref (am 0 0)), (1, .ref (ad 0 0)), (0, .ref b)]) hx hb dL_law_15 rfl hl (by decide) rfl (fun ls hl => ?_)
  refine lv_iconst (v := 1) hx hb dL_law_16 (by decide) ?_
  refine tx_newl0 S hE hA hw 1 (by decide) (by decide) (by decide) (by decide) (by decide) dL_law_17 (fun qo H hw => ?_)
  refine lv_astore_n (lv' := [(3, .ref qo), (2, .ref (am 0 0)), (1, .ref (ad 0 0)), (0, .ref b)]) hx hb dL_law_19 rfl hl (by decide) rfl (fun ls hl => ?_)
  refine lv_iconst (v := 0) hx hb dL_law_20 (by decide) ?_
  refine lv_istore (lv' := [(4, .int 0), (3, .ref qo), (2, .ref (am 0 0)), (1, .ref (ad 0 0)), (0, .ref b)]) hx hb dL_law_21 hl (by decide) rfl (fun ls hl => ?_)
  have hw := hw.u1.u20.u20.u20.u20.u20.u20.u20.u20.u20.u20.u20.u20.u20.u20.u20.u20.u20.u20.u20
  exact law_loop S hr hlk hE hX hbl hL RR sp (h4 g qo hE) (L + 7) 0 (by omega) (by omega) (va_up ad 19 (am 0)) (lawQ0 (lawK (va_up ad 19 (am 0)))) (lawU0 u20 u41) (lawV0 v42) (fun _ => 0) H _ ls _ _ (hR _) hw (lv_sub hl [4, 3, 2, 1, 0] rfl) (by omega) (by omega)
