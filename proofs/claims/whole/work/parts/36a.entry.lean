/-! what a throw needs holds at the law's entry -/
theorem law_str {s : State} {b k : Nat} {tx : String} (h1 : (Cond.stringRef RX11 k tx).before #[Value.ref b] s = true) (h2 : (Cond.exactly (.string RX11 k) "java/lang/String").before #[Value.ref b] s = true) : ∃ q, vk_R RX11 k tx q s := by
  obtain ⟨a, c, cA, kA, e1, -⟩ := Cond.exactly_spec (args := #[Value.ref b]) (first := s) (o := none) (s := s) (idx := []) (t := .string RX11 k) (cls := "java/lang/String") h2
  exact ⟨a, vk_R.of h1 e1⟩
theorem law_EX {s : State} {b : Nat} (hts : ∀ w ∈ lw_tbl, w.before #[Value.ref b] s = true) (hgv : (Jvm.Cond.and given_1 narrow_1).before #[Value.ref b] s = true) : ∃ q1 q2 : Nat, EX (fun q : Nat => s.heap.size ≤ q) q1 q2 s := by
  have hs := flat_of_before _ hgv
  have h6 : ∀ w, w ∈ (tables_1_6.drop 27).take 100 → w.before #[Value.ref b] s = true := fun w h => hts w (List.mem_append_right _ (mem6 h))
  obtain ⟨q1, z1⟩ := law_str (k := 125) (tx := "no such thought") (h6 _ (by decide +kernel)) (hs (.exactly (.string "ThoughtTax" 125) "java/lang/String") (by decide +kernel))
  obtain ⟨q2, z2⟩ := law_str (k := 154) (tx := "no such what") (h6 _ (by decide +kernel)) (hs (.exactly (.string "ThoughtTax" 154) "java/lang/String") (by decide +kernel))
  refine ⟨q1, q2, z1, z2, vx_Zqof (h6 _ (by decide +kernel)) (hts (.initialized "java/lang/Throwable") (List.mem_append_right _ (mem1 (by decide +kernel)))) (hs (.isRef (.static "java/lang/Throwable" "UNASSIGNED_STACK" "[Ljava/lang/StackTraceElement;")) (by decide +kernel)) (fun a h => Nat.not_le.mpr h), vx_Zqof (h6 _ (by decide +kernel)) (hts (.initialized "java/lang/Throwable") (List.mem_append_right _ (mem1 (by decide +kernel)))) (hs (.isRef (.static "java/lang/Throwable" "SUPPRESSED_SENTINEL" "Ljava/util/List;")) (by decide +kernel)) (fun a h => Nat.not_le.mpr h), va_Nc.of (hs (.not (.castable "java/util/NoSuchElementException" "java/lang/IndexOutOfBoundsException")) (by decide +kernel)), fun w hw => ?_⟩
  exact va_Nw.of (tw_XW w hw).2 (h6 w (tw_XW w hw).1)
theorem all_sp : SPall RR 1000 := ⟨sp0 1000 (Nat.le_refl _), sp1 1000 (Nat.le_refl _), sp2 1000, sp3 1000 (Nat.le_refl _), sp5 1000, sp6 1000, sp7 1000 (Nat.le_refl _), sp8 1000 (Nat.le_refl _), sp9 1000 (Nat.le_refl _), sp10 1000 (Nat.le_refl _), sp11 1000 (Nat.le_refl _), sp12 1000 (Nat.le_refl _), sp13 1000 (Nat.le_refl _), sp14 1000 (Nat.le_refl _), sp15 1000 (Nat.le_refl _), sp16 1000 (Nat.le_refl _), sp17 1000 (Nat.le_refl _), sp18 1000 (Nat.le_refl _), sp19 1000 (Nat.le_refl _), sp20 1000 (Nat.le_refl _), sp21 1000 (Nat.le_refl _), sp22 1000 (Nat.le_refl _), sp23 1000 (Nat.le_refl _), sp24 1000 (Nat.le_refl _), sp25 1000 (Nat.le_refl _), sp26 1000 (Nat.le_refl _), sp27 1000 (Nat.le_refl _), sp28 1000 (Nat.le_refl _), sp29 1000 (Nat.le_refl _), sp30 1000 (Nat.le_refl _), sp31 1000 (Nat.le_refl _), sp32 1000 (Nat.le_refl _), sp33t 1000, sp33f 1000, sp34 1000, sp35 1000, sp36 1000 (Nat.le_refl _), sp37 1000 (Nat.le_refl _), sp38 1000 (Nat.le_refl _), sp39 1000 (Nat.le_refl _), sp40 1000 (Nat.le_refl _), sp41 1000 (Nat.le_refl _), sp42 1000 (Nat.le_refl _)⟩
/-- from the entry, for every script of at most 3072 ints, the law comes to its end with true -/
theorem whole_start {p : Program} {e : Env} {s : State} {m : MethodId} {below : List Frame} {meth : Method} {c : Code} (l : Launch) (hflags : l.flags = flags0) {b L : Nat} {xs : Nat → Int32} (hL : L ≤ 3072) (C0 : lw_At p s m meth c b L xs) : W p l e room_1 s m #[Value.ref b] below meth c s.heap [] 0 0 (lw_Z below #[Value.ref b] s) (entryFrame m ([Value.ref b] : List Value).toArray 7) := by
  have hl9 : l.stackTraces = false := by
    unfold Launch.stackTraces
    rw [hflags]
    decide +kernel
  refine law_start_open l hL C0 RR all_sp (init_q 1000 (Nat.le_refl _)) (fun g qo hE => ?_)
  obtain ⟨hx, hb, hr, hml, hown, hts, hX, hbl, hlk, hgv⟩ := C0
  obtain ⟨q1, q2, hEX⟩ := law_EX hts hgv
  have tt : ∀ w ∈ allW, w.before #[Value.ref b] s = true := fun w h => hts w (List.mem_filter.mp h).1
  have S : CallFix p m c code 7 s #[Value.ref b] (Cond.initialized RL :: allW) RL := ⟨hx, hb, hml, hown, fun w h => (List.mem_cons.mp h).elim (fun z => by rw [z]; exact tt _ kw_0) (tt w)⟩
  exact law_4 hl9 S hE hEX hX hbl hL (sp4 1000)
