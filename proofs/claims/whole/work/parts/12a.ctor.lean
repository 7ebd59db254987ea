theorem kw_OBJ : Cond.code objectInit ⟨#[0xb1]⟩ 1 none ∈ allW := alw1 29 rfl rfl
def PREC (g : GG) (A : Nat → Prop) (ws : va_W) (U : State) : Prop := PRE g A ws U ∧ ∀ q : Nat, U.heap.size ≤ q → A q
def rmC (h mc ms : Nat) : Room := { frames := h, cells := mc, slots := ms, locals := 40 * h }
theorem tx_blindC {g : GG} {A : Nat → Prop} {ws : va_W} {av : List Value} : FrameBlind (va_Pc av (PREC g A ws)) := by
  intro a U gf mk ⟨h1, ⟨h2, h3, h4⟩, h5⟩
  exact ⟨h1, ⟨h2, h3, h4.moved (U := U.calling gf mk a) (Vm.Alike.refl U.vm) (h4.2.2.same rfl) (fun _ _ _ => rfl)⟩, h5⟩
def MK (l : Launch) (y : MethodName) (cc : ByteArray) (n h mc ms : Nat) (g : GG) (A : Nat → Prop) (ws : va_W) (av : List Value) (o : Nat) (post : (Nat → Nat → Nat) → va_W) : Prop :=
  Met l y (Cond.code y cc n none :: allW) (rmC h mc ms) (va_Pc av (PREC g A ws)) (va_Qv (fun ad : Nat → Nat → Nat => ad 0 0 = o) (fun ad t => POST g A (post ad) t) A) mc ms A
theorem tx_startC {l : Launch} {y : MethodName} {cc : ByteArray} {n : Nat} {h mc ms : Nat} {g : GG} {A : Nat → Prop} {ws : va_W} {av : List Value} {Qc : Array Value → State → Outcome → State → Prop} (hy : plainName y.cls = true) (hin : y.name = "<init>") (hln : (lg_sl av).length ≤ n)
    (body : ∀ (p : Program) (e : Env) (s : State) (m : MethodId) (below : List Frame) (meth : Method) (c : Code) (ls : Array Slot), CallFix p m c cc n s av.toArray (Cond.code y cc n none :: allW) y.cls → meth.sig.returnType = none → meth.locks = false → meth.name = "<init>" → EN g A s → (∀ q : Nat, s.heap.size ≤ q → A q) → WD g A s.heap ws s.heap [] → lv_has ls n (lv_args 0 av) →
      W p l e (rmC h mc ms) s m av.toArray below meth c s.heap [] 0 0 (MQ below Qc av.toArray s mc ms A) (F0 m 0 ls [])) : Met l y (Cond.code y cc n none :: allW) (rmC h mc ms) (va_Pc av (PREC g A ws)) Qc mc ms A := by
  refine Met.ofW (cc := cc) (maxL := n) (ret := none) hy rfl ?_
  intro p e s m args below meth c s₁ B hml hv
  obtain ⟨rfl, ⟨hP, hD, hE⟩, hA⟩ := hv
  have hl := lv_entry av (n := n) hln
  rw [lg_entry_eq]
  generalize (lg_sl av ++ List.replicate (n - (lg_sl av).length) Slot.unset).toArray = ls at hl ⊢
  exact body p e s m below meth c ls ⟨B.exec, B.bytes, hml, findClass_of_methodNamed B.named, atoms_spec (ws := Cond.code y cc n none :: allW) B.pre⟩ B.returns B.notSynchronized ((name_of_methodNamed B.named B.method).1.trans hin) hE hA ⟨hP, hD, va_S.rf⟩ hl
section TXK
variable {p : Program} {l : Launch} {e : Env} {R : Room} {s : State} {m : MethodId} {args : Array Value} {below : List Frame} {meth : Method} {c : Code} {H : Heap} {locs : List Loc} {cells slots : Nat} {Q : State → Prop}
variable {g : GG} {A : Nat → Prop} {ws ws' : va_W} {pc : Nat} {ls : Array Slot} {rest st0 : List Value} {cc : ByteArray} {nL : Nat} {own : String} {kc : Cond}
theorem WD.front {H0 : Heap} {c : Nat × va_E} (h : WD g A H0 (ws ++ [c]) H locs) : WD g A H0 ([c] ++ ws) H locs := h.perm List.perm_append_comm
theorem WD.snoc {H0 : Heap} {c : Nat × va_E} {L r : va_W} (h : WD g A H0 ((L ++ r) ++ [c]) H locs) : WD g A H0 ((L ++ [c]) ++ r) H locs := by
  refine h.perm ?_
  rw [List.append_assoc, List.append_assoc]
  exact List.Perm.append_left _ List.perm_append_comm
theorem tx_vretC {Ts : List Cond} {o mc ms : Nat} {post : (Nat → Nat → Nat) → va_W} (S : CallFix p m c cc nL s args Ts own) (hr : meth.sig.returnType = none) (hlk : meth.locks = false) (ad : Nat → Nat → Nat) (ho : ad 0 0 = o) (hw : WD g A s.heap (post ad) H locs) (h1 : cells ≤ mc) (h2 : slots ≤ ms) (hdg : decode cc pc = .ok (.return_, 1)) :
    W p l e R s m args below meth c H locs cells slots (MQ below (va_Qv (fun ad : Nat → Nat → Nat => ad 0 0 = o) (fun ad t => POST g A (post ad) t) A) args s mc ms A) (F0 m pc ls []) :=
  W.widen h1 h2 (W.vret S.1 S.2.1 hr (fun t ht _ => ⟨⟨ad, rfl, ho, by rw [ht]; exact hw.1, hw.2.1⟩, hw.2.2.F ht⟩) hw.2.2.2.2 hdg hlk)
theorem tx_objInit (S : CallFix p m c cc nL s args (kc :: allW) own) {idx a : Nat} (hl : Cond.methodLink own idx objectInit ∈ allW) (hsz : ls.size = nL) (hfr : 1 ≤ R.frames) (hlo : (rest.map fun v => v.category).sum + 12 ≤ R.locals) (hd : decode cc pc = .ok (.invokespecial idx, 3))
    (kk : W p l e R s m args below meth c H locs cells slots Q (F0 m (pc + 3) ls rest)) : W p l e R s m args below meth c H locs cells slots Q (F0 m pc ls (.ref a :: rest)) := by
  have tt : ∀ w ∈ allW, w.before args s = true := fun w h => S.2.2.2.2 w (List.mem_cons_of_mem _ h)
  exact W.objInit S.1 S.2.1 S.2.2.2.1 (tt _ hl) (tt _ kw_28) (tt _ kw_OBJ) rfl (by rw [S.2.2.1]; exact hsz) rfl hd hfr (by show 2 * 0 + _ + 12 ≤ _; omega) kk
theorem tx_newai (S : CallFix p m c cc nL s args (kc :: allW) own) (hE : EN g A s) (hA : ∀ q : Nat, s.heap.size ≤ q → A q) {L r : va_W} (hw : WD g A s.heap (L ++ r) H locs) {n : Int32} (N : Nat) (hn : ¬ n < 0) (hN : n.toNatClampNeg = N) (hby : N * componentBytes .int ≤ 536870912) (hc : cells + 1 ≤ R.cells) (hs : slots + N ≤ R.slots) (hdg : decode cc pc = .ok (.newarray .int, 2))
    (kk : ∀ (q : Nat) (H1 : Heap), WD g A s.heap ((L ++ [(q, .inl (g.2.1 1, N, .inl (fun _ => 0)))]) ++ r) H1 locs → W p l e R s m args below meth c H1 locs (cells + 1) (slots + N) Q (F0 m (pc + 2) ls (.ref q :: rest))) : W p l e R s m args below meth c H locs cells slots Q (F0 m pc ls (.int n :: rest)) := by
  refine va_newa (atype := .int) (ty := .int) (a0 := (N, .inl (fun _ => 0))) S.1 S.2.1 (S.2.2.2.2 _ (List.mem_cons_of_mem _ kw_79)) rfl hE.1 hw.1 hw.2.1 hw.2.2 hA (fun _ => rfl) hn hN hby hc hs hdg (fun q cA H1 hK1 hP1 hD1 hS1 => ?_)
  have e1 : s.vm.findClass _ = some cA := (hK1.2 4 (cA, .int) rfl).2
  have e2 : s.vm.findClass _ = some (g.2.1 1) := (hE.1.2 1 (g.2.1 1, .int) rfl).2
  have e3 : cA = g.2.1 1 := Option.some.inj (e1.symm.trans e2)
  subst e3
  exact kk q H1 (WD.snoc ⟨hP1, hD1, hS1⟩)
theorem tx_newab (S : CallFix p m c cc nL s args (kc :: allW) own) (hE : EN g A s) (hA : ∀ q : Nat, s.heap.size ≤ q → A q) {L r : va_W} (hw : WD g A s.heap (L ++ r) H locs) {n : Int32} (N : Nat) (hn : ¬ n < 0) (hN : n.toNatClampNeg = N) (hby : N * componentBytes .byte ≤ 536870912) (hc : cells + 1 ≤ R.cells) (hs : slots + N ≤ R.slots) (hdg : decode cc pc = .ok (.newarray .byte, 2))
    (kk : ∀ (q : Nat) (H1 : Heap), WD g A s.heap ((L ++ [(q, .inl (g.2.1 0, N, .inl (fun _ => 0)))]) ++ r) H1 locs → W p l e R s m args below meth c H1 locs (cells + 1) (slots + N) Q (F0 m (pc + 2) ls (.ref q :: rest))) : W p l e R s m args below meth c H locs cells slots Q (F0 m pc ls (.int n :: rest)) := by
  refine va_newa (atype := .byte) (ty := .byte) (a0 := (N, .inl (fun _ => 0))) S.1 S.2.1 (S.2.2.2.2 _ (List.mem_cons_of_mem _ kw_45)) rfl hE.1 hw.1 hw.2.1 hw.2.2 hA (fun _ => rfl) hn hN hby hc hs hdg (fun q cA H1 hK1 hP1 hD1 hS1 => ?_)
  have e1 : s.vm.findClass _ = some cA := (hK1.2 4 (cA, .byte) rfl).2
  have e2 : s.vm.findClass _ = some (g.2.1 0) := (hE.1.2 0 (g.2.1 0, .byte) rfl).2
  have e3 : cA = g.2.1 0 := Option.some.inj (e1.symm.trans e2)
  subst e3
  exact kk q H1 (WD.snoc ⟨hP1, hD1, hS1⟩)
theorem tx_newaz (S : CallFix p m c cc nL s args (kc :: allW) own) (hE : EN g A s) (hA : ∀ q : Nat, s.heap.size ≤ q → A q) {L r : va_W} (hw : WD g A s.heap (L ++ r) H locs) {n : Int32} (N : Nat) (hn : ¬ n < 0) (hN : n.toNatClampNeg = N) (hby : N * componentBytes .boolean ≤ 536870912) (hc : cells + 1 ≤ R.cells) (hs : slots + N ≤ R.slots) (hdg : decode cc pc = .ok (.newarray .boolean, 2))
    (kk : ∀ (q : Nat) (H1 : Heap), WD g A s.heap ((L ++ [(q, .inl (g.2.1 3, N, .inl (fun _ => 0)))]) ++ r) H1 locs → W p l e R s m args below meth c H1 locs (cells + 1) (slots + N) Q (F0 m (pc + 2) ls (.ref q :: rest))) : W p l e R s m args below meth c H locs cells slots Q (F0 m pc ls (.int n :: rest)) := by
  refine va_newa (atype := .boolean) (ty := .boolean) (a0 := (N, .inl (fun _ => 0))) S.1 S.2.1 (S.2.2.2.2 _ (List.mem_cons_of_mem _ kw_253)) rfl hE.1 hw.1 hw.2.1 hw.2.2 hA (fun _ => rfl) hn hN hby hc hs hdg (fun q cA H1 hK1 hP1 hD1 hS1 => ?_)
  have e1 : s.vm.findClass _ = some cA := (hK1.2 4 (cA, .boolean) rfl).2
  have e2 : s.vm.findClass _ = some (g.2.1 3) := (hE.1.2 3 (g.2.1 3, .boolean) rfl).2
  have e3 : cA = g.2.1 3 := Option.some.inj (e1.symm.trans e2)
  subst e3
  exact kk q H1 (WD.snoc ⟨hP1, hD1, hS1⟩)
theorem tx_newal (S : CallFix p m c cc nL s args (kc :: allW) own) (hE : EN g A s) (hA : ∀ q : Nat, s.heap.size ≤ q → A q) {L r : va_W} (hw : WD g A s.heap (L ++ r) H locs) {n : Int32} (N : Nat) (hn : ¬ n < 0) (hN : n.toNatClampNeg = N) (hby : N * componentBytes .long ≤ 536870912) (hc : cells + 1 ≤ R.cells) (hs : slots + N ≤ R.slots) (hdg : decode cc pc = .ok (.newarray .long, 2))
    (kk : ∀ (q : Nat) (H1 : Heap), WD g A s.heap ((L ++ [(q, .inl (g.2.1 2, N, .inr (.inl (fun _ => 0))))]) ++ r) H1 locs → W p l e R s m args below meth c H1 locs (cells + 1) (slots + N) Q (F0 m (pc + 2) ls (.ref q :: rest))) : W p l e R s m args below meth c H locs cells slots Q (F0 m pc ls (.int n :: rest)) := by
  refine va_newa (atype := .long) (ty := .long) (a0 := (N, .inr (.inl (fun _ => 0)))) S.1 S.2.1 (S.2.2.2.2 _ (List.mem_cons_of_mem _ kw_80)) rfl hE.1 hw.1 hw.2.1 hw.2.2 hA (fun _ => rfl) hn hN hby hc hs hdg (fun q cA H1 hK1 hP1 hD1 hS1 => ?_)
  have e1 : s.vm.findClass _ = some cA := (hK1.2 4 (cA, .long) rfl).2
  have e2 : s.vm.findClass _ = some (g.2.1 2) := (hE.1.2 2 (g.2.1 2, .long) rfl).2
  have e3 : cA = g.2.1 2 := Option.some.inj (e1.symm.trans e2)
  subst e3
  exact kk q H1 (WD.snoc ⟨hP1, hD1, hS1⟩)
theorem tx_new (S : CallFix p m c cc nL s args (kc :: allW) own) (hE : EN g A s) (hA : ∀ q : Nat, s.heap.size ≤ q → A q) (hw : WD g A s.heap ws H locs) {C : String} {T : u_T} {N ci index : Nat} (hin : ∀ w ∈ u_ws C T N, w ∈ allW) (ty : Nat → FieldType) (hty : ∀ k, k < N → parseFieldDescriptor (T k).2.2.1 = some (ty k)) (h1 : Cond.classLink own index C ∈ allW) (h2 : Cond.instantiable C N ∈ allW) (h3 : Cond.initialized C ∈ allW) (hci : vwCl[ci]? = some (C, T, N)) {fs : List Value} (hfs : ∀ j, j < N → defaultValue (ty j) = vp_V fs j) (hc : cells + 1 ≤ R.cells) (hs : slots + N ≤ R.slots) (hdg : decode cc pc = .ok (.new index, 3))
    (kk : ∀ (q : Nat) (H1 : Heap), WD g A s.heap ([(q, .inr (ci, fs))] ++ ws) H1 locs → W p l e R s m args below meth c H1 locs (cells + 1) (slots + N) Q (F0 m (pc + 3) ls (.ref q :: rest))) : W p l e R s m args below meth c H locs cells slots Q (F0 m pc ls rest) := by
  have tt : ∀ w ∈ allW, w.before args s = true := fun w h => S.2.2.2.2 w (List.mem_cons_of_mem _ h)
  exact va_new S.1 S.2.1 S.2.2.2.2 (fun w h => List.mem_cons_of_mem _ (hin w h)) ty hty S.2.2.2.1 (tt _ h1) (tt _ h2) (tt _ h3) hE.1 hw.1 hw.2.1 hw.2.2 hA hci hfs hc hs hdg (fun q H1 hP1 hD1 hS1 => kk q H1 (WD.front ⟨hP1, hD1, hS1⟩))
theorem tx_putF (S : CallFix p m c cc nL s args (kc :: allW) own) (hE : EN g A s) {a index ci : Nat} {C : String} {T : u_T} {N : Nat} {ty0 : Nat → FieldType} {fs : List Value} {v : Value} {ty : FieldType} (hw : WD g A s.heap ws H locs) (k : Nat) (hin : ∀ w ∈ u_ws C T N, w ∈ allW) (hty : ∀ k, k < N → parseFieldDescriptor (T k).2.2.1 = some (ty0 k)) (hnm : ∀ a, a < N → ∀ b, b < N → a ≠ b → (T a).2.1 ≠ (T b).2.1) (hc : vwCl[ci]? = some (C, T, N)) (hk : k < N) (hl : Cond.fieldLink own index own (T k).2.1 (T k).2.2.1 ∈ allW) (hT : (T k).1 = own) (hfin : (T k).2.2.2 = true) (hi : meth.name = "<init>") (hd : parseFieldDescriptor (T k).2.2.1 = some ty)
    (hn : narrow ty v = v) (hfit : fits ty v = true) (q0 : Nat) (he : ws[q0]? = some (a, .inr (ci, fs))) (hlen : k < fs.length) (hws : ws.set q0 (a, .inr (ci, fs.set k v)) = ws') (hdg : decode cc pc = .ok (.putfield index, 3))
    (kk : ∀ (H1 : Heap) (locs1 : List Loc), WD g A s.heap ws' H1 locs1 → W p l e R s m args below meth c H1 locs1 cells slots Q (F0 m (pc + 3) ls rest)) : W p l e R s m args below meth c H locs cells slots Q (F0 m pc ls (v :: .ref a :: rest)) :=
  va_putF (ref := own) S.1 S.2.1 S.2.2.2.2 (fun w h => List.mem_cons_of_mem _ (hin w h)) ty0 hty hnm S.2.2.2.1 hE.1 hw.1 hw.2.1 hw.2.2 q0 he hc k hk (S.2.2.2.2 _ (List.mem_cons_of_mem _ hl)) (fun _ h => by rw [hT] at h; exact h) hfin hi hT hd hn hfit hlen hdg (fun H1 locs1 h1 h2 h3 => kk H1 locs1 (by rw [← hws]; exact ⟨h1, h2, h3⟩))
theorem tx_PREC (hE : EN g A s) (hA : ∀ q : Nat, s.heap.size ≤ q → A q) (hw : WD g A s.heap ws H locs) {av : List Value} : ∀ U : State, U.heap = H → s.WarmedH U.vm → va_Pc av (PREC g A ws) av.toArray U := by
  intro U hU hW
  obtain ⟨h1, h2⟩ := tx_PRE hE hw (av := av) U hU hW
  exact ⟨h1, h2, fun q hq => hA q (Nat.le_trans hw.2.2.1 (by rw [← hU]; exact hq))⟩
/-- a constructor's call -/
theorem tx_mkN {y : MethodName} {bytes : ByteArray} {maxL index h n mc ms b o : Nat} {As : List Value} {post : (Nat → Nat → Nat) → va_W}
    (S : CallFix p m c cc nL s args (kc :: allW) own) (hE : EN g A s) (hA : ∀ q : Nat, s.heap.size ≤ q → A q) (hw : WD g A s.heap ws H locs) (hM : MK l y bytes maxL h mc ms g A ws (.ref b :: As) o post) (k1 : Cond.methodLinkNest own index y "ThoughtTax" ∈ nestW) (k2 : Cond.code y bytes maxL none ∈ allW) (k3 : Cond.initialized y.cls ∈ allW) (k4 : LKd y n) (k5 : Cond.instanceMethod y ∈ allW) (hy : y.name = "<init>")
    (hn : As.length = n) (hsize : ls.size = nL) (hstack : st0 = As.reverse ++ .ref b :: rest) (hW : (rest.map fun v => v.category).sum ≤ 8) (hR : h + 1 ≤ R.frames ∧ 8 + (maxL + 11) + 40 * h ≤ R.locals) (hdg : decode cc pc = .ok (.invokespecial index, 3)) (hf : cells + mc ≤ R.cells ∧ slots + ms ≤ R.slots)
    (kk : ∀ (ad : Nat → Nat → Nat) (H1 : Heap) (locs1 : List Loc), ad 0 0 = o → WD g A s.heap (post ad) H1 locs1 → W p l e R s m args below meth c H1 locs1 (cells + mc) (slots + ms) Q (F0 m (pc + 3) ls rest)) : W p l e R s m args below meth c H locs cells slots Q (F0 m pc ls st0) := by
  have tt : ∀ w ∈ allW, w.before args s = true := fun w h => S.2.2.2.2 w (List.mem_cons_of_mem _ h)
  have hr := va_runIN (e := e) (below := below) (meth := meth) (locs := locs) (host := "ThoughtTax") (g := F0 m pc ls st0) (rest := rest) S hM ⟨va_cnB n S.2.2.2.2 (tx_goodIn k2) rfl rfl rfl (hE.2.2 _ k1) (tt _ k3) k4 hR, hy, tt _ k5⟩ ⟨tx_blindC, tx_PREC hE hA hw⟩ rfl hn hsize hstack (lv_room hW) hdg hf
  exact va_callv hr hw.2.2 (fun _ _ h => h) (fun _ h => h) (fun ad t H1 locs1 ht _ hp hB _ _ hS => kk ad H1 locs1 hp ⟨by rw [← ht]; exact hB.1, hB.2, hS⟩)
theorem tx_mkV {y : MethodName} {bytes : ByteArray} {maxL index h n mc ms b o : Nat} {As : List Value} {post : (Nat → Nat → Nat) → va_W}
    (S : CallFix p m c cc nL s args (kc :: allW) own) (hE : EN g A s) (hA : ∀ q : Nat, s.heap.size ≤ q → A q) (hw : WD g A s.heap ws H locs) (hM : MK l y bytes maxL h mc ms g A ws (.ref b :: As) o post) (k1 : Cond.methodLink own index y ∈ allW) (k2 : Cond.code y bytes maxL none ∈ allW) (k3 : Cond.initialized y.cls ∈ allW) (k4 : LKd y n) (k5 : Cond.instanceMethod y ∈ allW) (hy : y.name = "<init>")
    (hn : As.length = n) (hsize : ls.size = nL) (hstack : st0 = As.reverse ++ .ref b :: rest) (hW : (rest.map fun v => v.category).sum ≤ 8) (hR : h + 1 ≤ R.frames ∧ 8 + (maxL + 11) + 40 * h ≤ R.locals) (hdg : decode cc pc = .ok (.invokespecial index, 3)) (hf : cells + mc ≤ R.cells ∧ slots + ms ≤ R.slots)
    (kk : ∀ (ad : Nat → Nat → Nat) (H1 : Heap) (locs1 : List Loc), ad 0 0 = o → WD g A s.heap (post ad) H1 locs1 → W p l e R s m args below meth c H1 locs1 (cells + mc) (slots + ms) Q (F0 m (pc + 3) ls rest)) : W p l e R s m args below meth c H locs cells slots Q (F0 m pc ls st0) := by
  have tt : ∀ w ∈ allW, w.before args s = true := fun w h => S.2.2.2.2 w (List.mem_cons_of_mem _ h)
  have hr := va_runI (e := e) (below := below) (meth := meth) (locs := locs) (g := F0 m pc ls st0) (rest := rest) S hM ⟨callB_of n S.2.2.2.2 (tx_goodIn k2) rfl rfl rfl (tt _ k3) (tt _ k1) k4 hR, hy, tt _ k5⟩ ⟨tx_blindC, tx_PREC hE hA hw⟩ rfl hn hsize hstack (lv_room hW) hdg hf
  exact va_callv hr hw.2.2 (fun _ _ h => h) (fun _ h => h) (fun ad t H1 locs1 ht _ hp hB _ _ hS => kk ad H1 locs1 hp ⟨by rw [← ht]; exact hB.1, hB.2, hS⟩)
end TXK
