/-! what a throw needs of the start, and what goes with it -/
def xI : String := "java/lang/IndexOutOfBoundsException"
def xN : String := "java/util/NoSuchElementException"
def xNames : List String := ["java/lang/RuntimeException", "java/lang/Exception"]
def xSix : ByteArray := ⟨#[0x2a, 0x2b, 0xb7, 0x00, 0x07, 0xb1]⟩
def xThi : ByteArray := ⟨#[0x2a, 0x2b, 0xb7, 0x00, 0x0d, 0xb1]⟩
def tx_atX (own : String) (ic : Nat) (X : String) (ix : Nat) (rx : ByteArray) (names : List String) : List Cond := (Bundle.ownAtomsX own ic X ix rx names).filter vx_no
def XW : List Cond := [.castable "java/lang/IndexOutOfBoundsException" "java/lang/IndexOutOfBoundsException", .castable "java/util/NoSuchElementException" "java/util/NoSuchElementException", .declares ⟨"java/lang/RuntimeException", "<init>", "(Ljava/lang/String;)V"⟩, .declares ⟨"java/lang/Exception", "<init>", "(Ljava/lang/String;)V"⟩, .declares ⟨"java/lang/Throwable", "<init>", "(Ljava/lang/String;)V"⟩]
def EX (A : Nat → Prop) (q1 q2 : Nat) (U : State) : Prop := vk_R RX11 125 "no such thought" q1 U ∧ vk_R RX11 154 "no such what" q2 U ∧ vx_Zq Bundle.tN "UNASSIGNED_STACK" Bundle.steD A U U.heap ∧ vx_Zq Bundle.tN "SUPPRESSED_SENTINEL" Bundle.listD A U U.heap ∧ va_Nc xN xI U ∧ ∀ w ∈ XW, va_Nw w U
theorem EX.moved {A : Nat → Prop} {q1 q2 : Nat} {s U : State} (h : EX A q1 q2 s) (hW : s.WarmedH U.vm) (hq : ∀ a : Nat, a < s.heap.size → ¬ A a → U.heap[a]? = s.heap[a]?) : EX A q1 q2 U := by
  obtain ⟨h1, h2, h3, h4, h5, h6⟩ := h
  refine ⟨vk_R.warm hW h1, vk_R.warm hW h2, (vx_Zq.moved hW.alike h3).kept hq, (vx_Zq.moved hW.alike h4).kept hq, h5.moved hW.alike, fun w hw => ?_⟩
  have h9 := h6 w hw
  simp only [XW, List.mem_cons, List.not_mem_nil, or_false] at hw
  rcases hw with rfl | rfl | rfl | rfl | rfl
  · exact va_Nw.warmC hW h9
  · exact va_Nw.warmC hW h9
  · exact va_Nw.warmD hW h9
  · exact va_Nw.warmD hW h9
  · exact va_Nw.warmD hW h9
theorem EX.same {A : Nat → Prop} {q1 q2 : Nat} {s U : State} (h : EX A q1 q2 s) (hv : s.vm = U.vm) (hh : U.heap = s.heap) : EX A q1 q2 U := h.moved (by rw [← hv]; exact State.WarmedH.refl s) (fun a _ _ => by rw [hh])
def PX (g : GG) (A : Nat → Prop) (q1 q2 : Nat) (ws : va_W) (U : State) : Prop := PRE g A ws U ∧ EX A q1 q2 U
theorem tx_blindX {g : GG} {A : Nat → Prop} {q1 q2 : Nat} {ws : va_W} {av : List Value} : FrameBlind (va_Pc av (PX g A q1 q2 ws)) := by
  intro a U gf mk ⟨h1, h2, h3⟩
  have h9 := tx_blind (g := g) (A := A) (ws := ws) (av := av) a U gf mk ⟨h1, h2⟩
  exact ⟨h9.1, h9.2, h3.same rfl rfl⟩
def rmT : Room := { frames := 8, cells := 1, slots := 6, locals := 200 }
def rmU : Room := { frames := 9, cells := 1, slots := 6, locals := 250 }
theorem tx_startX {l : Launch} {y : MethodName} {cc : ByteArray} {n : Nat} {ret : Option FieldType} {rm : Room} {g : GG} {A : Nat → Prop} {q1 q2 mc ms : Nat} {ws : va_W} {av : List Value} {Qc : Array Value → State → Outcome → State → Prop} {XC : String → State → State → Prop} (hy : plainName y.cls = true) (hln : (lg_sl av).length ≤ n)
    (body : ∀ (p : Program) (e : Env) (s : State) (m : MethodId) (below : List Frame) (meth : Method) (c : Code) (ls : Array Slot), CallFix p m c cc n s av.toArray (Cond.code y cc n ret :: allW) y.cls → meth.sig.returnType = ret → meth.locks = false → (∀ x ∈ c.exceptionTable.toList, False) → EN g A s → EX A q1 q2 s → WD g A s.heap ws s.heap [] → lv_has ls n (lv_args 0 av) →
      W p l e rm s m av.toArray below meth c s.heap [] 0 0 (vx_MQ below Qc XC av.toArray s mc ms A) (F0 m 0 ls [])) : vx_Met l y (Cond.code y cc n ret :: allW) rm (va_Pc av (PX g A q1 q2 ws)) Qc XC mc ms A := by
  refine vx_ofW (cc := cc) (maxL := n) (ret := ret) hy rfl ?_
  intro p e s m args below meth c s₁ B hml htab hv
  obtain ⟨rfl, ⟨hP, hD, hE⟩, hX⟩ := hv
  have hl := lv_entry av (n := n) hln
  rw [lg_entry_eq]
  generalize (lg_sl av ++ List.replicate (n - (lg_sl av).length) Slot.unset).toArray = ls at hl ⊢
  exact body p e s m below meth c ls ⟨B.exec, B.bytes, hml, findClass_of_methodNamed B.named, atoms_spec (ws := Cond.code y cc n ret :: allW) B.pre⟩ B.returns B.notSynchronized htab hE hX ⟨hP, hD, va_S.rf⟩ hl
theorem tx_startH {l : Launch} {y : MethodName} {cc : ByteArray} {n : Nat} {ret : Option FieldType} {hh : List (Nat × Nat × Nat × Nat)} {rm : Room} {g : GG} {A : Nat → Prop} {q1 q2 mc ms : Nat} {ws : va_W} {av : List Value} {Qc : Array Value → State → Outcome → State → Prop} {XC : String → State → State → Prop} (hy : plainName y.cls = true) (hln : (lg_sl av).length ≤ n)
    (body : ∀ (p : Program) (e : Env) (s : State) (m : MethodId) (below : List Frame) (meth : Method) (c : Code) (ls : Array Slot), CallFix p m c cc n s av.toArray (Cond.codeWith y cc n ret hh :: allW) y.cls → meth.sig.returnType = ret → meth.locks = false → c.exceptionTable.toList = tableOf hh → EN g A s → EX A q1 q2 s → WD g A s.heap ws s.heap [] → lv_has ls n (lv_args 0 av) →
      W p l e rm s m av.toArray below meth c s.heap [] 0 0 (vx_MQ below Qc XC av.toArray s mc ms A) (F0 m 0 ls [])) : vx_Met l y (Cond.codeWith y cc n ret hh :: allW) rm (va_Pc av (PX g A q1 q2 ws)) Qc XC mc ms A := by
  refine vx_ofWH (cc := cc) (maxL := n) (ret := ret) (hh := hh) hy rfl ?_
  intro p e s m args below meth c s₁ B hml hv
  obtain ⟨rfl, ⟨hP, hD, hE⟩, hX⟩ := hv
  have ha := atoms_spec (ws := Cond.codeWith y cc n ret hh :: allW) B.pre
  have hl := lv_entry av (n := n) hln
  rw [lg_entry_eq]
  generalize (lg_sl av ++ List.replicate (n - (lg_sl av).length) Slot.unset).toArray = ls at hl ⊢
  exact body p e s m below meth c ls ⟨B.exec, B.bytes, hml, findClass_of_methodNamed B.named, ha⟩ B.returns B.notSynchronized (vx_table (x := y) B (ha _ List.mem_cons_self)) hE hX ⟨hP, hD, va_S.rf⟩ hl
section TXY
variable {p : Program} {l : Launch} {e : Env} {R : Room} {s : State} {m : MethodId} {args : Array Value} {below : List Frame} {meth : Method} {c : Code} {H : Heap} {locs : List Loc} {cells slots : Nat} {Q : State → Prop}
variable {g : GG} {A : Nat → Prop} {ws ws' : va_W} {pc q1 q2 : Nat} {ls : Array Slot} {rest st0 : List Value} {cc : ByteArray} {nL : Nat} {Ts : List Cond} {own : String} {kc : Cond}
variable {Qc : Array Value → State → Outcome → State → Prop} {XC : String → State → State → Prop} {free : Addr → Prop}
theorem tx_PREX (hE : EN g A s) (hX : EX A q1 q2 s) (hw : WD g A s.heap ws H locs) {av : List Value} : ∀ U : State, U.heap = H → s.WarmedH U.vm → va_Pc av (PX g A q1 q2 ws) av.toArray U := by
  intro U hU hW
  refine ⟨rfl, (tx_PRE hE hw (av := av) U hU hW).2, hX.moved hW (fun a h1 h2 => ?_)⟩
  rw [hU]
  exact hw.2.2.2.1 a h1 h2
theorem tx_iretX (S : CallFix p m c cc nL s args Ts own) (hr : meth.sig.returnType = some .int) (hlk : meth.locks = false) {r : Int32} {post : Int32 → Prop} (hp : post r) (hw : WD g A s.heap ws' H locs) (hdg : decode cc pc = .ok (.ireturn, 1)) :
    W p l e R s m args below meth c H locs cells slots (vx_MQ below (va_Qi (fun r2 (_ : Unit) => post r2) (fun _ t => POST g A ws' t) A) XC args s cells slots A) (F0 m pc ls [.int r]) :=
  vx_ret (W.iret (v := r) S.1 S.2.1 hr (fun t ht _ => ⟨⟨r, (), rfl, hp, by rw [ht]; exact hw.1, hw.2.1⟩, hw.2.2.F ht⟩) hw.2.2.2.2 hdg hlk)
set_option maxHeartbeats 4000000 in
theorem tx_throwX (hexec : p.tables.exec = Jvm.exec) (hb : c.code = cc) (hl : l.stackTraces = false) {cls text : String} {names : List String} {ik is ic ix mc ms sa : Nat} {rx : ByteArray}
    (x0 : decode rx 0 = .ok (.aload_n 0, 1)) (x1 : decode rx 1 = .ok (.aload_n 1, 1)) (x2 : decode rx 2 = .ok (.invokespecial ix, 3)) (x5 : decode rx 5 = .ok (.return_, 1))
    (hown : s.vm.findClass own = some m.cls) (hcls : Bundle.fit cls = true) (hnames : ∀ n ∈ names, Bundle.fit n = true)
    (hk : (Cond.classLink own ik cls).before args s = true) (hini : (Cond.initialized cls).before args s = true) (hstr : vk_R own is text sa s) (hat : ∀ w ∈ tx_atX own ic cls ix rx names, w.before args s = true)
    (hgood : ∀ w ∈ Cond.classLink own ik cls :: Cond.initialized cls :: tx_atX own ic cls ix rx names, vx_ot w = true)
    (hU : vx_Zq Bundle.tN "UNASSIGNED_STACK" Bundle.steD A s s.heap) (hN : vx_Zq Bundle.tN "SUPPRESSED_SENTINEL" Bundle.listD A s s.heap) (hS : va_S A s.heap H locs) (hsize : ls.size = c.maxLocals)
    (d0 : decode cc pc = .ok (.new ik, 3)) (d3 : decode cc (pc + 3) = .ok (.dup, 1)) (d4 : decode cc (pc + 4) = .ok (.ldc is, 2)) (d6 : decode cc (pc + 6) = .ok (.invokespecial ic, 3)) (d9 : decode cc (pc + 9) = .ok (.athrow, 1))
    (hout : ∀ x ∈ c.exceptionTable.toList, covers x (pc + 9) = false)
    (hRf : names.length + 3 < R.frames) (hRl : (rest.map fun v => v.category).sum + (13 * (names.length + 1) + 43) ≤ R.locals) (hRc : cells + 1 ≤ R.cells) (hRs : slots + 6 ≤ R.slots) (hlocks : meth.locks = false)
    (hx : ∀ t : State, s.vm.Alike t.vm → H.size ≤ t.heap.size → (∀ q : Nat, q < H.size → t.heap[q]? = H[q]?) → XC cls s t)
    (hf : ∀ z ∈ locs, free z.base) (hc : cells + 1 ≤ mc) (hs : slots + 6 ≤ ms) :
    W p l e R s m args below meth c H locs cells slots (vx_MQ below Qc XC args s mc ms free) (F0 m pc ls rest) := by
  intro T hT X
  have htr : e.platform.stackTraces = false := (show e.platform.stackTraces = l.stackTraces by rw [X.admits.platform]).trans hl
  have Y := vx_rebase X (R' := { frames := R.frames, locals := R.locals, cells := 1, slots := 6 }) (Nat.le_refl _) (Nat.le_refl _) hRc hRs
  obtain ⟨z, hz⟩ : ∃ z, z = (T.setVm s.vm).setFrames (.invoking m args :: below) := ⟨_, rfl⟩
  rw [← hz] at Y
  have zv : z.vm = s.vm := by rw [hz]; rfl
  have zh : z.heap = H := by rw [hz]; exact hT
  have zW : s.WarmedH z.vm := by rw [zv]; exact State.WarmedH.refl s
  have hU' : vx_Zq Bundle.tN "UNASSIGNED_STACK" Bundle.steD A z z.heap := by rw [zh]; exact vx_Zq.moved zW.alike (hU.kept hS.2.1)
  have hN' : vx_Zq Bundle.tN "SUPPRESSED_SENTINEL" Bundle.listD A z z.heap := by rw [zh]; exact vx_Zq.moved zW.alike (hN.kept hS.2.1)
  have h : ∀ w ∈ Bundle.ownAtomsX own ic cls ix rx names, w.before args z = true := vx_own (fun w hw => vx_ot_at zW zv.symm (hgood w (List.mem_cons_of_mem _ (List.mem_cons_of_mem _ hw))) (hat w hw)) (vx_isRefq hU'.1) (vx_isRefq hN'.1) hU'.2.word hN'.2.word
  have hown' : z.vm.findClass own = some m.cls := by rw [zv]; exact hown
  obtain ⟨vm₁, cX, kX, hfX, hkX, -, -, X₁, st1⟩ := Y.newCold hexec (own := own) (C := cls) (index := ik) (n := 6) hown' (vx_ot_at zW zv.symm (hgood _ List.mem_cons_self) hk) (h _ (by simp [Bundle.ownAtomsX])) (vx_ot_at zW zv.symm (hgood _ (List.mem_cons_of_mem _ List.mem_cons_self)) hini)
    (g := F0 m pc ls rest) rfl (by rw [hb]; exact d0) (Nat.le_refl _) (Nat.le_refl _)
  generalize hT1 : (T.setVm vm₁).pushCell { cls := cX, slots := kX.instanceTypes.map defaultValue, vm := .none } = T1 at X₁ st1
  have hcat : (Value.ref T.heap.size).category = 1 := rfl
  have hcellA : T1.heap[T.heap.size]? = some (freshCell cX kX) := by rw [← hT1]; exact State.heap_pushCell_size _ _
  have d3' : decode c.code (pc + 3) = .ok (.dup, 1) := by rw [hb]; exact d3
  have d4' : decode c.code (pc + 4) = .ok (.ldc is, 2) := by rw [hb]; exact d4
  have hstr' : vk_R own is text sa z := vk_R.warm zW hstr
  obtain ⟨U, hsteps, hrun, hend, hW, hsame, ce, hce, hcv, hcc⟩ := tx_ctorX X₁ hexec htr (own := own) (cls := cls) (names := names) (ic := ic) x0 x1 x2 x5 hown' hcls hnames h hfX hkX hcellA (by rw [zh, hT]; exact Nat.le_refl _) (msg := .ref sa) rfl
    (g := { method := m, pc := pc + 6, locals := ls, stack := .ref sa :: .ref T.heap.size :: .ref T.heap.size :: rest, locked := none }) rfl hsize rfl rfl (rest := rest) rfl
    (by rw [hb]; exact d6) (by rw [hb]; exact d9) hout hRf (by simp only [List.map_cons, List.sum_cons, hcat]; omega) hlocks
  obtain ⟨f1, f2⟩ := vx_frame hsame
  rw [zh] at f1 f2
  have hWs : s.WarmedH U.vm := State.WarmedH.trans zW hW
  have hcl : s.vm.findClass cls = some ce.cls := by
    rw [hcc, ← zv]
    exact hfX
  have hall : s.sameButNew ({ U with vm := s.vm } : State) locs mc ms := by
    subst hz
    obtain ⟨e1, e2⟩ := hsame
    rw [State.setFrames_setFrames] at e1
    have h2 : (T.setVm s.vm).sameButNew ({ U with vm := s.vm } : State) [] (0 + 1) (0 + 6) := ⟨e1, e2⟩
    have h3 := X.same.trans h2
    rw [List.append_nil] at h3
    exact h3.mono hc hs
  refine ⟨U, ?_, .threw T.heap.size, hrun, hend, Or.inr ⟨T.heap.size, rfl, cls, ce, locs, hx U hWs.alike f1 (fun q hq => f2 q hq (fun y hy => nomatch hy)), hce, hcv, hcl, hWs, hall, hf⟩⟩
  refine st1 _ ?_
  show Steps p.tables e below (T1.setTop { method := m, pc := pc + 3, locals := ls, stack := .ref T.heap.size :: rest, locked := none }) _
  jvm_step X₁.here [X₁.here.top, hexec, d3', Value.category]
  exact X₁.ldcString hexec (own := own) (text := text) (index := is) (a := sa) hown' hstr'.1 hstr'.2
    (g := { method := m, pc := pc + 4, locals := ls, stack := .ref T.heap.size :: .ref T.heap.size :: rest, locked := none }) rfl d4' _ hsteps
end TXY
theorem tw_six : decode xSix 0 = .ok (.aload_n 0, 1) ∧ decode xSix 1 = .ok (.aload_n 1, 1) ∧ decode xSix 2 = .ok (.invokespecial 7, 3) ∧ decode xSix 5 = .ok (.return_, 1) := by decide +kernel
theorem tw_thi : decode xThi 0 = .ok (.aload_n 0, 1) ∧ decode xThi 1 = .ok (.aload_n 1, 1) ∧ decode xThi 2 = .ok (.invokespecial 13, 3) ∧ decode xThi 5 = .ok (.return_, 1) := by decide +kernel
theorem tw_good1 : ∀ w ∈ Cond.classLink RX11 123 xI :: Cond.initialized xI :: tx_atX RX11 127 xI 7 xSix xNames, vx_ot w = true := by decide +kernel
theorem tw_good2 : ∀ w ∈ Cond.classLink RX11 152 xN :: Cond.initialized xN :: tx_atX RX11 156 xN 13 xThi xNames, vx_ot w = true := by decide +kernel
