/-! the words of the walk: rows of ints by row and place, worlds, contracts, starts, ends, calls -/
abbrev S32 : Type := Nat → Nat → Int32
abbrev L64 : Type := Nat → Int64
abbrev S64 : Type := Nat → Nat → Int64
abbrev GG : Type := va_G × (Nat → ClassId) × (Nat → Nat)
def rw2 (b : S32) (r : Nat) (f : Nat → Int32) : S32 := fun r' => if r' = r then f else b r'
def up2 (b : S32) (r i : Nat) (v : Int32) : S32 := fun r' => if r' = r then upd (b r) i v else b r'
def rw4 (b : S64) (r : Nat) (f : Nat → Int64) : S64 := fun r' => if r' = r then f else b r'
def up4 (b : S64) (r i : Nat) (v : Int64) : S64 := fun r' => if r' = r then vp_updL (b r) i v else b r'
/-! what a function of a method is made of -/
def tx_let {α β : Type} (x : α) (k : α → Option β) : Option β := k x
def tx_ck {β : Type} (i : Int32) (n : Nat) (k : Option β) : Option β := if i < 0 ∨ n ≤ i.toNatClampNeg then none else k
def tx_nz {β : Type} (y : Int32) (k : Option β) : Option β := if y = 0 then none else k
def tx_nl {β : Type} (y : Int64) (k : Option β) : Option β := if y = 0 then none else k
def tx_bz {β : Type} (y : Int32) (k : Option β) : Option β := if y = 0 ∨ y = 1 then k else none
def tx_pt {β : Type} (x y : Nat) (k : Option β) : Option β := if x = y then k else none
def tx_b1 {α γ : Type} (o : Option α) (k : α → Option γ) : Option γ := match o with
  | none => none
  | some a => k a
def tx_b2 {α β γ : Type} (o : Option (α × β)) (k : α → β → Option γ) : Option γ := match o with
  | none => none
  | some a => k a.1 a.2
def tx_b3 {α β δ γ : Type} (o : Option (α × β × δ)) (k : α → β → δ → Option γ) : Option γ := match o with
  | none => none
  | some a => k a.1 a.2.1 a.2.2
def tx_b4 {α β δ ε γ : Type} (o : Option (α × β × δ × ε)) (k : α → β → δ → ε → Option γ) : Option γ := match o with
  | none => none
  | some a => k a.1 a.2.1 a.2.2.1 a.2.2.2
def tx_b5 {α β δ ε ζ γ : Type} (o : Option (α × β × δ × ε × ζ)) (k : α → β → δ → ε → ζ → Option γ) : Option γ := match o with
  | none => none
  | some a => k a.1 a.2.1 a.2.2.1 a.2.2.2.1 a.2.2.2.2
def tx_b6 {α β δ ε ζ η γ : Type} (o : Option (α × β × δ × ε × ζ × η)) (k : α → β → δ → ε → ζ → η → Option γ) : Option γ := match o with
  | none => none
  | some a => k a.1 a.2.1 a.2.2.1 a.2.2.2.1 a.2.2.2.2.1 a.2.2.2.2.2
def tx_b7 {α β δ ε ζ η θ γ : Type} (o : Option (α × β × δ × ε × ζ × η × θ)) (k : α → β → δ → ε → ζ → η → θ → Option γ) : Option γ := match o with
  | none => none
  | some a => k a.1 a.2.1 a.2.2.1 a.2.2.2.1 a.2.2.2.2.1 a.2.2.2.2.2.1 a.2.2.2.2.2.2
def tx_b8 {α β δ ε ζ η θ ι γ : Type} (o : Option (α × β × δ × ε × ζ × η × θ × ι)) (k : α → β → δ → ε → ζ → η → θ → ι → Option γ) : Option γ := match o with
  | none => none
  | some a => k a.1 a.2.1 a.2.2.1 a.2.2.2.1 a.2.2.2.2.1 a.2.2.2.2.2.1 a.2.2.2.2.2.2.1 a.2.2.2.2.2.2.2
theorem tx_let_e {α β : Type} {x : α} {k : α → Option β} {o : Option β} (h : tx_let x k = o) {y : α} (e : y = x) : k y = o := by subst e; exact h
theorem tx_ck_e {β : Type} {i : Int32} {n : Nat} {k : Option β} {o : β} (h : tx_ck i n k = some o) : vp_in i n ∧ k = some o := by
  unfold tx_ck at h
  split at h
  next => cases h
  next hc => exact ⟨hc, h⟩
theorem tx_nz_e {β : Type} {y : Int32} {k : Option β} {o : β} (h : tx_nz y k = some o) : ¬ y = 0 ∧ k = some o := by
  unfold tx_nz at h
  split at h
  next => cases h
  next hc => exact ⟨hc, h⟩
theorem tx_nl_e {β : Type} {y : Int64} {k : Option β} {o : β} (h : tx_nl y k = some o) : ¬ y = 0 ∧ k = some o := by
  unfold tx_nl at h
  split at h
  next => cases h
  next hc => exact ⟨hc, h⟩
theorem tx_bz_e {β : Type} {y : Int32} {k : Option β} {o : β} (h : tx_bz y k = some o) : (y = 0 ∨ y = 1) ∧ k = some o := by
  unfold tx_bz at h
  split at h
  next hc => exact ⟨hc, h⟩
  next => cases h
theorem tx_pt_e {β : Type} {x y : Nat} {k : Option β} {o : β} (h : tx_pt x y k = some o) : x = y ∧ k = some o := by
  unfold tx_pt at h
  split at h
  next hc => exact ⟨hc, h⟩
  next => cases h
theorem tx_b1_e {α γ : Type} {q : Option α} {k : α → Option γ} {o : γ} (h : tx_b1 q k = some o) : ∃ a, q = some a ∧ k a = some o := by
  cases q with
  | none => cases h
  | some a => exact ⟨a, rfl, h⟩
theorem tx_b2_e {α β γ : Type} {q : Option (α × β)} {k : α → β → Option γ} {o : γ} (h : tx_b2 q k = some o) : ∃ a b, q = some (a, b) ∧ k a b = some o := by
  cases q with
  | none => cases h
  | some a => exact ⟨a.1, a.2, rfl, h⟩
theorem tx_b3_e {α β δ γ : Type} {q : Option (α × β × δ)} {k : α → β → δ → Option γ} {o : γ} (h : tx_b3 q k = some o) : ∃ a b c, q = some (a, b, c) ∧ k a b c = some o := by
  cases q with
  | none => cases h
  | some a => exact ⟨_, _, _, rfl, h⟩
theorem tx_b4_e {α β δ ε γ : Type} {q : Option (α × β × δ × ε)} {k : α → β → δ → ε → Option γ} {o : γ} (h : tx_b4 q k = some o) : ∃ a b c d, q = some (a, b, c, d) ∧ k a b c d = some o := by
  cases q with
  | none => cases h
  | some a => exact ⟨_, _, _, _, rfl, h⟩
theorem tx_b5_e {α β δ ε ζ γ : Type} {q : Option (α × β × δ × ε × ζ)} {k : α → β → δ → ε → ζ → Option γ} {o : γ} (h : tx_b5 q k = some o) : ∃ a b c d e, q = some (a, b, c, d, e) ∧ k a b c d e = some o := by
  cases q with
  | none => cases h
  | some a => exact ⟨_, _, _, _, _, rfl, h⟩
theorem tx_b6_e {α β δ ε ζ η γ : Type} {q : Option (α × β × δ × ε × ζ × η)} {k : α → β → δ → ε → ζ → η → Option γ} {o : γ} (h : tx_b6 q k = some o) : ∃ a b c d e f, q = some (a, b, c, d, e, f) ∧ k a b c d e f = some o := by
  cases q with
  | none => cases h
  | some a => exact ⟨_, _, _, _, _, _, rfl, h⟩
theorem tx_b7_e {α β δ ε ζ η θ γ : Type} {q : Option (α × β × δ × ε × ζ × η × θ)} {k : α → β → δ → ε → ζ → η → θ → Option γ} {o : γ} (h : tx_b7 q k = some o) : ∃ a b c d e f g, q = some (a, b, c, d, e, f, g) ∧ k a b c d e f g = some o := by
  cases q with
  | none => cases h
  | some a => exact ⟨_, _, _, _, _, _, _, rfl, h⟩
theorem tx_b8_e {α β δ ε ζ η θ ι γ : Type} {q : Option (α × β × δ × ε × ζ × η × θ × ι)} {k : α → β → δ → ε → ζ → η → θ → ι → Option γ} {o : γ} (h : tx_b8 q k = some o) : ∃ a b c d e f g i, q = some (a, b, c, d, e, f, g, i) ∧ k a b c d e f g i = some o := by
  cases q with
  | none => cases h
  | some a => exact ⟨_, _, _, _, _, _, _, _, rfl, h⟩
theorem tx_pos {β : Type} {c : Prop} {i : Decidable c} {a b o : Option β} (h : @ite _ c i a b = o) (hc : c) : a = o := by rw [if_pos hc] at h; exact h
theorem tx_neg {β : Type} {c : Prop} {i : Decidable c} {a b o : Option β} (h : @ite _ c i a b = o) (hc : ¬ c) : b = o := by rw [if_neg hc] at h; exact h
theorem tx_bz_n {v : Int32} (h : v = 0 ∨ v = 1) : narrow .boolean (.int v) = .int v := by rcases h with rfl | rfl <;> rfl
theorem tx_bz_f {v : Int32} (h : v = 0 ∨ v = 1) : fits .boolean (.int v) = true := by rcases h with rfl | rfl <;> rfl
/-! the world: what it holds, what stays -/
def tx_tys (g : GG) : List (ClassId × FieldType) := [(g.2.1 0, .byte), (g.2.1 1, .int), (g.2.1 2, .long), (g.2.1 3, .boolean)]
def tx_words : Nat → Int64 := fun j => ([0x6d616e, 0x74686f75676874, 0x726561646572, 0x72617465, 0x64756c6c, 0x73656564, 0x6c6177, 0x72656164, 0x647565, 0x68696465, 0x6f72, 0x616e64, 0x6e6f74, 0x776f727468, 0x736b696c6c, 0x7075727365, 0x77696c6573, 0x64756c6c6564, 0x7468657265, 0x7765656b] : List Int64).getD j 0
def tx_ranks : Nat → Int32 := fun j => ([0, 0, 1, 2, 3, 4, 4, 4, 4, 4, 4, 5, 5, 6, 6] : List Int32).getD j 0
def tx_plays : Nat → Int32 := fun j => ([0, 1, 10, 11] : List Int32).getD j 0
def tx_ST (g : GG) (A : Nat → Prop) (U : State) (H : Heap) : Prop :=
  (va_Z "ThoughtTax$Tokens" "WORDS" "[J" (.ref (g.2.2 0)) A U H ∧ va_T .long (g.2.2 0) 20 (fun j => .long (tx_words j)) A U H) ∧
  (va_Z "ThoughtTax$LawReader" "RANKS" "[I" (.ref (g.2.2 1)) A U H ∧ va_T .int (g.2.2 1) 15 (fun j => .int (tx_ranks j)) A U H) ∧
  (va_Z "ThoughtTax$Game" "PLAYS" "[I" (.ref (g.2.2 2)) A U H ∧ va_T .int (g.2.2 2) 4 (fun j => .int (tx_plays j)) A U H)
def tx_NW (U : State) : Prop := ∀ w ∈ nestW, va_Nw w U
theorem tx_NW.warm {s U : State} (h : tx_NW s) (hW : s.WarmedH U.vm) : tx_NW U := by
  intro w hw
  have h2 := (List.mem_filter.mp hw).2
  have h3 := h w hw
  cases w <;> first | exact va_Nw.warmF hW h3 | exact va_Nw.warmM hW h3 | (exact absurd h2 (by intro q; cases q))
theorem tx_NW.same {s U : State} (h : tx_NW s) (e : s.vm = U.vm) : tx_NW U := by
  intro w hw
  have h2 := (List.mem_filter.mp hw).2
  have h3 := h w hw
  cases w <;> first | exact va_Nw.same rfl e h3 | (exact absurd h2 (by intro q; cases q))
theorem tx_nw {s : State} {args : Array Value} (h : tx_NW s) {w : Cond} (hw : w ∈ nestW) (ht : w.onTables = true) : w.before args s = true := va_Nw.use ht (h w hw)
def EN (g : GG) (A : Nat → Prop) (U : State) : Prop := va_K g.1 vwCl (tx_tys g) U ∧ tx_ST g A U U.heap ∧ tx_NW U
def PRE (g : GG) (A : Nat → Prop) (ws : va_W) (U : State) : Prop := va_P g.1 vwCl ws U.heap ∧ va_D A ws ∧ EN g A U
def POST (g : GG) (A : Nat → Prop) (ws : va_W) (t : State) : Prop := va_P g.1 vwCl ws t.heap ∧ va_D A ws
def WD (g : GG) (A : Nat → Prop) (H0 : Heap) (ws : va_W) (H : Heap) (locs : List Loc) : Prop := va_P g.1 vwCl ws H ∧ va_D A ws ∧ va_S A H0 H locs
theorem EN.moved {g : GG} {A : Nat → Prop} {s U : State} (h : EN g A s) (hvm : s.vm.Alike U.vm) (hn : tx_NW U) (hq : ∀ a : Nat, a < s.heap.size → ¬ A a → U.heap[a]? = s.heap[a]?) : EN g A U := by
  obtain ⟨hk, ⟨⟨a1, a2⟩, ⟨b1, b2⟩, ⟨c1, c2⟩⟩, -⟩ := h
  exact ⟨hk.moved hvm, ⟨⟨(a1.moved hvm).kept hq, (a2.moved hvm).kept hq⟩, ⟨(b1.moved hvm).kept hq, (b2.moved hvm).kept hq⟩, ⟨(c1.moved hvm).kept hq, (c2.moved hvm).kept hq⟩⟩, hn⟩
theorem tx_blind {g : GG} {A : Nat → Prop} {ws : va_W} {av : List Value} : FrameBlind (va_Pc av (PRE g A ws)) := by
  intro a U gf mk ⟨h1, h2, h3, h4⟩
  exact ⟨h1, h2, h3, h4.moved (U := U.calling gf mk a) (Vm.Alike.refl U.vm) (h4.2.2.same rfl) (fun _ _ _ => rfl)⟩
theorem tx_P_perm {D : va_G} {cl : List vw_C} {w w' : va_W} {H : Heap} (hp : List.Perm w w') (h : va_P D cl w H) : va_P D cl w' H := by
  intro k q hk
  obtain ⟨i, hi⟩ := List.getElem?_of_mem (hp.mem_iff.mpr (List.mem_of_getElem? hk))
  exact h i q hi
theorem tx_D_iff {A : Nat → Prop} {w : va_W} : va_D A w ↔ (w.map (fun q => q.1)).Pairwise (fun x y => x ≠ y) ∧ ∀ q ∈ w, A q.1 := by
  constructor
  · intro ⟨h1, h2⟩
    refine ⟨?_, fun q hq => ?_⟩
    · rw [List.pairwise_iff_getElem]
      intro i j hi hj hij e
      have hi' : i < w.length := by simpa using hi
      have hj' : j < w.length := by simpa using hj
      have := h1 i j _ _ (List.getElem?_eq_getElem hi') (List.getElem?_eq_getElem hj') (by simpa using e)
      omega
    · obtain ⟨i, hi⟩ := List.getElem?_of_mem hq
      exact h2 i q hi
  · intro ⟨h1, h2⟩
    refine ⟨fun i j p q hp hq e => ?_, fun k q hk => h2 q (List.mem_of_getElem? hk)⟩
    rw [List.pairwise_iff_getElem] at h1
    obtain ⟨hi, hp⟩ := List.getElem?_eq_some_iff.mp hp
    obtain ⟨hj, hq⟩ := List.getElem?_eq_some_iff.mp hq
    rcases Nat.lt_trichotomy i j with h | h | h
    · exact absurd (show (w.map (fun q => q.1))[i]'(by simpa using hi) = (w.map (fun q => q.1))[j]'(by simpa using hj) by simp [hp, hq, e]) (h1 i j (by simpa using hi) (by simpa using hj) h)
    · exact h
    · exact absurd (show (w.map (fun q => q.1))[j]'(by simpa using hj) = (w.map (fun q => q.1))[i]'(by simpa using hi) by simp [hp, hq, e]) (h1 j i (by simpa using hj) (by simpa using hi) h)
theorem tx_D_perm {A : Nat → Prop} {w w' : va_W} (hp : List.Perm w w') (h : va_D A w) : va_D A w' := by
  rw [tx_D_iff] at h ⊢
  exact ⟨(hp.map _).pairwise h.1 (fun h => Ne.symm h), fun q hq => h.2 q (hp.mem_iff.mpr hq)⟩
section TXS
variable {g : GG} {A : Nat → Prop} {H0 H : Heap} {locs : List Loc} {a b c d e f x y r : va_W}
theorem WD.perm {w w' : va_W} (hp : List.Perm w w') (h : WD g A H0 w H locs) : WD g A H0 w' H locs := ⟨tx_P_perm hp h.1, tx_D_perm hp h.2.1, h.2.2⟩
theorem tx_sw : List.Perm (x ++ (y ++ r)) (y ++ (x ++ r)) := by
  rw [← List.append_assoc, ← List.append_assoc]
  exact List.Perm.append_right r List.perm_append_comm
theorem WD.s0 (h : WD g A H0 (x ++ (y ++ r)) H locs) : WD g A H0 (y ++ (x ++ r)) H locs := h.perm tx_sw
theorem WD.s1 (h : WD g A H0 (a ++ (x ++ (y ++ r))) H locs) : WD g A H0 (a ++ (y ++ (x ++ r))) H locs := h.perm (List.Perm.append_left _ tx_sw)
theorem WD.s2 (h : WD g A H0 (a ++ (b ++ (x ++ (y ++ r)))) H locs) : WD g A H0 (a ++ (b ++ (y ++ (x ++ r)))) H locs := h.perm (List.Perm.append_left _ (List.Perm.append_left _ tx_sw))
theorem WD.s3 (h : WD g A H0 (a ++ (b ++ (c ++ (x ++ (y ++ r))))) H locs) : WD g A H0 (a ++ (b ++ (c ++ (y ++ (x ++ r))))) H locs := h.perm (List.Perm.append_left _ (List.Perm.append_left _ (List.Perm.append_left _ tx_sw)))
theorem WD.s4 (h : WD g A H0 (a ++ (b ++ (c ++ (d ++ (x ++ (y ++ r)))))) H locs) : WD g A H0 (a ++ (b ++ (c ++ (d ++ (y ++ (x ++ r)))))) H locs := h.perm (List.Perm.append_left _ (List.Perm.append_left _ (List.Perm.append_left _ (List.Perm.append_left _ tx_sw))))
/-- the k-th comes first -/
theorem WD.u1 (h : WD g A H0 (a ++ (b ++ r)) H locs) : WD g A H0 (b ++ (a ++ r)) H locs := h.s0
theorem WD.u2 (h : WD g A H0 (a ++ (b ++ (c ++ r))) H locs) : WD g A H0 (c ++ (a ++ (b ++ r))) H locs := h.s1.s0
theorem WD.u3 (h : WD g A H0 (a ++ (b ++ (c ++ (d ++ r)))) H locs) : WD g A H0 (d ++ (a ++ (b ++ (c ++ r)))) H locs := h.s2.s1.s0
theorem WD.u4 (h : WD g A H0 (a ++ (b ++ (c ++ (d ++ (e ++ r))))) H locs) : WD g A H0 (e ++ (a ++ (b ++ (c ++ (d ++ r))))) H locs := h.s3.s2.s1.s0
theorem WD.u5 (h : WD g A H0 (a ++ (b ++ (c ++ (d ++ (e ++ (f ++ r)))))) H locs) : WD g A H0 (f ++ (a ++ (b ++ (c ++ (d ++ (e ++ r)))))) H locs := h.s4.s3.s2.s1.s0
end TXS
def rmH (h : Nat) : Room := { frames := h, cells := 0, slots := 0, locals := 40 * h }
def MI (l : Launch) (y : MethodName) (cc : ByteArray) (n : Nat) (ret : Option FieldType) (h : Nat) (g : GG) (A : Nat → Prop) (ws : va_W) (av : List Value) (r : Int32) (ws' : va_W) : Prop :=
  Met l y (Cond.code y cc n ret :: allW) (rmH h) (va_Pc av (PRE g A ws)) (va_Qi (fun r2 (_ : Unit) => r2 = r) (fun _ t => POST g A ws' t) A) 0 0 A
def ML (l : Launch) (y : MethodName) (cc : ByteArray) (n : Nat) (ret : Option FieldType) (h : Nat) (g : GG) (A : Nat → Prop) (ws : va_W) (av : List Value) (r : Int64) (ws' : va_W) : Prop :=
  Met l y (Cond.code y cc n ret :: allW) (rmH h) (va_Pc av (PRE g A ws)) (va_Ql (fun r2 (_ : Unit) => r2 = r) (fun _ t => POST g A ws' t) A) 0 0 A
def MV (l : Launch) (y : MethodName) (cc : ByteArray) (n : Nat) (ret : Option FieldType) (h : Nat) (g : GG) (A : Nat → Prop) (ws : va_W) (av : List Value) (ws' : va_W) : Prop :=
  Met l y (Cond.code y cc n ret :: allW) (rmH h) (va_Pc av (PRE g A ws)) (va_Qv (fun (_ : Unit) => True) (fun _ t => POST g A ws' t) A) 0 0 A
theorem tx_start {l : Launch} {y : MethodName} {cc : ByteArray} {n : Nat} {ret : Option FieldType} {h : Nat} {g : GG} {A : Nat → Prop} {ws : va_W} {av : List Value} {Qc : Array Value → State → Outcome → State → Prop} (hy : plainName y.cls = true) (hln : (lg_sl av).length ≤ n)
    (body : ∀ (p : Program) (e : Env) (s : State) (m : MethodId) (below : List Frame) (meth : Method) (c : Code) (ls : Array Slot), CallFix p m c cc n s av.toArray (Cond.code y cc n ret :: allW) y.cls → meth.sig.returnType = ret → meth.locks = false → EN g A s → WD g A s.heap ws s.heap [] → lv_has ls n (lv_args 0 av) →
      W p l e (rmH h) s m av.toArray below meth c s.heap [] 0 0 (MQ below Qc av.toArray s 0 0 A) (F0 m 0 ls [])) : Met l y (Cond.code y cc n ret :: allW) (rmH h) (va_Pc av (PRE g A ws)) Qc 0 0 A := by
  refine Met.ofW (cc := cc) (maxL := n) (ret := ret) hy rfl ?_
  intro p e s m args below meth c s₁ B hml hv
  obtain ⟨rfl, hP, hD, hE⟩ := hv
  have hl := lv_entry av (n := n) hln
  rw [lg_entry_eq]
  generalize (lg_sl av ++ List.replicate (n - (lg_sl av).length) Slot.unset).toArray = ls at hl ⊢
  exact body p e s m below meth c ls ⟨B.exec, B.bytes, hml, findClass_of_methodNamed B.named, atoms_spec (ws := Cond.code y cc n ret :: allW) B.pre⟩ B.returns B.notSynchronized hE ⟨hP, hD, va_S.rf⟩ hl
section TXR
variable {p : Program} {l : Launch} {e : Env} {R : Room} {s : State} {m : MethodId} {args : Array Value} {below : List Frame} {meth : Method} {c : Code} {H : Heap} {locs : List Loc} {cells slots : Nat} {Q : State → Prop}
variable {g : GG} {A : Nat → Prop} {ws ws' : va_W} {pc : Nat} {ls : Array Slot} {rest st0 : List Value} {cc : ByteArray} {nL : Nat} {Ts : List Cond} {own : String} {kc : Cond}
theorem tx_iret (S : CallFix p m c cc nL s args Ts own) (hr : meth.sig.returnType = some .int) (hlk : meth.locks = false) {r : Int32} (hw : WD g A s.heap ws' H locs) (hdg : decode cc pc = .ok (.ireturn, 1)) :
    W p l e R s m args below meth c H locs 0 0 (MQ below (va_Qi (fun r2 (_ : Unit) => r2 = r) (fun _ t => POST g A ws' t) A) args s 0 0 A) (F0 m pc ls [.int r]) :=
  W.iret (v := r) S.1 S.2.1 hr (fun t ht _ => ⟨⟨r, (), rfl, rfl, by rw [ht]; exact hw.1, hw.2.1⟩, hw.2.2.F ht⟩) hw.2.2.2.2 hdg hlk
theorem tx_zret (S : CallFix p m c cc nL s args Ts own) (hr : meth.sig.returnType = some .boolean) (hlk : meth.locks = false) {r : Int32} (hz : r = 0 ∨ r = 1) (hw : WD g A s.heap ws' H locs) (hdg : decode cc pc = .ok (.ireturn, 1)) :
    W p l e R s m args below meth c H locs 0 0 (MQ below (va_Qi (fun r2 (_ : Unit) => r2 = r) (fun _ t => POST g A ws' t) A) args s 0 0 A) (F0 m pc ls [.int r]) :=
  W.zret (v := r) S.1 S.2.1 hr (tx_bz_n hz) (fun t ht _ => ⟨⟨r, (), rfl, rfl, by rw [ht]; exact hw.1, hw.2.1⟩, hw.2.2.F ht⟩) hw.2.2.2.2 hdg hlk
theorem tx_lret (S : CallFix p m c cc nL s args Ts own) (hr : meth.sig.returnType = some .long) (hlk : meth.locks = false) {r : Int64} (hw : WD g A s.heap ws' H locs) (hdg : decode cc pc = .ok (.lreturn, 1)) :
    W p l e R s m args below meth c H locs 0 0 (MQ below (va_Ql (fun r2 (_ : Unit) => r2 = r) (fun _ t => POST g A ws' t) A) args s 0 0 A) (F0 m pc ls [.long r]) :=
  W.lret (v := r) S.1 S.2.1 hr (fun t ht _ => ⟨⟨r, (), rfl, rfl, by rw [ht]; exact hw.1, hw.2.1⟩, hw.2.2.F ht⟩) hw.2.2.2.2 hdg hlk
theorem tx_vret (S : CallFix p m c cc nL s args Ts own) (hr : meth.sig.returnType = none) (hlk : meth.locks = false) (hw : WD g A s.heap ws' H locs) (hdg : decode cc pc = .ok (.return_, 1)) :
    W p l e R s m args below meth c H locs 0 0 (MQ below (va_Qv (fun (_ : Unit) => True) (fun _ t => POST g A ws' t) A) args s 0 0 A) (F0 m pc ls []) :=
  W.vret S.1 S.2.1 hr (fun t ht _ => ⟨⟨(), rfl, trivial, by rw [ht]; exact hw.1, hw.2.1⟩, hw.2.2.F ht⟩) hw.2.2.2.2 hdg hlk
/-! fields -/
theorem tx_get (S : CallFix p m c cc nL s args (kc :: allW) own) (hE : EN g A s) {a index ci : Nat} {C ref : String} {T : u_T} {N : Nat} {fs : List Value} {v : Value} (hw : WD g A s.heap ws H locs) (k : Nat) (hin : ∀ w ∈ u_ws C T N, w ∈ allW) (hc : vwCl[ci]? = some (C, T, N)) (hk : k < N) (hl : Cond.fieldLink own index ref (T k).2.1 (T k).2.2.1 ∈ allW) (hT : (T k).1 = ref) (q0 : Nat) (he : ws[q0]? = some (a, .inr (ci, fs))) (hv : fs[k]? = some v) (hdg : decode cc pc = .ok (.getfield index, 3))
    (kk : W p l e R s m args below meth c H locs cells slots Q (F0 m (pc + 3) ls (v :: rest))) : W p l e R s m args below meth c H locs cells slots Q (F0 m pc ls (.ref a :: rest)) :=
  va_get (ref := ref) S.1 S.2.1 S.2.2.2.2 (fun w h => List.mem_cons_of_mem _ (hin w h)) S.2.2.2.1 hE.1 hw.1 q0 he hc k hk (S.2.2.2.2 _ (List.mem_cons_of_mem _ hl)) (fun _ h => by rw [hT] at h; exact h) hv hdg kk
theorem tx_getN (S : CallFix p m c cc nL s args (kc :: allW) own) (hE : EN g A s) {a index ci : Nat} {C ref host : String} {T : u_T} {N : Nat} {fs : List Value} {v : Value} (hw : WD g A s.heap ws H locs) (k : Nat) (hin : ∀ w ∈ u_ws C T N, w ∈ allW) (hc : vwCl[ci]? = some (C, T, N)) (hk : k < N) (hl : Cond.fieldLinkNest own index ref (T k).2.1 (T k).2.2.1 host ∈ nestW) (hT : (T k).1 = ref) (q0 : Nat) (he : ws[q0]? = some (a, .inr (ci, fs))) (hv : fs[k]? = some v) (hdg : decode cc pc = .ok (.getfield index, 3))
    (kk : W p l e R s m args below meth c H locs cells slots Q (F0 m (pc + 3) ls (v :: rest))) : W p l e R s m args below meth c H locs cells slots Q (F0 m pc ls (.ref a :: rest)) :=
  va_getN (ref := ref) S.1 S.2.1 S.2.2.2.2 (fun w h => List.mem_cons_of_mem _ (hin w h)) S.2.2.2.1 hE.1 hw.1 q0 he hc k hk (tx_nw hE.2.2 hl rfl) (fun _ h => by rw [hT] at h; exact h) hv hdg kk
theorem tx_put (S : CallFix p m c cc nL s args (kc :: allW) own) (hE : EN g A s) {a index ci : Nat} {C ref : String} {T : u_T} {N : Nat} {ty0 : Nat → FieldType} {fs : List Value} {v : Value} {ty : FieldType} (hw : WD g A s.heap ws H locs) (k : Nat) (hin : ∀ w ∈ u_ws C T N, w ∈ allW) (hty : ∀ k, k < N → parseFieldDescriptor (T k).2.2.1 = some (ty0 k)) (hnm : ∀ a, a < N → ∀ b, b < N → a ≠ b → (T a).2.1 ≠ (T b).2.1) (hc : vwCl[ci]? = some (C, T, N)) (hk : k < N) (hl : Cond.fieldLink own index ref (T k).2.1 (T k).2.2.1 ∈ allW) (hT : (T k).1 = ref) (hfin : (T k).2.2.2 = false) (hd : parseFieldDescriptor (T k).2.2.1 = some ty)
    (hn : narrow ty v = v) (hfit : fits ty v = true) (q0 : Nat) (he : ws[q0]? = some (a, .inr (ci, fs))) (hlen : k < fs.length) (hws : ws.set q0 (a, .inr (ci, fs.set k v)) = ws') (hdg : decode cc pc = .ok (.putfield index, 3))
    (kk : ∀ (H1 : Heap) (locs1 : List Loc), WD g A s.heap ws' H1 locs1 → W p l e R s m args below meth c H1 locs1 cells slots Q (F0 m (pc + 3) ls rest)) : W p l e R s m args below meth c H locs cells slots Q (F0 m pc ls (v :: .ref a :: rest)) :=
  va_put (ref := ref) S.1 S.2.1 S.2.2.2.2 (fun w h => List.mem_cons_of_mem _ (hin w h)) ty0 hty hnm S.2.2.2.1 hE.1 hw.1 hw.2.1 hw.2.2 q0 he hc k hk (S.2.2.2.2 _ (List.mem_cons_of_mem _ hl)) (fun _ h => by rw [hT] at h; exact h) hfin hd hn hfit hlen hdg (fun H1 locs1 h1 h2 h3 => kk H1 locs1 (by rw [← hws]; exact ⟨h1, h2, h3⟩))
theorem tx_putN (S : CallFix p m c cc nL s args (kc :: allW) own) (hE : EN g A s) {a index ci : Nat} {C ref host : String} {T : u_T} {N : Nat} {ty0 : Nat → FieldType} {fs : List Value} {v : Value} {ty : FieldType} (hw : WD g A s.heap ws H locs) (k : Nat) (hin : ∀ w ∈ u_ws C T N, w ∈ allW) (hty : ∀ k, k < N → parseFieldDescriptor (T k).2.2.1 = some (ty0 k)) (hnm : ∀ a, a < N → ∀ b, b < N → a ≠ b → (T a).2.1 ≠ (T b).2.1) (hc : vwCl[ci]? = some (C, T, N)) (hk : k < N) (hl : Cond.fieldLinkNest own index ref (T k).2.1 (T k).2.2.1 host ∈ nestW) (hT : (T k).1 = ref) (hfin : (T k).2.2.2 = false) (hd : parseFieldDescriptor (T k).2.2.1 = some ty)
    (hn : narrow ty v = v) (hfit : fits ty v = true) (q0 : Nat) (he : ws[q0]? = some (a, .inr (ci, fs))) (hlen : k < fs.length) (hws : ws.set q0 (a, .inr (ci, fs.set k v)) = ws') (hdg : decode cc pc = .ok (.putfield index, 3))
    (kk : ∀ (H1 : Heap) (locs1 : List Loc), WD g A s.heap ws' H1 locs1 → W p l e R s m args below meth c H1 locs1 cells slots Q (F0 m (pc + 3) ls rest)) : W p l e R s m args below meth c H locs cells slots Q (F0 m pc ls (v :: .ref a :: rest)) :=
  va_putN (ref := ref) S.1 S.2.1 S.2.2.2.2 (fun w h => List.mem_cons_of_mem _ (hin w h)) ty0 hty hnm S.2.2.2.1 hE.1 hw.1 hw.2.1 hw.2.2 q0 he hc k hk (tx_nw hE.2.2 hl rfl) (fun _ h => by rw [hT] at h; exact h) hfin hd hn hfit hlen hdg (fun H1 locs1 h1 h2 h3 => kk H1 locs1 (by rw [← hws]; exact ⟨h1, h2, h3⟩))
/-! rows of arrays -/
theorem tx_iald (S : CallFix p m c cc nL s args Ts own) (hE : EN g A s) (hw : WD g A s.heap ws H locs) (q0 : Nat) {a n : Nat} {f : Nat → Int32} {i : Int32} (ha : ws[q0]? = some (a, .inl (g.2.1 1, n, .inl f))) (hin : vp_in i n) (hdg : decode cc pc = .ok (.iaload, 1))
    (kk : W p l e R s m args below meth c H locs cells slots Q (F0 m (pc + 1) ls (.int (f i.toNatClampNeg) :: rest))) : W p l e R s m args below meth c H locs cells slots Q (F0 m pc ls (.int i :: .ref a :: rest)) := va_iald S.1 S.2.1 hE.1 hw.1 q0 1 ha rfl hin hdg kk
theorem tx_bald (S : CallFix p m c cc nL s args Ts own) (hE : EN g A s) (hw : WD g A s.heap ws H locs) (q0 : Nat) {a n : Nat} {f : Nat → Int32} {i : Int32} (ha : ws[q0]? = some (a, .inl (g.2.1 0, n, .inl f))) (hin : vp_in i n) (hdg : decode cc pc = .ok (.baload, 1))
    (kk : W p l e R s m args below meth c H locs cells slots Q (F0 m (pc + 1) ls (.int (f i.toNatClampNeg) :: rest))) : W p l e R s m args below meth c H locs cells slots Q (F0 m pc ls (.int i :: .ref a :: rest)) := va_bald S.1 S.2.1 hE.1 hw.1 q0 0 ha rfl hin hdg kk
theorem tx_zald (S : CallFix p m c cc nL s args Ts own) (hE : EN g A s) (hw : WD g A s.heap ws H locs) (q0 : Nat) {a n : Nat} {f : Nat → Int32} {i : Int32} (ha : ws[q0]? = some (a, .inl (g.2.1 3, n, .inl f))) (hin : vp_in i n) (hdg : decode cc pc = .ok (.baload, 1))
    (kk : W p l e R s m args below meth c H locs cells slots Q (F0 m (pc + 1) ls (.int (f i.toNatClampNeg) :: rest))) : W p l e R s m args below meth c H locs cells slots Q (F0 m pc ls (.int i :: .ref a :: rest)) := va_zald S.1 S.2.1 hE.1 hw.1 q0 3 ha rfl hin hdg kk
theorem tx_lald (S : CallFix p m c cc nL s args Ts own) (hE : EN g A s) (hw : WD g A s.heap ws H locs) (q0 : Nat) {a n : Nat} {f : Nat → Int64} {i : Int32} (ha : ws[q0]? = some (a, .inl (g.2.1 2, n, .inr (.inl f)))) (hin : vp_in i n) (hdg : decode cc pc = .ok (.laload, 1))
    (kk : W p l e R s m args below meth c H locs cells slots Q (F0 m (pc + 1) ls (.long (f i.toNatClampNeg) :: rest))) : W p l e R s m args below meth c H locs cells slots Q (F0 m pc ls (.int i :: .ref a :: rest)) := va_lald S.1 S.2.1 hE.1 hw.1 q0 2 ha rfl hin hdg kk
theorem tx_iast (S : CallFix p m c cc nL s args Ts own) (hE : EN g A s) (hw : WD g A s.heap ws H locs) (q0 : Nat) {a n : Nat} {f : Nat → Int32} {i x : Int32} (ha : ws[q0]? = some (a, .inl (g.2.1 1, n, .inl f))) (hin : vp_in i n) (hws : ws.set q0 (a, .inl (g.2.1 1, n, .inl (upd f i.toNatClampNeg x))) = ws') (hdg : decode cc pc = .ok (.iastore, 1))
    (kk : ∀ (H1 : Heap) (locs1 : List Loc), WD g A s.heap ws' H1 locs1 → W p l e R s m args below meth c H1 locs1 cells slots Q (F0 m (pc + 1) ls rest)) : W p l e R s m args below meth c H locs cells slots Q (F0 m pc ls (.int x :: .int i :: .ref a :: rest)) :=
  va_iast S.1 S.2.1 hE.1 hw.1 hw.2.1 hw.2.2 q0 1 ha rfl hin hdg (fun H1 locs1 h1 h2 h3 => kk H1 locs1 (by rw [← hws]; exact ⟨h1, h2, h3⟩))
theorem tx_bast (S : CallFix p m c cc nL s args Ts own) (hE : EN g A s) (hw : WD g A s.heap ws H locs) (q0 : Nat) {a n : Nat} {f : Nat → Int32} {i x : Int32} (ha : ws[q0]? = some (a, .inl (g.2.1 0, n, .inl f))) (hin : vp_in i n) (hws : ws.set q0 (a, .inl (g.2.1 0, n, .inl (upd f i.toNatClampNeg x.toInt8.toInt32))) = ws') (hdg : decode cc pc = .ok (.bastore, 1))
    (kk : ∀ (H1 : Heap) (locs1 : List Loc), WD g A s.heap ws' H1 locs1 → W p l e R s m args below meth c H1 locs1 cells slots Q (F0 m (pc + 1) ls rest)) : W p l e R s m args below meth c H locs cells slots Q (F0 m pc ls (.int x :: .int i :: .ref a :: rest)) :=
  va_bast S.1 S.2.1 hE.1 hw.1 hw.2.1 hw.2.2 q0 0 ha rfl hin hdg (fun H1 locs1 h1 h2 h3 => kk H1 locs1 (by rw [← hws]; exact ⟨h1, h2, h3⟩))
theorem tx_zast (S : CallFix p m c cc nL s args Ts own) (hE : EN g A s) (hw : WD g A s.heap ws H locs) (q0 : Nat) {a n : Nat} {f : Nat → Int32} {i x : Int32} (ha : ws[q0]? = some (a, .inl (g.2.1 3, n, .inl f))) (hin : vp_in i n) (hws : ws.set q0 (a, .inl (g.2.1 3, n, .inl (upd f i.toNatClampNeg (x &&& 1)))) = ws') (hdg : decode cc pc = .ok (.bastore, 1))
    (kk : ∀ (H1 : Heap) (locs1 : List Loc), WD g A s.heap ws' H1 locs1 → W p l e R s m args below meth c H1 locs1 cells slots Q (F0 m (pc + 1) ls rest)) : W p l e R s m args below meth c H locs cells slots Q (F0 m pc ls (.int x :: .int i :: .ref a :: rest)) :=
  va_zast S.1 S.2.1 hE.1 hw.1 hw.2.1 hw.2.2 q0 3 ha rfl hin hdg (fun H1 locs1 h1 h2 h3 => kk H1 locs1 (by rw [← hws]; exact ⟨h1, h2, h3⟩))
theorem tx_last (S : CallFix p m c cc nL s args Ts own) (hE : EN g A s) (hw : WD g A s.heap ws H locs) (q0 : Nat) {a n : Nat} {f : Nat → Int64} {i : Int32} {x : Int64} (ha : ws[q0]? = some (a, .inl (g.2.1 2, n, .inr (.inl f)))) (hin : vp_in i n) (hws : ws.set q0 (a, .inl (g.2.1 2, n, .inr (.inl (vp_updL f i.toNatClampNeg x)))) = ws') (hdg : decode cc pc = .ok (.lastore, 1))
    (kk : ∀ (H1 : Heap) (locs1 : List Loc), WD g A s.heap ws' H1 locs1 → W p l e R s m args below meth c H1 locs1 cells slots Q (F0 m (pc + 1) ls rest)) : W p l e R s m args below meth c H locs cells slots Q (F0 m pc ls (.long x :: .int i :: .ref a :: rest)) :=
  va_last S.1 S.2.1 hE.1 hw.1 hw.2.1 hw.2.2 q0 2 ha rfl hin hdg (fun H1 locs1 h1 h2 h3 => kk H1 locs1 (by rw [← hws]; exact ⟨h1, h2, h3⟩))
theorem tx_alen (S : CallFix p m c cc nL s args Ts own) (hE : EN g A s) (hw : WD g A s.heap ws H locs) (q0 t0 : Nat) {a : Nat} {cA : ClassId} {x : vp_A} {ty : FieldType} {v : Int32} (ha : ws[q0]? = some (a, .inl (cA, x))) (ht : (tx_tys g)[t0]? = some (cA, ty)) (hv : Int32.ofNat x.1 = v) (hdg : decode cc pc = .ok (.arraylength, 1))
    (kk : W p l e R s m args below meth c H locs cells slots Q (F0 m (pc + 1) ls (.int v :: rest))) : W p l e R s m args below meth c H locs cells slots Q (F0 m pc ls (.ref a :: rest)) := va_alen S.1 S.2.1 hE.1 hw.1 q0 t0 ha ht hv hdg kk
/-! calls -/
def LKd (y : MethodName) (n : Nat) : Prop := y.cls ≠ "java/lang/invoke/MethodHandle" ∧ y.cls ≠ "java/lang/invoke/VarHandle" ∧ (parseMethodDescriptor y.desc).map (fun d => d.parameters.length) = some n
def LKV (own : String) (index : Nat) (y : MethodName) (bytes : ByteArray) (maxL : Nat) (ret : Option FieldType) (n : Nat) : Prop :=
  Cond.methodLink own index y ∈ allW ∧ Cond.code y bytes maxL ret ∈ allW ∧ Cond.initialized y.cls ∈ allW ∧ LKd y n ∧ Cond.instanceMethod y ∈ allW ∧ Cond.selects y.cls y y ∈ allW
def LKN (own : String) (index : Nat) (y : MethodName) (bytes : ByteArray) (maxL : Nat) (ret : Option FieldType) (n : Nat) : Prop :=
  Cond.methodLinkNest own index y "ThoughtTax" ∈ nestW ∧ Cond.code y bytes maxL ret ∈ allW ∧ Cond.initialized y.cls ∈ allW ∧ LKd y n ∧ Cond.instanceMethod y ∈ allW ∧ Cond.selects y.cls y y ∈ allW
def LKS (own : String) (index : Nat) (y : MethodName) (bytes : ByteArray) (maxL : Nat) (ret : Option FieldType) (n : Nat) : Prop :=
  Cond.methodLink own index y ∈ allW ∧ Cond.code y bytes maxL ret ∈ allW ∧ Cond.initialized y.cls ∈ allW ∧ LKd y n ∧ Cond.static y ∈ allW
theorem allW_good {w : Cond} (h : w ∈ allW) : (w.onTables && w.keeps) = true ∨ ∃ ty, w = .arrayClass ty := good_of_word (List.mem_filter.mp h).2
theorem tx_goodIn {y : MethodName} {bytes : ByteArray} {maxL : Nat} {ret : Option FieldType} (hc : Cond.code y bytes maxL ret ∈ allW) : GoodIn (kc :: allW) (Cond.code y bytes maxL ret :: allW) := by
  intro w hw
  rcases List.mem_cons.mp hw with rfl | h
  · exact ⟨List.mem_cons_of_mem _ hc, allW_good hc⟩
  · exact ⟨List.mem_cons_of_mem _ h, allW_good h⟩
theorem tx_PRE (hE : EN g A s) (hw : WD g A s.heap ws H locs) {av : List Value} : ∀ U : State, U.heap = H → s.WarmedH U.vm → va_Pc av (PRE g A ws) av.toArray U := by
  intro U hU hW
  refine ⟨rfl, by rw [hU]; exact hw.1, hw.2.1, hE.moved hW.alike (hE.2.2.warm hW) (fun a h1 h2 => ?_)⟩
  rw [hU]
  exact hw.2.2.2.1 a h1 h2
theorem tx_runV {y : MethodName} {bytes : ByteArray} {maxL index h n ci q0 : Nat} {ret : Option FieldType} {Qc : Array Value → State → Outcome → State → Prop} {b : Nat} {As : List Value} {T : u_T} {N : Nat} {fs : List Value}
    (S : CallFix p m c cc nL s args (kc :: allW) own) (hE : EN g A s) (hw : WD g A s.heap ws H locs) (hM : Met l y (Cond.code y bytes maxL ret :: allW) (rmH h) (va_Pc (.ref b :: As) (PRE g A ws)) Qc 0 0 A) (k : LKV own index y bytes maxL ret n) (hc : vwCl[ci]? = some (y.cls, T, N)) (he : ws[q0]? = some (b, .inr (ci, fs)))
    (hn : As.length = n) (hsize : ls.size = nL) (hstack : st0 = As.reverse ++ .ref b :: rest) (hW : (rest.map fun v => v.category).sum ≤ 8) (hR : h + 1 ≤ R.frames ∧ 8 + (maxL + 11) + 40 * h ≤ R.locals) (hdg : decode cc pc = .ok (.invokevirtual index, 3)) (hf : cells ≤ R.cells ∧ slots ≤ R.slots) :
    va_Run p l e R s m args below meth c H locs cells slots 0 0 (F0 m pc ls st0) rest (Qc (Value.ref b :: As).toArray) A := by
  obtain ⟨k1, k2, k3, k4, k5, k6⟩ := k
  have tt : ∀ w ∈ allW, w.before args s = true := fun w h => S.2.2.2.2 w (List.mem_cons_of_mem _ h)
  exact va_runV (C := y.cls) S hM ⟨callB_of n S.2.2.2.2 (tx_goodIn k2) rfl rfl rfl (tt _ k3) (tt _ k1) k4 hR, tt _ k5, tt _ k6⟩ ⟨tx_blind, va_recv hE.1 hw.1 hc he, tx_PRE hE hw⟩ rfl hn hsize hstack (lv_room hW) hdg hf
theorem tx_runN {y : MethodName} {bytes : ByteArray} {maxL index h n ci q0 : Nat} {ret : Option FieldType} {Qc : Array Value → State → Outcome → State → Prop} {b : Nat} {As : List Value} {T : u_T} {N : Nat} {fs : List Value}
    (S : CallFix p m c cc nL s args (kc :: allW) own) (hE : EN g A s) (hw : WD g A s.heap ws H locs) (hM : Met l y (Cond.code y bytes maxL ret :: allW) (rmH h) (va_Pc (.ref b :: As) (PRE g A ws)) Qc 0 0 A) (k : LKN own index y bytes maxL ret n) (hc : vwCl[ci]? = some (y.cls, T, N)) (he : ws[q0]? = some (b, .inr (ci, fs)))
    (hn : As.length = n) (hsize : ls.size = nL) (hstack : st0 = As.reverse ++ .ref b :: rest) (hW : (rest.map fun v => v.category).sum ≤ 8) (hR : h + 1 ≤ R.frames ∧ 8 + (maxL + 11) + 40 * h ≤ R.locals) (hdg : decode cc pc = .ok (.invokevirtual index, 3)) (hf : cells ≤ R.cells ∧ slots ≤ R.slots) :
    va_Run p l e R s m args below meth c H locs cells slots 0 0 (F0 m pc ls st0) rest (Qc (Value.ref b :: As).toArray) A := by
  obtain ⟨k1, k2, k3, k4, k5, k6⟩ := k
  have tt : ∀ w ∈ allW, w.before args s = true := fun w h => S.2.2.2.2 w (List.mem_cons_of_mem _ h)
  exact va_runVN (C := y.cls) (host := "ThoughtTax") S hM ⟨va_cnB n S.2.2.2.2 (tx_goodIn k2) rfl rfl rfl (hE.2.2 _ k1) (tt _ k3) k4 hR, tt _ k5, tt _ k6⟩ ⟨tx_blind, va_recv hE.1 hw.1 hc he, tx_PRE hE hw⟩ rfl hn hsize hstack (lv_room hW) hdg hf
theorem tx_runS {y : MethodName} {bytes : ByteArray} {maxL index h n : Nat} {ret : Option FieldType} {Qc : Array Value → State → Outcome → State → Prop} {As : List Value}
    (S : CallFix p m c cc nL s args (kc :: allW) own) (hE : EN g A s) (hw : WD g A s.heap ws H locs) (hM : Met l y (Cond.code y bytes maxL ret :: allW) (rmH h) (va_Pc As (PRE g A ws)) Qc 0 0 A) (k : LKS own index y bytes maxL ret n)
    (hn : As.length = n) (hsize : ls.size = nL) (hstack : st0 = As.reverse ++ rest) (hW : (rest.map fun v => v.category).sum ≤ 8) (hR : h + 1 ≤ R.frames ∧ 8 + (maxL + 11) + 40 * h ≤ R.locals) (hdg : decode cc pc = .ok (.invokestatic index, 3)) (hf : cells ≤ R.cells ∧ slots ≤ R.slots) :
    va_Run p l e R s m args below meth c H locs cells slots 0 0 (F0 m pc ls st0) rest (Qc As.toArray) A := by
  obtain ⟨k1, k2, k3, k4, k5⟩ := k
  have tt : ∀ w ∈ allW, w.before args s = true := fun w h => S.2.2.2.2 w (List.mem_cons_of_mem _ h)
  exact va_runS S hM ⟨callB_of n S.2.2.2.2 (tx_goodIn k2) rfl rfl rfl (tt _ k3) (tt _ k1) k4 hR, tt _ k5⟩ ⟨tx_blind, tx_PRE hE hw⟩ rfl hn hsize hstack (lv_room hW) hdg hf
theorem tx_ci {r : Int32} {a : Array Value} (hw : WD g A s.heap ws H locs) (hr : va_Run p l e R s m args below meth c H locs cells slots 0 0 (F0 m pc ls st0) rest (va_Qi (fun r2 (_ : Unit) => r2 = r) (fun _ t => POST g A ws' t) A a) A)
    (kk : ∀ (H1 : Heap) (locs1 : List Loc), WD g A s.heap ws' H1 locs1 → W p l e R s m args below meth c H1 locs1 cells slots Q (F0 m (pc + 3) ls (.int r :: rest))) : W p l e R s m args below meth c H locs cells slots Q (F0 m pc ls st0) :=
  va_calli hr hw.2.2 (fun _ _ h => h) (fun _ h => h) (fun r2 _ t H1 locs1 ht _ hp hB _ _ hS => by
    subst hp
    exact kk H1 locs1 ⟨by rw [← ht]; exact hB.1, hB.2, hS⟩)
theorem tx_cl {r : Int64} {a : Array Value} (hw : WD g A s.heap ws H locs) (hr : va_Run p l e R s m args below meth c H locs cells slots 0 0 (F0 m pc ls st0) rest (va_Ql (fun r2 (_ : Unit) => r2 = r) (fun _ t => POST g A ws' t) A a) A)
    (kk : ∀ (H1 : Heap) (locs1 : List Loc), WD g A s.heap ws' H1 locs1 → W p l e R s m args below meth c H1 locs1 cells slots Q (F0 m (pc + 3) ls (.long r :: rest))) : W p l e R s m args below meth c H locs cells slots Q (F0 m pc ls st0) :=
  va_calll hr hw.2.2 (fun _ _ h => h) (fun _ h => h) (fun r2 _ t H1 locs1 ht _ hp hB _ _ hS => by
    subst hp
    exact kk H1 locs1 ⟨by rw [← ht]; exact hB.1, hB.2, hS⟩)
theorem tx_cv {a : Array Value} (hw : WD g A s.heap ws H locs) (hr : va_Run p l e R s m args below meth c H locs cells slots 0 0 (F0 m pc ls st0) rest (va_Qv (fun (_ : Unit) => True) (fun _ t => POST g A ws' t) A a) A)
    (kk : ∀ (H1 : Heap) (locs1 : List Loc), WD g A s.heap ws' H1 locs1 → W p l e R s m args below meth c H1 locs1 cells slots Q (F0 m (pc + 3) ls rest)) : W p l e R s m args below meth c H locs cells slots Q (F0 m pc ls st0) :=
  va_callv hr hw.2.2 (fun _ _ h => h) (fun _ h => h) (fun _ t H1 locs1 ht _ _ hB _ _ hS => kk H1 locs1 ⟨by rw [← ht]; exact hB.1, hB.2, hS⟩)
end TXR
