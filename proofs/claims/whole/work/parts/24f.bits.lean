/-! bits of a row of thoughts -/
def isB (y : Int32) (u : Nat) : Prop := ((y >>> (nI u &&& 31)) &&& (1 : Int32)) = (1 : Int32)
theorem and31 {u : Nat} (hu : u < 32) : nI u &&& 31 = nI u := by
  rw [pk_andN (by omega) 5 (by decide), Nat.mod_eq_of_lt (by omega)]
theorem bv1 (x : BitVec 32) : x &&& 1#32 = 1#32 ↔ x.getLsbD 0 = true := by
  constructor
  · intro h
    have := congrArg (fun z => z.getLsbD 0) h
    simpa using this
  · intro h
    apply BitVec.eq_of_getLsbD_eq
    intro i hi
    by_cases h0 : i = 0
    · subst h0; simp [h]
    · simp [BitVec.getLsbD_one, h0]
theorem isB_iff (y : Int32) {u : Nat} (hu : u < 32) : isB y u ↔ y.toBitVec.getLsbD u = true := by
  unfold isB
  rw [and31 hu]
  have hs : ((nI u).toBitVec.smod 32).toNat = u := by
    have h1 : (nI u).toBitVec = BitVec.ofNat 32 u := rfl
    rw [h1]
    have : ∀ u, u < 32 → ((BitVec.ofNat 32 u).smod 32).toNat = u := by decide
    exact this u hu
  have e : (y >>> nI u).toBitVec = y.toBitVec.sshiftRight u := by
    rw [Int32.toBitVec_shiftRight]
    show y.toBitVec.sshiftRight ((nI u).toBitVec.smod 32).toNat = _
    rw [hs]
  rw [← Int32.toBitVec_inj, Int32.toBitVec_and, e]
  show _ &&& 1#32 = 1#32 ↔ _
  rw [bv1, BitVec.getLsbD_sshiftRight]
  simp [hu]
theorem isB_0 {u : Nat} (hu : u < 32) : ¬ isB 0 u := by
  rw [isB_iff _ hu]
  simp
theorem isB_or (y : Int32) {u t : Nat} (hu : u < 32) (ht : t < 32) : isB (y ||| ((1 : Int32) <<< (nI t &&& 31))) u ↔ isB y u ∨ u = t := by
  rw [isB_iff _ hu, isB_iff _ hu, and31 ht]
  have hs : ((nI t).toBitVec.smod 32).toNat = t := by
    have h1 : (nI t).toBitVec = BitVec.ofNat 32 t := rfl
    rw [h1]
    have : ∀ u, u < 32 → ((BitVec.ofNat 32 u).smod 32).toNat = u := by decide
    exact this t ht
  have e : ((1 : Int32) <<< nI t).toBitVec = (1#32) <<< t := by
    rw [Int32.toBitVec_shiftLeft]
    show (1#32) <<< ((nI t).toBitVec.smod 32).toNat = _
    rw [hs]
  rw [Int32.toBitVec_or, e, BitVec.getLsbD_or, Bool.or_eq_true, BitVec.getLsbD_shiftLeft]
  constructor
  · rintro (h | h)
    · exact Or.inl h
    · right
      simp [BitVec.getLsbD_one] at h
      omega
  · rintro (h | h)
    · exact Or.inl h
    · right
      subst h
      simp [hu]
