def SPall (RR : RRt) (fu : Nat) : Prop := SP0 RR fu ∧ SP1 RR fu ∧ SP2 RR fu ∧ SP3 RR fu ∧ SP5 RR fu ∧ SP6 RR fu ∧ SP7 RR fu ∧ SP8 RR fu ∧ SP9 RR fu ∧ SP10 RR fu ∧ SP11 RR fu ∧ SP12 RR fu ∧ SP13 RR fu ∧ SP14 RR fu ∧ SP15 RR fu ∧ SP16 RR fu ∧ SP17 RR fu ∧ SP18 RR fu ∧ SP19 RR fu ∧ SP20 RR fu ∧ SP21 RR fu ∧ SP22 RR fu ∧ SP23 RR fu ∧ SP24 RR fu ∧ SP25 RR fu ∧ SP26 RR fu ∧ SP27 RR fu ∧ SP28 RR fu ∧ SP29 RR fu ∧ SP30 RR fu ∧ SP31 RR fu ∧ SP32 RR fu ∧ SP33t RR fu ∧ SP33f RR fu ∧ SP34 RR fu ∧ SP35 RR fu ∧ SP36 RR fu ∧ SP37 RR fu ∧ SP38 RR fu ∧ SP39 RR fu ∧ SP40 RR fu ∧ SP41 RR fu ∧ SP42 RR fu
def lawT (RR : RRt) (p : Program) (l : Launch) (e : Env) (s : State) (m : MethodId) (below : List Frame) (meth : Method) (c : Code) (g : GG) (b qo i pc : Nat) : Prop := ∀ (a : Nat → Nat → Nat) (q : Nat → Nat) (U : Nat → S32) (V : Nat → S64) (fo : Nat → Int64) (H : Heap) (locs : List Loc) (ls : Array Slot) (cells slots : Nat), RR (lawK a) q U V → WD g (fun q : Nat => s.heap.size ≤ q) s.heap (lawW g a q U V (lawO g qo fo)) H locs → lv_has ls 7 [(0, .ref b), (1, .ref (a 0 0)), (2, .ref (a 19 0)), (3, .ref qo), (4, .int (nI i))] → cells ≤ 206 + i → slots ≤ 6012 + 2 * i → W p l e room_1 s m #[Value.ref b] below meth c H locs cells slots (lw_Z below #[Value.ref b] s) (F0 m pc ls [])
def law4 (RR : RRt) (p : Program) (l : Launch) (e : Env) (s : State) (m : MethodId) (below : List Frame) (meth : Method) (c : Code) (g : GG) (b qo L : Nat) : Prop := ∀ i : Nat, i + 6 ≤ L → lawT RR p l e s m below meth c g b qo i 1567 → lawN RR p l e s m below meth c g b qo i 388
theorem law_ix {i L : Nat} (hL : L ≤ 3072) (h : i + 6 ≤ L) (k : Nat) (hk : k ≤ 5) : vp_in (nI i + nI k) L := by
  rw [nI_add]
  exact vp_in_nI (by omega) (by omega)
theorem law_gt {i L : Nat} (hL : L ≤ 3072) (hi : i ≤ L + 6) : (nI L - nI 6 < nI i) ↔ ¬ i + 6 ≤ L := by
  rw [Int32.lt_iff_toInt_lt, pk_sub_toInt (by omega) (by omega), nI_toInt (by omega)]
  omega
set_option maxHeartbeats 8000000 in
set_option maxRecDepth 100000 in
theorem law_loop {p : Program} {l : Launch} {e : Env} {s : State} {m : MethodId} {below : List Frame} {meth : Method} {c : Code} {g : GG} {fu b L qo : Nat} {xs : Nat → Int32} {kc : Cond} (S : CallFix p m c code 7 s #[Value.ref b] (kc :: allW) RL) (hr : meth.sig.returnType = ret) (hlk : meth.locks = false) (hE : EN g (fun q : Nat => s.heap.size ≤ q) s) (hX : va_X b L xs s s.heap) (hbl : b < s.heap.size) (hL : L ≤ 3072) (RR : RRt) (sp : SPall RR fu) (s4 : law4 RR p l e s m below meth c g b qo L) : ∀ n i : Nat, i ≤ L + 6 → L + 7 ≤ i + n → lawN RR p l e s m below meth c g b qo i 23 := by
  obtain ⟨p0, p1, p2, p3, p5, p6, p7, p8, p9, p10, p11, p12, p13, p14, p15, p16, p17, p18, p19, p20, p21, p22, p23, p24, p25, p26, p27, p28, p29, p30, p31, p32, p33t, p33f, p34, p35, p36, p37, p38, p39, p40, p41, p42⟩ := sp
  have hx := S.1
  have hb := S.2.1
  intro n
  induction n with
  | zero => intro i h1 h2; exact absurd h2 (by omega)
  | succ n ih =>
    intro i hi hn
    have kt : i + 6 ≤ L → lawT RR p l e s m below meth c g b qo i 1567 := by
      intro h6 a q U V fo H locs ls cells slots hR hw hl hc hs
      refine lv_iinc (v := nI (i + 6)) (lv' := [(4, .int (nI (i + 6))), (0, .ref b), (1, .ref (a 0 0)), (2, .ref (a 19 0)), (3, .ref qo)]) hx hb dL_law_1567 hl (k := 4) rfl (nI_add i 6) (by decide) rfl (fun ls hl => ?_)
      refine lv_goto (tgt := 23) hx hb dL_law_1570 (by decide) ?_
      exact ih (i + 6) (by omega) (by omega) a q U V fo H locs ls cells slots hR hw (lv_sub hl [1, 2, 3, 4, 0] rfl) (by omega) (by omega)
    have kk : i + 6 ≤ L → lawN RR p l e s m below meth c g b qo i 1567 := fun h6 a q U V fo H locs ls cells slots hR hw hl hc hs => kt h6 a q U V fo H locs ls cells slots hR hw hl (by omega) (by omega)
    intro a q U V fo H locs ls cells slots hR hw hl hc hs
    refine lv_iload hx hb dL_law_23 (lv_at hl 4 rfl) ?_
    refine lv_aload_n hx hb dL_law_25 rfl (lv_at hl 0 rfl) ?_
    refine va_slen hx hb hX hbl (Nat.not_le.mpr hbl) hw.2.2 dL_law_26 ?_
    refine lv_bipush (v := 6) hx hb dL_law_27 (by decide) ?_
    refine lv_isub hx hb dL_law_29 ?_
    refine lv_icmp_gt (tgt := 1573) hx hb dL_law_30 (by decide) (fun h => ?_) (fun h => ?_)
    · refine lv_iconst (v := 1) hx hb dL_law_1573 (by decide) ?_
      refine va_forget (fun q hq => hw.2.2.2.2 q hq) ?_
      refine W.widen (k := 601024) (n := 7293034) (by omega) (by omega) ?_
      exact lw_ret hx hb hr hlk dL_law_1574
    · have h6 : i + 6 ≤ L := Decidable.not_not.mp (fun z => h ((law_gt hL hi).mpr z))
      have hi0 : vp_in (nI i) L := vp_in_nI (by omega) (by omega)
      have hi1 : vp_in (nI i + (1 : Int32)) L := law_ix hL h6 1 (by decide)
      have hi2 : vp_in (nI i + (2 : Int32)) L := law_ix hL h6 2 (by decide)
      have hi3 : vp_in (nI i + (3 : Int32)) L := law_ix hL h6 3 (by decide)
      have hi4 : vp_in (nI i + (4 : Int32)) L := law_ix hL h6 4 (by decide)
      have hi5 : vp_in (nI i + (5 : Int32)) L := law_ix hL h6 5 (by decide)
      have kt := kt h6
      have kk := kk h6
      have hi9 : i ≤ 3072 := by omega
      refine lv_aload_n hx hb dL_law_33 rfl (lv_at hl 0 rfl) ?_
      refine lv_iload hx hb dL_law_34 (lv_at hl 4 rfl) ?_
      refine va_sld hx hb hX hbl (Nat.not_le.mpr hbl) hw.2.2 hi0 dL_law_36 ?_
      refine lv_bipush (v := 63) hx hb dL_law_37 (by decide) ?_
      refine lv_iand hx hb dL_law_39 ?_
      refine lv_topi (fun x hx9 => ?_)
      clear hx9
      by_cases h0 : x = (0 : Int32)
      · refine lv_tableIn (off := 188) (tgt := 228) hx hb dL_law_40 (by rw [h0]; decide) (by rw [h0]; decide) (by rw [h0]; rfl) (by decide) ?_
        exact law_s0 S hr hlk hE hX hbl hL RR p0 hi9 hi1 hi2 hi3 hi4 hi5 kk a q U V fo H locs ls cells slots hR hw hl hc hs
      by_cases h1 : x = (1 : Int32)
      · refine lv_tableIn (off := 261) (tgt := 301) hx hb dL_law_40 (by rw [h1]; decide) (by rw [h1]; decide) (by rw [h1]; rfl) (by decide) ?_
        exact law_s1 S hr hlk hE hX hbl hL RR p1 hi9 hi1 kk a q U V fo H locs ls cells slots hR hw hl hc hs
      by_cases h2 : x = (2 : Int32)
      · refine lv_tableIn (off := 286) (tgt := 326) hx hb dL_law_40 (by rw [h2]; decide) (by rw [h2]; decide) (by rw [h2]; rfl) (by decide) ?_
        exact law_s2 S hr hlk hE hX hbl hL RR p2 hi9 hi1 kk a q U V fo H locs ls cells slots hR hw hl hc hs
      by_cases h3 : x = (3 : Int32)
      · refine lv_tableIn (off := 311) (tgt := 351) hx hb dL_law_40 (by rw [h3]; decide) (by rw [h3]; decide) (by rw [h3]; rfl) (by decide) ?_
        exact law_s3 S hr hlk hE hX hbl hL RR p3 hi9 hi1 hi2 kk a q U V fo H locs ls cells slots hR hw hl hc hs
      by_cases h4 : x = (4 : Int32)
      · refine lv_tableIn (off := 348) (tgt := 388) hx hb dL_law_40 (by rw [h4]; decide) (by rw [h4]; decide) (by rw [h4]; rfl) (by decide) ?_
        exact s4 i h6 kt a q U V fo H locs ls cells slots hR hw hl hc hs
      by_cases h5 : x = (5 : Int32)
      · refine lv_tableIn (off := 416) (tgt := 456) hx hb dL_law_40 (by rw [h5]; decide) (by rw [h5]; decide) (by rw [h5]; rfl) (by decide) ?_
        exact law_s5 S hr hlk hE hX hbl hL RR p5 hi9 hi1 hi2 kk a q U V fo H locs ls cells slots hR hw hl hc hs
      by_cases h6 : x = (6 : Int32)
      · refine lv_tableIn (off := 453) (tgt := 493) hx hb dL_law_40 (by rw [h6]; decide) (by rw [h6]; decide) (by rw [h6]; rfl) (by decide) ?_
        exact law_s6 S hr hlk hE hX hbl hL RR p6 hi9 hi1 hi2 kk a q U V fo H locs ls cells slots hR hw hl hc hs
      by_cases h7 : x = (7 : Int32)
      · refine lv_tableIn (off := 490) (tgt := 530) hx hb dL_law_40 (by rw [h7]; decide) (by rw [h7]; decide) (by rw [h7]; rfl) (by decide) ?_
        exact law_s7 S hr hlk hE hX hbl hL RR p7 hi9 hi1 hi2 kk a q U V fo H locs ls cells slots hR hw hl hc hs
      by_cases h8 : x = (8 : Int32)
      · refine lv_tableIn (off := 528) (tgt := 568) hx hb dL_law_40 (by rw [h8]; decide) (by rw [h8]; decide) (by rw [h8]; rfl) (by decide) ?_
        exact law_s8 S hr hlk hE hX hbl hL RR p8 hi9 hi1 hi2 kk a q U V fo H locs ls cells slots hR hw hl hc hs
      by_cases h9 : x = (9 : Int32)
      · refine lv_tableIn (off := 565) (tgt := 605) hx hb dL_law_40 (by rw [h9]; decide) (by rw [h9]; decide) (by rw [h9]; rfl) (by decide) ?_
        exact law_s9 S hr hlk hE hX hbl hL RR p9 hi9 hi1 hi2 kk a q U V fo H locs ls cells slots hR hw hl hc hs
      by_cases h10 : x = (10 : Int32)
      · refine lv_tableIn (off := 602) (tgt := 642) hx hb dL_law_40 (by rw [h10]; decide) (by rw [h10]; decide) (by rw [h10]; rfl) (by decide) ?_
        exact law_s10 S hr hlk hE hX hbl hL RR p10 hi9 hi1 hi2 kk a q U V fo H locs ls cells slots hR hw hl hc hs
      by_cases h11 : x = (11 : Int32)
      · refine lv_tableIn (off := 639) (tgt := 679) hx hb dL_law_40 (by rw [h11]; decide) (by rw [h11]; decide) (by rw [h11]; rfl) (by decide) ?_
        exact law_s11 S hr hlk hE hX hbl hL RR p11 hi9 hi1 kk a q U V fo H locs ls cells slots hR hw hl hc hs
      by_cases h12 : x = (12 : Int32)
      · refine lv_tableIn (off := 664) (tgt := 704) hx hb dL_law_40 (by rw [h12]; decide) (by rw [h12]; decide) (by rw [h12]; rfl) (by decide) ?_
        exact law_s12 S hr hlk hE hX hbl hL RR p12 hi9 hi1 kk a q U V fo H locs ls cells slots hR hw hl hc hs
      by_cases h13 : x = (13 : Int32)
      · refine lv_tableIn (off := 689) (tgt := 729) hx hb dL_law_40 (by rw [h13]; decide) (by rw [h13]; decide) (by rw [h13]; rfl) (by decide) ?_
        exact law_s13 S hr hlk hE hX hbl hL RR p13 hi9 hi1 hi2 kk a q U V fo H locs ls cells slots hR hw hl hc hs
      by_cases h14 : x = (14 : Int32)
      · refine lv_tableIn (off := 726) (tgt := 766) hx hb dL_law_40 (by rw [h14]; decide) (by rw [h14]; decide) (by rw [h14]; rfl) (by decide) ?_
        exact law_s14 S hr hlk hE hX hbl hL RR p14 hi9 hi1 kk a q U V fo H locs ls cells slots hR hw hl hc hs
      by_cases h15 : x = (15 : Int32)
      · refine lv_tableIn (off := 751) (tgt := 791) hx hb dL_law_40 (by rw [h15]; decide) (by rw [h15]; decide) (by rw [h15]; rfl) (by decide) ?_
        exact law_s15 S hr hlk hE hX hbl hL RR p15 hi9 hi1 kk a q U V fo H locs ls cells slots hR hw hl hc hs
      by_cases h16 : x = (16 : Int32)
      · refine lv_tableIn (off := 776) (tgt := 816) hx hb dL_law_40 (by rw [h16]; decide) (by rw [h16]; decide) (by rw [h16]; rfl) (by decide) ?_
        exact law_s16 S hr hlk hE hX hbl hL RR p16 hi9 hi1 hi2 kk a q U V fo H locs ls cells slots hR hw hl hc hs
      by_cases h17 : x = (17 : Int32)
      · refine lv_tableIn (off := 813) (tgt := 853) hx hb dL_law_40 (by rw [h17]; decide) (by rw [h17]; decide) (by rw [h17]; rfl) (by decide) ?_
        exact law_s17 S hr hlk hE hX hbl hL RR p17 hi9 hi1 hi2 kk a q U V fo H locs ls cells slots hR hw hl hc hs
      by_cases h18 : x = (18 : Int32)
      · refine lv_tableIn (off := 850) (tgt := 890) hx hb dL_law_40 (by rw [h18]; decide) (by rw [h18]; decide) (by rw [h18]; rfl) (by decide) ?_
        exact law_s18 S hr hlk hE hX hbl hL RR p18 hi9 kk a q U V fo H locs ls cells slots hR hw hl hc hs
      by_cases h19 : x = (19 : Int32)
      · refine lv_tableIn (off := 863) (tgt := 903) hx hb dL_law_40 (by rw [h19]; decide) (by rw [h19]; decide) (by rw [h19]; rfl) (by decide) ?_
        exact law_s19 S hr hlk hE hX hbl hL RR p19 hi9 hi1 hi2 hi3 kk a q U V fo H locs ls cells slots hR hw hl hc hs
      by_cases h20 : x = (20 : Int32)
      · refine lv_tableIn (off := 912) (tgt := 952) hx hb dL_law_40 (by rw [h20]; decide) (by rw [h20]; decide) (by rw [h20]; rfl) (by decide) ?_
        exact law_s20 S hr hlk hE hX hbl hL RR p20 hi9 hi1 kk a q U V fo H locs ls cells slots hR hw hl hc hs
      by_cases h21 : x = (21 : Int32)
      · refine lv_tableIn (off := 937) (tgt := 977) hx hb dL_law_40 (by rw [h21]; decide) (by rw [h21]; decide) (by rw [h21]; rfl) (by decide) ?_
        exact law_s21 S hr hlk hE hX hbl hL RR p21 hi9 kk a q U V fo H locs ls cells slots hR hw hl hc hs
      by_cases h22 : x = (22 : Int32)
      · refine lv_tableIn (off := 950) (tgt := 990) hx hb dL_law_40 (by rw [h22]; decide) (by rw [h22]; decide) (by rw [h22]; rfl) (by decide) ?_
        exact law_s22 S hr hlk hE hX hbl hL RR p22 hi9 hi1 kk a q U V fo H locs ls cells slots hR hw hl hc hs
      by_cases h23 : x = (23 : Int32)
      · refine lv_tableIn (off := 975) (tgt := 1015) hx hb dL_law_40 (by rw [h23]; decide) (by rw [h23]; decide) (by rw [h23]; rfl) (by decide) ?_
        exact law_s23 S hr hlk hE hX hbl hL RR p23 hi9 kk a q U V fo H locs ls cells slots hR hw hl hc hs
      by_cases h24 : x = (24 : Int32)
      · refine lv_tableIn (off := 988) (tgt := 1028) hx hb dL_law_40 (by rw [h24]; decide) (by rw [h24]; decide) (by rw [h24]; rfl) (by decide) ?_
        exact law_s24 S hr hlk hE hX hbl hL RR p24 hi9 hi1 kk a q U V fo H locs ls cells slots hR hw hl hc hs
      by_cases h25 : x = (25 : Int32)
      · refine lv_tableIn (off := 1013) (tgt := 1053) hx hb dL_law_40 (by rw [h25]; decide) (by rw [h25]; decide) (by rw [h25]; rfl) (by decide) ?_
        exact law_s25 S hr hlk hE hX hbl hL RR p25 hi9 hi1 kk a q U V fo H locs ls cells slots hR hw hl hc hs
      by_cases h26 : x = (26 : Int32)
      · refine lv_tableIn (off := 1038) (tgt := 1078) hx hb dL_law_40 (by rw [h26]; decide) (by rw [h26]; decide) (by rw [h26]; rfl) (by decide) ?_
        exact law_s26 S hr hlk hE hX hbl hL RR p26 hi9 hi1 hi2 hi3 kk a q U V fo H locs ls cells slots hR hw hl hc hs
      by_cases h27 : x = (27 : Int32)
      · refine lv_tableIn (off := 1087) (tgt := 1127) hx hb dL_law_40 (by rw [h27]; decide) (by rw [h27]; decide) (by rw [h27]; rfl) (by decide) ?_
        exact law_s27 S hr hlk hE hX hbl hL RR p27 hi9 hi1 hi2 kk a q U V fo H locs ls cells slots hR hw hl hc hs
      by_cases h28 : x = (28 : Int32)
      · refine lv_tableIn (off := 1124) (tgt := 1164) hx hb dL_law_40 (by rw [h28]; decide) (by rw [h28]; decide) (by rw [h28]; rfl) (by decide) ?_
        exact law_s28 S hr hlk hE hX hbl hL RR p28 hi9 kk a q U V fo H locs ls cells slots hR hw hl hc hs
      by_cases h29 : x = (29 : Int32)
      · refine lv_tableIn (off := 1137) (tgt := 1177) hx hb dL_law_40 (by rw [h29]; decide) (by rw [h29]; decide) (by rw [h29]; rfl) (by decide) ?_
        exact law_s29 S hr hlk hE hX hbl hL RR p29 hi9 hi1 kk a q U V fo H locs ls cells slots hR hw hl hc hs
      by_cases h30 : x = (30 : Int32)
      · refine lv_tableIn (off := 1162) (tgt := 1202) hx hb dL_law_40 (by rw [h30]; decide) (by rw [h30]; decide) (by rw [h30]; rfl) (by decide) ?_
        exact law_s30 S hr hlk hE hX hbl hL RR p30 hi9 hi1 kk a q U V fo H locs ls cells slots hR hw hl hc hs
      by_cases h31 : x = (31 : Int32)
      · refine lv_tableIn (off := 1187) (tgt := 1227) hx hb dL_law_40 (by rw [h31]; decide) (by rw [h31]; decide) (by rw [h31]; rfl) (by decide) ?_
        exact law_s31 S hr hlk hE hX hbl hL RR p31 hi9 hi1 kk a q U V fo H locs ls cells slots hR hw hl hc hs
      by_cases h32 : x = (32 : Int32)
      · refine lv_tableIn (off := 1212) (tgt := 1252) hx hb dL_law_40 (by rw [h32]; decide) (by rw [h32]; decide) (by rw [h32]; rfl) (by decide) ?_
        exact law_s32 S hr hlk hE hX hbl hL RR p32 hi9 kk a q U V fo H locs ls cells slots hR hw hl hc hs
      by_cases h33 : x = (33 : Int32)
      · refine lv_tableIn (off := 1225) (tgt := 1265) hx hb dL_law_40 (by rw [h33]; decide) (by rw [h33]; decide) (by rw [h33]; rfl) (by decide) ?_
        by_cases hz : xs (nI i + (3 : Int32)).toNatClampNeg = 0
        · exact law_s33f S hr hlk hE hX hbl hL RR p33f hi9 hi1 hi2 hi3 hz kk a q U V fo H locs ls cells slots hR hw hl hc hs
        · exact law_s33t S hr hlk hE hX hbl hL RR p33t hi9 hi1 hi2 hi3 hz kk a q U V fo H locs ls cells slots hR hw hl hc hs
      by_cases h34 : x = (34 : Int32)
      · refine lv_tableIn (off := 1290) (tgt := 1330) hx hb dL_law_40 (by rw [h34]; decide) (by rw [h34]; decide) (by rw [h34]; rfl) (by decide) ?_
        exact law_s34 S hr hlk hE hX hbl hL RR p34 hi9 hi1 kk a q U V fo H locs ls cells slots hR hw hl hc hs
      by_cases h35 : x = (35 : Int32)
      · refine lv_tableIn (off := 1315) (tgt := 1355) hx hb dL_law_40 (by rw [h35]; decide) (by rw [h35]; decide) (by rw [h35]; rfl) (by decide) ?_
        exact law_s35 S hr hlk hE hX hbl hL RR p35 hi9 hi1 kk a q U V fo H locs ls cells slots hR hw hl hc hs
      by_cases h36 : x = (36 : Int32)
      · refine lv_tableIn (off := 1340) (tgt := 1380) hx hb dL_law_40 (by rw [h36]; decide) (by rw [h36]; decide) (by rw [h36]; rfl) (by decide) ?_
        exact law_s36 S hr hlk hE hX hbl hL RR p36 hi9 hi1 kk a q U V fo H locs ls cells slots hR hw hl hc hs
      by_cases h37 : x = (37 : Int32)
      · refine lv_tableIn (off := 1365) (tgt := 1405) hx hb dL_law_40 (by rw [h37]; decide) (by rw [h37]; decide) (by rw [h37]; rfl) (by decide) ?_
        exact law_s37 S hr hlk hE hX hbl hL RR p37 hi9 hi1 hi2 hi3 kk a q U V fo H locs ls cells slots hR hw hl hc hs
      by_cases h38 : x = (38 : Int32)
      · refine lv_tableIn (off := 1414) (tgt := 1454) hx hb dL_law_40 (by rw [h38]; decide) (by rw [h38]; decide) (by rw [h38]; rfl) (by decide) ?_
        exact law_s38 S hr hlk hE hX hbl hL RR p38 hi9 hi1 hi2 hi3 kk a q U V fo H locs ls cells slots hR hw hl hc hs
      by_cases h39 : x = (39 : Int32)
      · refine lv_tableIn (off := 1463) (tgt := 1503) hx hb dL_law_40 (by rw [h39]; decide) (by rw [h39]; decide) (by rw [h39]; rfl) (by decide) ?_
        exact law_s39 S hr hlk hE hX hbl hL RR p39 hi9 kk a q U V fo H locs ls cells slots hR hw hl hc hs
      by_cases h40 : x = (40 : Int32)
      · refine lv_tableIn (off := 1476) (tgt := 1516) hx hb dL_law_40 (by rw [h40]; decide) (by rw [h40]; decide) (by rw [h40]; rfl) (by decide) ?_
        exact law_s40 S hr hlk hE hX hbl hL RR p40 hi9 kk a q U V fo H locs ls cells slots hR hw hl hc hs
      by_cases h41 : x = (41 : Int32)
      · refine lv_tableIn (off := 1489) (tgt := 1529) hx hb dL_law_40 (by rw [h41]; decide) (by rw [h41]; decide) (by rw [h41]; rfl) (by decide) ?_
        exact law_s41 S hr hlk hE hX hbl hL RR p41 hi9 kk a q U V fo H locs ls cells slots hR hw hl hc hs
      by_cases h42 : x = (42 : Int32)
      · refine lv_tableIn (off := 1502) (tgt := 1542) hx hb dL_law_40 (by rw [h42]; decide) (by rw [h42]; decide) (by rw [h42]; rfl) (by decide) ?_
        exact law_s42 S hr hlk hE hX hbl hL RR p42 hi9 hi1 kk a q U V fo H locs ls cells slots hR hw hl hc hs
      have e0 : x.toInt ≠ 0 := tx_ne h0
      have e1 : x.toInt ≠ 1 := tx_ne h1
      have e2 : x.toInt ≠ 2 := tx_ne h2
      have e3 : x.toInt ≠ 3 := tx_ne h3
      have e4 : x.toInt ≠ 4 := tx_ne h4
      have e5 : x.toInt ≠ 5 := tx_ne h5
      have e6 : x.toInt ≠ 6 := tx_ne h6
      have e7 : x.toInt ≠ 7 := tx_ne h7
      have e8 : x.toInt ≠ 8 := tx_ne h8
      have e9 : x.toInt ≠ 9 := tx_ne h9
      have e10 : x.toInt ≠ 10 := tx_ne h10
      have e11 : x.toInt ≠ 11 := tx_ne h11
      have e12 : x.toInt ≠ 12 := tx_ne h12
      have e13 : x.toInt ≠ 13 := tx_ne h13
      have e14 : x.toInt ≠ 14 := tx_ne h14
      have e15 : x.toInt ≠ 15 := tx_ne h15
      have e16 : x.toInt ≠ 16 := tx_ne h16
      have e17 : x.toInt ≠ 17 := tx_ne h17
      have e18 : x.toInt ≠ 18 := tx_ne h18
      have e19 : x.toInt ≠ 19 := tx_ne h19
      have e20 : x.toInt ≠ 20 := tx_ne h20
      have e21 : x.toInt ≠ 21 := tx_ne h21
      have e22 : x.toInt ≠ 22 := tx_ne h22
      have e23 : x.toInt ≠ 23 := tx_ne h23
      have e24 : x.toInt ≠ 24 := tx_ne h24
      have e25 : x.toInt ≠ 25 := tx_ne h25
      have e26 : x.toInt ≠ 26 := tx_ne h26
      have e27 : x.toInt ≠ 27 := tx_ne h27
      have e28 : x.toInt ≠ 28 := tx_ne h28
      have e29 : x.toInt ≠ 29 := tx_ne h29
      have e30 : x.toInt ≠ 30 := tx_ne h30
      have e31 : x.toInt ≠ 31 := tx_ne h31
      have e32 : x.toInt ≠ 32 := tx_ne h32
      have e33 : x.toInt ≠ 33 := tx_ne h33
      have e34 : x.toInt ≠ 34 := tx_ne h34
      have e35 : x.toInt ≠ 35 := tx_ne h35
      have e36 : x.toInt ≠ 36 := tx_ne h36
      have e37 : x.toInt ≠ 37 := tx_ne h37
      have e38 : x.toInt ≠ 38 := tx_ne h38
      have e39 : x.toInt ≠ 39 := tx_ne h39
      have e40 : x.toInt ≠ 40 := tx_ne h40
      have e41 : x.toInt ≠ 41 := tx_ne h41
      have e42 : x.toInt ≠ 42 := tx_ne h42
      refine lv_tableOut (tgt := 1567) hx hb dL_law_40 (by omega) (by decide) ?_
      exact kk a q U V fo H locs ls cells slots hR hw hl hc hs
