def allW : List Cond := lw_tbl.filter goodWord
def isNest : Cond → Bool
  | .fieldLinkNest .. => true
  | .methodLinkNest .. => true
  | _ => false
def nestW : List Cond := tables_1.filter isNest
theorem alw1 {w : Cond} (i : Nat) (h : tables_1_1[i]? = some w) (g : goodWord w = true) : w ∈ allW := List.mem_filter.mpr ⟨List.mem_append_right _ (List.mem_append_left _ (List.mem_of_getElem? h)), g⟩
theorem nsw1 {w : Cond} (i : Nat) (h : tables_1_1[i]? = some w) (g : isNest w = true) : w ∈ nestW := List.mem_filter.mpr ⟨(List.mem_append_left _ (List.mem_of_getElem? h)), g⟩
theorem alw2 {w : Cond} (i : Nat) (h : tables_1_2[i]? = some w) (g : goodWord w = true) : w ∈ allW := List.mem_filter.mpr ⟨List.mem_append_right _ (List.mem_append_right _ (List.mem_append_left _ (List.mem_of_getElem? h))), g⟩
theorem nsw2 {w : Cond} (i : Nat) (h : tables_1_2[i]? = some w) (g : isNest w = true) : w ∈ nestW := List.mem_filter.mpr ⟨(List.mem_append_right _ (List.mem_append_left _ (List.mem_of_getElem? h))), g⟩
theorem alw3 {w : Cond} (i : Nat) (h : tables_1_3[i]? = some w) (g : goodWord w = true) : w ∈ allW := List.mem_filter.mpr ⟨List.mem_append_right _ (List.mem_append_right _ (List.mem_append_right _ (List.mem_append_left _ (List.mem_of_getElem? h)))), g⟩
theorem nsw3 {w : Cond} (i : Nat) (h : tables_1_3[i]? = some w) (g : isNest w = true) : w ∈ nestW := List.mem_filter.mpr ⟨(List.mem_append_right _ (List.mem_append_right _ (List.mem_append_left _ (List.mem_of_getElem? h)))), g⟩
theorem alw4 {w : Cond} (i : Nat) (h : tables_1_4[i]? = some w) (g : goodWord w = true) : w ∈ allW := List.mem_filter.mpr ⟨List.mem_append_right _ (List.mem_append_right _ (List.mem_append_right _ (List.mem_append_right _ (List.mem_append_left _ (List.mem_of_getElem? h))))), g⟩
theorem nsw4 {w : Cond} (i : Nat) (h : tables_1_4[i]? = some w) (g : isNest w = true) : w ∈ nestW := List.mem_filter.mpr ⟨(List.mem_append_right _ (List.mem_append_right _ (List.mem_append_right _ (List.mem_append_left _ (List.mem_of_getElem? h))))), g⟩
theorem alw5 {w : Cond} (i : Nat) (h : tables_1_5[i]? = some w) (g : goodWord w = true) : w ∈ allW := List.mem_filter.mpr ⟨List.mem_append_right _ (List.mem_append_right _ (List.mem_append_right _ (List.mem_append_right _ (List.mem_append_right _ (List.mem_append_left _ (List.mem_of_getElem? h)))))), g⟩
theorem nsw5 {w : Cond} (i : Nat) (h : tables_1_5[i]? = some w) (g : isNest w = true) : w ∈ nestW := List.mem_filter.mpr ⟨(List.mem_append_right _ (List.mem_append_right _ (List.mem_append_right _ (List.mem_append_right _ (List.mem_append_left _ (List.mem_of_getElem? h)))))), g⟩
theorem alw6 {w : Cond} (i : Nat) (h : tables_1_6[i]? = some w) (g : goodWord w = true) : w ∈ allW := List.mem_filter.mpr ⟨List.mem_append_right _ (List.mem_append_right _ (List.mem_append_right _ (List.mem_append_right _ (List.mem_append_right _ (List.mem_append_right _ (List.mem_append_left _ (List.mem_of_getElem? h))))))), g⟩
theorem nsw6 {w : Cond} (i : Nat) (h : tables_1_6[i]? = some w) (g : isNest w = true) : w ∈ nestW := List.mem_filter.mpr ⟨(List.mem_append_right _ (List.mem_append_right _ (List.mem_append_right _ (List.mem_append_right _ (List.mem_append_right _ (List.mem_append_left _ (List.mem_of_getElem? h))))))), g⟩
theorem alw7 {w : Cond} (i : Nat) (h : tables_1_7[i]? = some w) (g : goodWord w = true) : w ∈ allW := List.mem_filter.mpr ⟨List.mem_append_right _ (List.mem_append_right _ (List.mem_append_right _ (List.mem_append_right _ (List.mem_append_right _ (List.mem_append_right _ (List.mem_append_right _ (List.mem_append_left _ (List.mem_of_getElem? h)))))))), g⟩
theorem nsw7 {w : Cond} (i : Nat) (h : tables_1_7[i]? = some w) (g : isNest w = true) : w ∈ nestW := List.mem_filter.mpr ⟨(List.mem_append_right _ (List.mem_append_right _ (List.mem_append_right _ (List.mem_append_right _ (List.mem_append_right _ (List.mem_append_right _ (List.mem_append_left _ (List.mem_of_getElem? h)))))))), g⟩
theorem alw8 {w : Cond} (i : Nat) (h : tables_1_8[i]? = some w) (g : goodWord w = true) : w ∈ allW := List.mem_filter.mpr ⟨List.mem_append_right _ (List.mem_append_right _ (List.mem_append_right _ (List.mem_append_right _ (List.mem_append_right _ (List.mem_append_right _ (List.mem_append_right _ (List.mem_append_right _ (List.mem_append_left _ (List.mem_of_getElem? h))))))))), g⟩
theorem nsw8 {w : Cond} (i : Nat) (h : tables_1_8[i]? = some w) (g : isNest w = true) : w ∈ nestW := List.mem_filter.mpr ⟨(List.mem_append_right _ (List.mem_append_right _ (List.mem_append_right _ (List.mem_append_right _ (List.mem_append_right _ (List.mem_append_right _ (List.mem_append_right _ (List.mem_append_left _ (List.mem_of_getElem? h))))))))), g⟩
theorem alw9 {w : Cond} (i : Nat) (h : tables_1_9[i]? = some w) (g : goodWord w = true) : w ∈ allW := List.mem_filter.mpr ⟨List.mem_append_right _ (List.mem_append_right _ (List.mem_append_right _ (List.mem_append_right _ (List.mem_append_right _ (List.mem_append_right _ (List.mem_append_right _ (List.mem_append_right _ (List.mem_append_right _ (List.mem_of_getElem? h))))))))), g⟩
theorem nsw9 {w : Cond} (i : Nat) (h : tables_1_9[i]? = some w) (g : isNest w = true) : w ∈ nestW := List.mem_filter.mpr ⟨(List.mem_append_right _ (List.mem_append_right _ (List.mem_append_right _ (List.mem_append_right _ (List.mem_append_right _ (List.mem_append_right _ (List.mem_append_right _ (List.mem_append_right _ (List.mem_of_getElem? h))))))))), g⟩
theorem alwS {y : MethodName} {n : Nat} (h : (y, n) ∈ lw_privs) (g : goodWord (Cond.selects y.cls y y) = true) : Cond.selects y.cls y y ∈ allW := List.mem_filter.mpr ⟨List.mem_append_left _ (List.mem_map.mpr ⟨(y, n), h, rfl⟩), g⟩
theorem kw_0 : Cond.initialized RL ∈ allW := alw1 0 rfl rfl
theorem kw_1 : Cond.initialized RX11 ∈ allW := alw1 1 rfl rfl
theorem kw_2 : Cond.initialized RX6 ∈ allW := alw1 2 rfl rfl
theorem kw_3 : Cond.initialized RX0 ∈ allW := alw1 3 rfl rfl
theorem kw_4 : Cond.initialized RX5 ∈ allW := alw1 4 rfl rfl
theorem kw_5 : Cond.initialized RX7 ∈ allW := alw1 5 rfl rfl
theorem kw_6 : Cond.initialized RX8 ∈ allW := alw1 6 rfl rfl
theorem kw_7 : Cond.initialized RX4 ∈ allW := alw1 7 rfl rfl
theorem kw_8 : Cond.initialized RX10 ∈ allW := alw1 8 rfl rfl
theorem kw_9 : Cond.initialized RX9 ∈ allW := alw1 9 rfl rfl
theorem kw_10 : Cond.initialized RX1 ∈ allW := alw1 10 rfl rfl
theorem kw_11 : Cond.initialized RX2 ∈ allW := alw1 11 rfl rfl
theorem kw_12 : Cond.initialized RX3 ∈ allW := alw1 12 rfl rfl
theorem kw_13 : Cond.initialized RJ10 ∈ allW := alw1 13 rfl rfl
theorem kw_14 : Cond.initialized RJ7 ∈ allW := alw1 14 rfl rfl
theorem kw_15 : Cond.initialized RX12 ∈ allW := alw1 15 rfl rfl
theorem kw_16 : Cond.initialized "java/lang/Throwable" ∈ allW := alw1 16 rfl rfl
theorem kw_17 : Cond.initialized "java/lang/Exception" ∈ allW := alw1 17 rfl rfl
theorem kw_18 : Cond.initialized "java/lang/RuntimeException" ∈ allW := alw1 18 rfl rfl
theorem kw_19 : Cond.initialized "java/lang/IndexOutOfBoundsException" ∈ allW := alw1 19 rfl rfl
theorem kw_20 : Cond.initialized "java/util/NoSuchElementException" ∈ allW := alw1 20 rfl rfl
theorem kw_21 : Cond.initialized RJ9 ∈ allW := alw1 21 rfl rfl
theorem kw_22 : Cond.classLink RL 8 RX11 ∈ allW := alw1 22 rfl rfl
theorem kw_23 : Cond.instantiable RX11 11 ∈ allW := alw1 23 rfl rfl
theorem kw_24 : Cond.methodLink RL 17 yX11_init ∈ allW := alw1 24 rfl rfl
theorem kw_25 : Cond.instanceMethod yX11_init ∈ allW := alw1 25 rfl rfl
theorem kw_26 : Cond.code yX11_init cX11_init 1 none ∈ allW := alw1 26 rfl rfl
theorem kw_27 : Cond.methodLink RX11 3 objectInit ∈ allW := alw1 27 rfl rfl
theorem kw_28 : Cond.instanceMethod objectInit ∈ allW := alw1 28 rfl rfl
theorem kw_30 : Cond.classLink RX11 9 RX6 ∈ allW := alw1 30 rfl rfl
theorem kw_31 : Cond.instantiable RX6 2 ∈ allW := alw1 31 rfl rfl
theorem kw_32 : Cond.methodLinkNest RX11 11 yX6_init "ThoughtTax" ∈ nestW := nsw1 32 rfl rfl
theorem kw_33 : Cond.instanceMethod yX6_init ∈ allW := alw1 33 rfl rfl
theorem kw_34 : Cond.code yX6_init cX6_init 1 none ∈ allW := alw1 34 rfl rfl
theorem kw_35 : Cond.methodLink RX6 1 objectInit ∈ allW := alw1 35 rfl rfl
theorem kw_36 : Cond.fieldLink RX6 9 "ThoughtTax$Tape" "bytes" "[B" ∈ allW := alw1 36 rfl rfl
theorem kw_37 : Cond.fieldLinkNest RX8 57 "ThoughtTax$Tape" "bytes" "[B" "ThoughtTax" ∈ nestW := nsw1 37 rfl rfl
theorem kw_38 : Cond.fieldLink RX6 13 "ThoughtTax$Tape" "length" "I" ∈ allW := alw1 38 rfl rfl
theorem kw_39 : Cond.fieldLinkNest RX11 88 "ThoughtTax$Tape" "length" "I" "ThoughtTax" ∈ nestW := nsw1 39 rfl rfl
theorem kw_40 : Cond.laysFinal RX6 "ThoughtTax$Tape" "bytes" "[B" ∈ allW := alw1 40 rfl rfl
theorem kw_42 : Cond.lays RX6 "ThoughtTax$Tape" "length" "I" ∈ allW := alw1 42 rfl rfl
theorem kw_45 : Cond.arrayClass FieldType.byte ∈ allW := alw1 45 rfl rfl
theorem kw_46 : Cond.classLink RX11 18 RX0 ∈ allW := alw1 46 rfl rfl
theorem kw_47 : Cond.instantiable RX0 18 ∈ allW := alw1 47 rfl rfl
theorem kw_48 : Cond.methodLinkNest RX11 20 yX0_init "ThoughtTax" ∈ nestW := nsw1 48 rfl rfl
theorem kw_49 : Cond.instanceMethod yX0_init ∈ allW := alw1 49 rfl rfl
theorem kw_50 : Cond.code yX0_init cX0_init 1 none ∈ allW := alw1 50 rfl rfl
theorem kw_51 : Cond.methodLink RX0 3 objectInit ∈ allW := alw1 51 rfl rfl
theorem kw_52 : Cond.classLink RX0 49 RX5 ∈ allW := alw1 52 rfl rfl
theorem kw_53 : Cond.instantiable RX5 6 ∈ allW := alw1 53 rfl rfl
theorem kw_54 : Cond.methodLinkNest RX0 51 yX5_init "ThoughtTax" ∈ nestW := nsw1 54 rfl rfl
theorem kw_55 : Cond.instanceMethod yX5_init ∈ allW := alw1 55 rfl rfl
theorem kw_56 : Cond.code yX5_init cX5_init 1 none ∈ allW := alw1 56 rfl rfl
theorem kw_57 : Cond.methodLink RX5 3 objectInit ∈ allW := alw1 57 rfl rfl
theorem kw_58 : Cond.fieldLink RX5 11 "ThoughtTax$Laws" "kinds" "[I" ∈ allW := alw1 58 rfl rfl
theorem kw_59 : Cond.fieldLink RX5 15 "ThoughtTax$Laws" "values" "[I" ∈ allW := alw1 59 rfl rfl
theorem kw_60 : Cond.fieldLink RX5 18 "ThoughtTax$Laws" "from" "[I" ∈ allW := alw1 60 rfl rfl
theorem kw_61 : Cond.fieldLink RX5 21 "ThoughtTax$Laws" "to" "[I" ∈ allW := alw1 61 rfl rfl
theorem kw_62 : Cond.fieldLink RX5 24 "ThoughtTax$Laws" "stack" "[J" ∈ allW := alw1 62 rfl rfl
theorem kw_63 : Cond.fieldLink RX5 28 "ThoughtTax$Laws" "size" "I" ∈ allW := alw1 63 rfl rfl
theorem kw_64 : Cond.fieldLinkNest RX4 39 "ThoughtTax$Laws" "size" "I" "ThoughtTax" ∈ nestW := nsw1 64 rfl rfl
theorem kw_65 : Cond.fieldLinkNest RX11 343 "ThoughtTax$Laws" "size" "I" "ThoughtTax" ∈ nestW := nsw1 65 rfl rfl
theorem kw_66 : Cond.laysFinal RX5 "ThoughtTax$Laws" "kinds" "[I" ∈ allW := alw1 66 rfl rfl
theorem kw_68 : Cond.laysFinal RX5 "ThoughtTax$Laws" "values" "[I" ∈ allW := alw1 68 rfl rfl
theorem kw_70 : Cond.laysFinal RX5 "ThoughtTax$Laws" "from" "[I" ∈ allW := alw1 70 rfl rfl
theorem kw_72 : Cond.laysFinal RX5 "ThoughtTax$Laws" "to" "[I" ∈ allW := alw1 72 rfl rfl
theorem kw_74 : Cond.laysFinal RX5 "ThoughtTax$Laws" "stack" "[J" ∈ allW := alw1 74 rfl rfl
theorem kw_76 : Cond.lays RX5 "ThoughtTax$Laws" "size" "I" ∈ allW := alw1 76 rfl rfl
theorem kw_79 : Cond.arrayClass FieldType.int ∈ allW := alw1 79 rfl rfl
theorem kw_80 : Cond.arrayClass FieldType.long ∈ allW := alw1 80 rfl rfl
theorem kw_81 : Cond.fieldLink RX0 56 "ThoughtTax$Book" "lines" "I" ∈ allW := alw1 81 rfl rfl
theorem kw_82 : Cond.fieldLinkNest RX7 68 "ThoughtTax$Book" "lines" "I" "ThoughtTax" ∈ nestW := nsw1 82 rfl rfl
theorem kw_83 : Cond.fieldLinkNest RX11 104 "ThoughtTax$Book" "lines" "I" "ThoughtTax" ∈ nestW := nsw1 83 rfl rfl
theorem kw_84 : Cond.fieldLink RX0 59 "ThoughtTax$Book" "people" "I" ∈ allW := alw1 84 rfl rfl
theorem kw_85 : Cond.fieldLinkNest RX9 53 "ThoughtTax$Book" "people" "I" "ThoughtTax" ∈ nestW := nsw1 85 rfl rfl
theorem kw_86 : Cond.fieldLinkNest RX10 93 "ThoughtTax$Book" "people" "I" "ThoughtTax" ∈ nestW := nsw1 86 rfl rfl
theorem kw_87 : Cond.fieldLinkNest RX7 106 "ThoughtTax$Book" "people" "I" "ThoughtTax" ∈ nestW := nsw1 87 rfl rfl
theorem kw_88 : Cond.fieldLinkNest RX11 235 "ThoughtTax$Book" "people" "I" "ThoughtTax" ∈ nestW := nsw1 88 rfl rfl
theorem kw_89 : Cond.fieldLink RX0 9 "ThoughtTax$Book" "manNames" "[I" ∈ allW := alw1 89 rfl rfl
theorem kw_90 : Cond.fieldLinkNest RX7 116 "ThoughtTax$Book" "manNames" "[I" "ThoughtTax" ∈ nestW := nsw1 90 rfl rfl
theorem kw_91 : Cond.fieldLink RX0 15 "ThoughtTax$Book" "purses" "[I" ∈ allW := alw1 91 rfl rfl
theorem kw_92 : Cond.fieldLinkNest RX10 69 "ThoughtTax$Book" "purses" "[I" "ThoughtTax" ∈ nestW := nsw1 92 rfl rfl
theorem kw_93 : Cond.fieldLinkNest RX7 124 "ThoughtTax$Book" "purses" "[I" "ThoughtTax" ∈ nestW := nsw1 93 rfl rfl
theorem kw_94 : Cond.fieldLink RX0 18 "ThoughtTax$Book" "wiles" "[I" ∈ allW := alw1 94 rfl rfl
theorem kw_95 : Cond.fieldLinkNest RX10 76 "ThoughtTax$Book" "wiles" "[I" "ThoughtTax" ∈ nestW := nsw1 95 rfl rfl
theorem kw_96 : Cond.fieldLinkNest RX7 130 "ThoughtTax$Book" "wiles" "[I" "ThoughtTax" ∈ nestW := nsw1 96 rfl rfl
theorem kw_97 : Cond.fieldLink RX0 62 "ThoughtTax$Book" "thoughts" "I" ∈ allW := alw1 97 rfl rfl
theorem kw_98 : Cond.fieldLinkNest RX10 117 "ThoughtTax$Book" "thoughts" "I" "ThoughtTax" ∈ nestW := nsw1 98 rfl rfl
theorem kw_99 : Cond.fieldLinkNest RX9 93 "ThoughtTax$Book" "thoughts" "I" "ThoughtTax" ∈ nestW := nsw1 99 rfl rfl
theorem kw_100 : Cond.fieldLinkNest RX7 148 "ThoughtTax$Book" "thoughts" "I" "ThoughtTax" ∈ nestW := nsw1 100 rfl rfl
theorem kw_101 : Cond.fieldLinkNest RX11 336 "ThoughtTax$Book" "thoughts" "I" "ThoughtTax" ∈ nestW := nsw1 101 rfl rfl
theorem kw_102 : Cond.fieldLink RX0 21 "ThoughtTax$Book" "owners" "[I" ∈ allW := alw1 102 rfl rfl
theorem kw_103 : Cond.fieldLinkNest RX10 123 "ThoughtTax$Book" "owners" "[I" "ThoughtTax" ∈ nestW := nsw1 103 rfl rfl
theorem kw_104 : Cond.fieldLinkNest RX11 130 "ThoughtTax$Book" "owners" "[I" "ThoughtTax" ∈ nestW := nsw1 104 rfl rfl
theorem kw_105 : Cond.fieldLinkNest RX9 96 "ThoughtTax$Book" "owners" "[I" "ThoughtTax" ∈ nestW := nsw1 105 rfl rfl
theorem kw_106 : Cond.fieldLinkNest RX7 151 "ThoughtTax$Book" "owners" "[I" "ThoughtTax" ∈ nestW := nsw1 106 rfl rfl
theorem kw_107 : Cond.fieldLink RX0 24 "ThoughtTax$Book" "worths" "[I" ∈ allW := alw1 107 rfl rfl
theorem kw_108 : Cond.fieldLinkNest RX11 134 "ThoughtTax$Book" "worths" "[I" "ThoughtTax" ∈ nestW := nsw1 108 rfl rfl
theorem kw_109 : Cond.fieldLinkNest RX10 141 "ThoughtTax$Book" "worths" "[I" "ThoughtTax" ∈ nestW := nsw1 109 rfl rfl
theorem kw_110 : Cond.fieldLinkNest RX7 154 "ThoughtTax$Book" "worths" "[I" "ThoughtTax" ∈ nestW := nsw1 110 rfl rfl
theorem kw_111 : Cond.fieldLink RX0 27 "ThoughtTax$Book" "weeks" "[I" ∈ allW := alw1 111 rfl rfl
theorem kw_112 : Cond.fieldLinkNest RX10 120 "ThoughtTax$Book" "weeks" "[I" "ThoughtTax" ∈ nestW := nsw1 112 rfl rfl
theorem kw_113 : Cond.fieldLinkNest RX11 137 "ThoughtTax$Book" "weeks" "[I" "ThoughtTax" ∈ nestW := nsw1 113 rfl rfl
theorem kw_114 : Cond.fieldLinkNest RX7 157 "ThoughtTax$Book" "weeks" "[I" "ThoughtTax" ∈ nestW := nsw1 114 rfl rfl
theorem kw_115 : Cond.fieldLink RX0 30 "ThoughtTax$Book" "tongues" "[I" ∈ allW := alw1 115 rfl rfl
theorem kw_116 : Cond.fieldLinkNest RX11 140 "ThoughtTax$Book" "tongues" "[I" "ThoughtTax" ∈ nestW := nsw1 116 rfl rfl
theorem kw_117 : Cond.fieldLinkNest RX7 160 "ThoughtTax$Book" "tongues" "[I" "ThoughtTax" ∈ nestW := nsw1 117 rfl rfl
theorem kw_118 : Cond.fieldLinkNest RX10 171 "ThoughtTax$Book" "tongues" "[I" "ThoughtTax" ∈ nestW := nsw1 118 rfl rfl
theorem kw_119 : Cond.fieldLink RX0 65 "ThoughtTax$Book" "readers" "I" ∈ allW := alw1 119 rfl rfl
theorem kw_120 : Cond.fieldLinkNest RX10 83 "ThoughtTax$Book" "readers" "I" "ThoughtTax" ∈ nestW := nsw1 120 rfl rfl
theorem kw_121 : Cond.fieldLinkNest RX9 69 "ThoughtTax$Book" "readers" "I" "ThoughtTax" ∈ nestW := nsw1 121 rfl rfl
theorem kw_122 : Cond.fieldLinkNest RX7 133 "ThoughtTax$Book" "readers" "I" "ThoughtTax" ∈ nestW := nsw1 122 rfl rfl
theorem kw_123 : Cond.fieldLinkNest RX11 232 "ThoughtTax$Book" "readers" "I" "ThoughtTax" ∈ nestW := nsw1 123 rfl rfl
theorem kw_124 : Cond.fieldLink RX0 33 "ThoughtTax$Book" "readerNames" "[I" ∈ allW := alw1 124 rfl rfl
theorem kw_125 : Cond.fieldLinkNest RX7 139 "ThoughtTax$Book" "readerNames" "[I" "ThoughtTax" ∈ nestW := nsw1 125 rfl rfl
theorem kw_126 : Cond.fieldLink RX0 36 "ThoughtTax$Book" "skills" "[I" ∈ allW := alw1 126 rfl rfl
theorem kw_127 : Cond.fieldLinkNest RX10 86 "ThoughtTax$Book" "skills" "[I" "ThoughtTax" ∈ nestW := nsw1 127 rfl rfl
theorem kw_128 : Cond.fieldLinkNest RX7 142 "ThoughtTax$Book" "skills" "[I" "ThoughtTax" ∈ nestW := nsw1 128 rfl rfl
theorem kw_129 : Cond.fieldLink RX0 39 "ThoughtTax$Book" "readerTongues" "[I" ∈ allW := alw1 129 rfl rfl
theorem kw_130 : Cond.fieldLinkNest RX10 87 "ThoughtTax$Book" "readerTongues" "[I" "ThoughtTax" ∈ nestW := nsw1 130 rfl rfl
theorem kw_131 : Cond.fieldLinkNest RX7 145 "ThoughtTax$Book" "readerTongues" "[I" "ThoughtTax" ∈ nestW := nsw1 131 rfl rfl
theorem kw_132 : Cond.fieldLink RX0 42 "ThoughtTax$Book" "rate" "I" ∈ allW := alw1 132 rfl rfl
theorem kw_133 : Cond.fieldLinkNest RX10 57 "ThoughtTax$Book" "rate" "I" "ThoughtTax" ∈ nestW := nsw1 133 rfl rfl
theorem kw_134 : Cond.fieldLinkNest RX7 166 "ThoughtTax$Book" "rate" "I" "ThoughtTax" ∈ nestW := nsw1 134 rfl rfl
theorem kw_135 : Cond.fieldLink RX0 46 "ThoughtTax$Book" "dullCost" "I" ∈ allW := alw1 135 rfl rfl
theorem kw_136 : Cond.fieldLinkNest RX1 66 "ThoughtTax$Book" "dullCost" "I" "ThoughtTax" ∈ nestW := nsw1 136 rfl rfl
theorem kw_137 : Cond.fieldLinkNest RX7 169 "ThoughtTax$Book" "dullCost" "I" "ThoughtTax" ∈ nestW := nsw1 137 rfl rfl
theorem kw_138 : Cond.fieldLinkNest RX11 204 "ThoughtTax$Book" "dullCost" "I" "ThoughtTax" ∈ nestW := nsw1 138 rfl rfl
theorem kw_139 : Cond.fieldLinkNest RX10 63 "ThoughtTax$Book" "seed" "I" "ThoughtTax" ∈ nestW := nsw1 139 rfl rfl
theorem kw_140 : Cond.fieldLink RX0 68 "ThoughtTax$Book" "seed" "I" ∈ allW := alw1 140 rfl rfl
theorem kw_141 : Cond.fieldLinkNest RX7 173 "ThoughtTax$Book" "seed" "I" "ThoughtTax" ∈ nestW := nsw1 141 rfl rfl
theorem kw_142 : Cond.fieldLinkNest RX7 29 "ThoughtTax$Book" "laws" "LThoughtTax$Laws;" "ThoughtTax" ∈ nestW := nsw1 142 rfl rfl
theorem kw_143 : Cond.fieldLink RX0 52 "ThoughtTax$Book" "laws" "LThoughtTax$Laws;" ∈ allW := alw1 143 rfl rfl
theorem kw_144 : Cond.fieldLinkNest RX10 177 "ThoughtTax$Book" "laws" "LThoughtTax$Laws;" "ThoughtTax" ∈ nestW := nsw1 144 rfl rfl
theorem kw_145 : Cond.fieldLinkNest RX11 339 "ThoughtTax$Book" "laws" "LThoughtTax$Laws;" "ThoughtTax" ∈ nestW := nsw1 145 rfl rfl
theorem kw_146 : Cond.lays RX0 "ThoughtTax$Book" "lines" "I" ∈ allW := alw1 146 rfl rfl
theorem kw_148 : Cond.lays RX0 "ThoughtTax$Book" "people" "I" ∈ allW := alw1 148 rfl rfl
theorem kw_150 : Cond.laysFinal RX0 "ThoughtTax$Book" "manNames" "[I" ∈ allW := alw1 150 rfl rfl
theorem kw_152 : Cond.laysFinal RX0 "ThoughtTax$Book" "purses" "[I" ∈ allW := alw1 152 rfl rfl
theorem kw_154 : Cond.laysFinal RX0 "ThoughtTax$Book" "wiles" "[I" ∈ allW := alw1 154 rfl rfl
theorem kw_156 : Cond.lays RX0 "ThoughtTax$Book" "thoughts" "I" ∈ allW := alw1 156 rfl rfl
theorem kw_158 : Cond.laysFinal RX0 "ThoughtTax$Book" "owners" "[I" ∈ allW := alw1 158 rfl rfl
theorem kw_160 : Cond.laysFinal RX0 "ThoughtTax$Book" "worths" "[I" ∈ allW := alw1 160 rfl rfl
theorem kw_162 : Cond.laysFinal RX0 "ThoughtTax$Book" "weeks" "[I" ∈ allW := alw1 162 rfl rfl
theorem kw_164 : Cond.laysFinal RX0 "ThoughtTax$Book" "tongues" "[I" ∈ allW := alw1 164 rfl rfl
theorem kw_166 : Cond.lays RX0 "ThoughtTax$Book" "readers" "I" ∈ allW := alw1 166 rfl rfl
theorem kw_168 : Cond.laysFinal RX0 "ThoughtTax$Book" "readerNames" "[I" ∈ allW := alw1 168 rfl rfl
theorem kw_170 : Cond.laysFinal RX0 "ThoughtTax$Book" "skills" "[I" ∈ allW := alw1 170 rfl rfl
theorem kw_172 : Cond.laysFinal RX0 "ThoughtTax$Book" "readerTongues" "[I" ∈ allW := alw1 172 rfl rfl
theorem kw_174 : Cond.lays RX0 "ThoughtTax$Book" "rate" "I" ∈ allW := alw1 174 rfl rfl
theorem kw_176 : Cond.lays RX0 "ThoughtTax$Book" "dullCost" "I" ∈ allW := alw1 176 rfl rfl
theorem kw_178 : Cond.lays RX0 "ThoughtTax$Book" "seed" "I" ∈ allW := alw1 178 rfl rfl
theorem kw_180 : Cond.laysFinal RX0 "ThoughtTax$Book" "laws" "LThoughtTax$Laws;" ∈ allW := alw1 180 rfl rfl
theorem kw_183 : Cond.classLink RX11 28 RX7 ∈ allW := alw1 183 rfl rfl
theorem kw_184 : Cond.instantiable RX7 7 ∈ allW := alw1 184 rfl rfl
theorem kw_185 : Cond.methodLinkNest RX11 30 yX7_init "ThoughtTax" ∈ nestW := nsw1 185 rfl rfl
theorem kw_186 : Cond.instanceMethod yX7_init ∈ allW := alw1 186 rfl rfl
theorem kw_187 : Cond.code yX7_init cX7_init 3 none ∈ allW := alw1 187 rfl rfl
theorem kw_188 : Cond.methodLink RX7 3 objectInit ∈ allW := alw1 188 rfl rfl
theorem kw_189 : Cond.classLink RX7 18 RX8 ∈ allW := alw1 189 rfl rfl
theorem kw_190 : Cond.instantiable RX8 6 ∈ allW := alw1 190 rfl rfl
theorem kw_191 : Cond.methodLinkNest RX7 20 yX8_init "ThoughtTax" ∈ nestW := nsw1 191 rfl rfl
theorem kw_192 : Cond.instanceMethod yX8_init ∈ allW := alw1 192 rfl rfl
theorem kw_193 : Cond.code yX8_init cX8_init 2 none ∈ allW := alw1 193 rfl rfl
theorem kw_194 : Cond.methodLink RX8 3 objectInit ∈ allW := alw1 194 rfl rfl
theorem kw_195 : Cond.fieldLink RX8 9 "ThoughtTax$Tokens" "tape" "LThoughtTax$Tape;" ∈ allW := alw1 195 rfl rfl
theorem kw_196 : Cond.fieldLink RX8 15 "ThoughtTax$Tokens" "end" "I" ∈ allW := alw1 196 rfl rfl
theorem kw_197 : Cond.fieldLink RX8 19 "ThoughtTax$Tokens" "next" "I" ∈ allW := alw1 197 rfl rfl
theorem kw_198 : Cond.fieldLinkNest RX7 71 "ThoughtTax$Tokens" "place" "I" "ThoughtTax" ∈ nestW := nsw1 198 rfl rfl
theorem kw_199 : Cond.fieldLink RX8 35 "ThoughtTax$Tokens" "place" "I" ∈ allW := alw1 199 rfl rfl
theorem kw_200 : Cond.fieldLinkNest RX7 58 "ThoughtTax$Tokens" "kind" "I" "ThoughtTax" ∈ nestW := nsw1 200 rfl rfl
theorem kw_201 : Cond.fieldLink RX8 25 "ThoughtTax$Tokens" "kind" "I" ∈ allW := alw1 201 rfl rfl
theorem kw_202 : Cond.fieldLinkNest RX4 92 "ThoughtTax$Tokens" "kind" "I" "ThoughtTax" ∈ nestW := nsw1 202 rfl rfl
theorem kw_203 : Cond.fieldLink RX8 28 "ThoughtTax$Tokens" "value" "I" ∈ allW := alw1 203 rfl rfl
theorem kw_204 : Cond.fieldLinkNest RX4 95 "ThoughtTax$Tokens" "value" "I" "ThoughtTax" ∈ nestW := nsw1 204 rfl rfl
theorem kw_205 : Cond.fieldLinkNest RX7 82 "ThoughtTax$Tokens" "value" "I" "ThoughtTax" ∈ nestW := nsw1 205 rfl rfl
theorem kw_206 : Cond.laysFinal RX8 "ThoughtTax$Tokens" "tape" "LThoughtTax$Tape;" ∈ allW := alw1 206 rfl rfl
theorem kw_208 : Cond.lays RX8 "ThoughtTax$Tokens" "end" "I" ∈ allW := alw1 208 rfl rfl
theorem kw_210 : Cond.lays RX8 "ThoughtTax$Tokens" "next" "I" ∈ allW := alw1 210 rfl rfl
theorem kw_212 : Cond.lays RX8 "ThoughtTax$Tokens" "place" "I" ∈ allW := alw1 212 rfl rfl
theorem kw_214 : Cond.lays RX8 "ThoughtTax$Tokens" "kind" "I" ∈ allW := alw1 214 rfl rfl
theorem kw_216 : Cond.lays RX8 "ThoughtTax$Tokens" "value" "I" ∈ allW := alw1 216 rfl rfl
theorem kw_219 : Cond.classLink RX7 27 RX4 ∈ allW := alw1 219 rfl rfl
theorem kw_220 : Cond.instantiable RX4 9 ∈ allW := alw1 220 rfl rfl
theorem kw_221 : Cond.methodLinkNest RX7 35 yX4_init "ThoughtTax" ∈ nestW := nsw1 221 rfl rfl
theorem kw_222 : Cond.instanceMethod yX4_init ∈ allW := alw1 222 rfl rfl
theorem kw_223 : Cond.code yX4_init cX4_init 3 none ∈ allW := alw1 223 rfl rfl
theorem kw_224 : Cond.methodLink RX4 7 objectInit ∈ allW := alw1 224 rfl rfl
theorem kw_225 : Cond.fieldLink RX4 21 "ThoughtTax$LawReader" "tokens" "LThoughtTax$Tokens;" ∈ allW := alw1 225 rfl rfl
theorem kw_226 : Cond.fieldLink RX4 13 "ThoughtTax$LawReader" "waiting" "[I" ∈ allW := alw1 226 rfl rfl
theorem kw_227 : Cond.fieldLink RX4 33 "ThoughtTax$LawReader" "waitingSize" "I" ∈ allW := alw1 227 rfl rfl
theorem kw_228 : Cond.fieldLink RX4 17 "ThoughtTax$LawReader" "isCompared" "[Z" ∈ allW := alw1 228 rfl rfl
theorem kw_229 : Cond.fieldLink RX4 37 "ThoughtTax$LawReader" "open" "I" ∈ allW := alw1 229 rfl rfl
theorem kw_230 : Cond.fieldLink RX4 42 "ThoughtTax$LawReader" "knots" "I" ∈ allW := alw1 230 rfl rfl
theorem kw_231 : Cond.fieldLink RX4 51 "ThoughtTax$LawReader" "wantsOperand" "Z" ∈ allW := alw1 231 rfl rfl
theorem kw_232 : Cond.fieldLink RX4 80 "ThoughtTax$LawReader" "mayNegate" "Z" ∈ allW := alw1 232 rfl rfl
theorem kw_233 : Cond.fieldLink RX4 25 "ThoughtTax$LawReader" "laws" "LThoughtTax$Laws;" ∈ allW := alw1 233 rfl rfl
theorem kw_234 : Cond.laysFinal RX4 "ThoughtTax$LawReader" "tokens" "LThoughtTax$Tokens;" ∈ allW := alw1 234 rfl rfl
theorem kw_236 : Cond.laysFinal RX4 "ThoughtTax$LawReader" "waiting" "[I" ∈ allW := alw1 236 rfl rfl
theorem kw_238 : Cond.lays RX4 "ThoughtTax$LawReader" "waitingSize" "I" ∈ allW := alw1 238 rfl rfl
theorem kw_240 : Cond.laysFinal RX4 "ThoughtTax$LawReader" "isCompared" "[Z" ∈ allW := alw2 0 rfl rfl
theorem kw_242 : Cond.lays RX4 "ThoughtTax$LawReader" "open" "I" ∈ allW := alw2 2 rfl rfl
theorem kw_244 : Cond.lays RX4 "ThoughtTax$LawReader" "knots" "I" ∈ allW := alw2 4 rfl rfl
theorem kw_246 : Cond.lays RX4 "ThoughtTax$LawReader" "wantsOperand" "Z" ∈ allW := alw2 6 rfl rfl
theorem kw_248 : Cond.lays RX4 "ThoughtTax$LawReader" "mayNegate" "Z" ∈ allW := alw2 8 rfl rfl
theorem kw_250 : Cond.lays RX4 "ThoughtTax$LawReader" "laws" "LThoughtTax$Laws;" ∈ allW := alw2 10 rfl rfl
theorem kw_253 : Cond.arrayClass FieldType.boolean ∈ allW := alw2 13 rfl rfl
theorem kw_254 : Cond.fieldLink RX7 23 "ThoughtTax$TextReader" "tokens" "LThoughtTax$Tokens;" ∈ allW := alw2 14 rfl rfl
theorem kw_255 : Cond.fieldLink RX7 38 "ThoughtTax$TextReader" "lawReader" "LThoughtTax$LawReader;" ∈ allW := alw2 15 rfl rfl
theorem kw_256 : Cond.fieldLink RX7 9 "ThoughtTax$TextReader" "fault" "I" ∈ allW := alw2 16 rfl rfl
theorem kw_257 : Cond.fieldLinkNest RX11 107 "ThoughtTax$TextReader" "fault" "I" "ThoughtTax" ∈ nestW := nsw2 17 rfl rfl
theorem kw_258 : Cond.fieldLink RX7 15 "ThoughtTax$TextReader" "place" "I" ∈ allW := alw2 18 rfl rfl
theorem kw_259 : Cond.fieldLinkNest RX11 110 "ThoughtTax$TextReader" "place" "I" "ThoughtTax" ∈ nestW := nsw2 19 rfl rfl
theorem kw_260 : Cond.fieldLink RX7 42 "ThoughtTax$TextReader" "book" "LThoughtTax$Book;" ∈ allW := alw2 20 rfl rfl
theorem kw_261 : Cond.fieldLink RX7 127 "ThoughtTax$TextReader" "number" "I" ∈ allW := alw2 21 rfl rfl
theorem kw_262 : Cond.fieldLink RX7 49 "ThoughtTax$TextReader" "told" "I" ∈ allW := alw2 22 rfl rfl
theorem kw_263 : Cond.laysFinal RX7 "ThoughtTax$TextReader" "tokens" "LThoughtTax$Tokens;" ∈ allW := alw2 23 rfl rfl
theorem kw_265 : Cond.laysFinal RX7 "ThoughtTax$TextReader" "lawReader" "LThoughtTax$LawReader;" ∈ allW := alw2 25 rfl rfl
theorem kw_267 : Cond.lays RX7 "ThoughtTax$TextReader" "fault" "I" ∈ allW := alw2 27 rfl rfl
theorem kw_269 : Cond.lays RX7 "ThoughtTax$TextReader" "place" "I" ∈ allW := alw2 29 rfl rfl
theorem kw_271 : Cond.lays RX7 "ThoughtTax$TextReader" "book" "LThoughtTax$Book;" ∈ allW := alw2 31 rfl rfl
theorem kw_273 : Cond.lays RX7 "ThoughtTax$TextReader" "number" "I" ∈ allW := alw2 33 rfl rfl
theorem kw_275 : Cond.lays RX7 "ThoughtTax$TextReader" "told" "I" ∈ allW := alw2 35 rfl rfl
theorem kw_278 : Cond.classLink RX11 37 RX10 ∈ allW := alw2 38 rfl rfl
theorem kw_279 : Cond.instantiable RX10 17 ∈ allW := alw2 39 rfl rfl
theorem kw_280 : Cond.methodLinkNest RX11 39 yX10_init "ThoughtTax" ∈ nestW := nsw2 40 rfl rfl
theorem kw_281 : Cond.instanceMethod yX10_init ∈ allW := alw2 41 rfl rfl
theorem kw_282 : Cond.code yX10_init cX10_init 2 none ∈ allW := alw2 42 rfl rfl
theorem kw_283 : Cond.methodLink RX10 3 objectInit ∈ allW := alw2 43 rfl rfl
theorem kw_284 : Cond.fieldLink RX10 49 "ThoughtTax$World" "book" "LThoughtTax$Book;" ∈ allW := alw2 44 rfl rfl
theorem kw_285 : Cond.fieldLinkNest RX9 49 "ThoughtTax$World" "book" "LThoughtTax$Book;" "ThoughtTax" ∈ nestW := nsw2 45 rfl rfl
theorem kw_286 : Cond.fieldLinkNest RX1 44 "ThoughtTax$World" "book" "LThoughtTax$Book;" "ThoughtTax" ∈ nestW := nsw2 46 rfl rfl
theorem kw_287 : Cond.fieldLinkNest RX2 56 "ThoughtTax$World" "book" "LThoughtTax$Book;" "ThoughtTax" ∈ nestW := nsw2 47 rfl rfl
theorem kw_288 : Cond.fieldLink RX10 53 "ThoughtTax$World" "week" "I" ∈ allW := alw2 48 rfl rfl
theorem kw_289 : Cond.fieldLinkNest RX11 210 "ThoughtTax$World" "week" "I" "ThoughtTax" ∈ nestW := nsw2 49 rfl rfl
theorem kw_290 : Cond.fieldLink RX10 62 "ThoughtTax$World" "rate" "I" ∈ allW := alw2 50 rfl rfl
theorem kw_291 : Cond.fieldLinkNest RX1 39 "ThoughtTax$World" "rate" "I" "ThoughtTax" ∈ nestW := nsw2 51 rfl rfl
theorem kw_292 : Cond.fieldLinkNest RX9 83 "ThoughtTax$World" "rate" "I" "ThoughtTax" ∈ nestW := nsw2 52 rfl rfl
theorem kw_293 : Cond.fieldLinkNest RX11 207 "ThoughtTax$World" "rate" "I" "ThoughtTax" ∈ nestW := nsw2 53 rfl rfl
theorem kw_294 : Cond.fieldLink RX10 66 "ThoughtTax$World" "number" "I" ∈ allW := alw2 54 rfl rfl
theorem kw_295 : Cond.fieldLinkNest RX9 148 "ThoughtTax$World" "number" "I" "ThoughtTax" ∈ nestW := nsw2 55 rfl rfl
theorem kw_296 : Cond.fieldLink RX10 9 "ThoughtTax$World" "purses" "[I" ∈ allW := alw2 56 rfl rfl
theorem kw_297 : Cond.fieldLinkNest RX1 63 "ThoughtTax$World" "purses" "[I" "ThoughtTax" ∈ nestW := nsw2 57 rfl rfl
theorem kw_298 : Cond.fieldLinkNest RX11 160 "ThoughtTax$World" "purses" "[I" "ThoughtTax" ∈ nestW := nsw2 58 rfl rfl
theorem kw_299 : Cond.fieldLinkNest RX9 121 "ThoughtTax$World" "purses" "[I" "ThoughtTax" ∈ nestW := nsw2 59 rfl rfl
theorem kw_300 : Cond.fieldLink RX10 15 "ThoughtTax$World" "wiles" "[I" ∈ allW := alw2 60 rfl rfl
theorem kw_301 : Cond.fieldLinkNest RX11 163 "ThoughtTax$World" "wiles" "[I" "ThoughtTax" ∈ nestW := nsw2 61 rfl rfl
theorem kw_302 : Cond.fieldLinkNest RX9 151 "ThoughtTax$World" "wiles" "[I" "ThoughtTax" ∈ nestW := nsw2 62 rfl rfl
theorem kw_303 : Cond.fieldLink RX10 18 "ThoughtTax$World" "paid" "[I" ∈ allW := alw2 63 rfl rfl
theorem kw_304 : Cond.fieldLinkNest RX9 32 "ThoughtTax$World" "paid" "[I" "ThoughtTax" ∈ nestW := nsw2 64 rfl rfl
theorem kw_305 : Cond.fieldLinkNest RX11 166 "ThoughtTax$World" "paid" "[I" "ThoughtTax" ∈ nestW := nsw2 65 rfl rfl
theorem kw_306 : Cond.fieldLink RX10 21 "ThoughtTax$World" "owed" "[I" ∈ allW := alw2 66 rfl rfl
theorem kw_307 : Cond.fieldLinkNest RX9 39 "ThoughtTax$World" "owed" "[I" "ThoughtTax" ∈ nestW := nsw2 67 rfl rfl
theorem kw_308 : Cond.fieldLinkNest RX11 169 "ThoughtTax$World" "owed" "[I" "ThoughtTax" ∈ nestW := nsw2 68 rfl rfl
theorem kw_309 : Cond.fieldLink RX10 24 "ThoughtTax$World" "dull" "[I" ∈ allW := alw2 69 rfl rfl
theorem kw_310 : Cond.fieldLinkNest RX1 60 "ThoughtTax$World" "dull" "[I" "ThoughtTax" ∈ nestW := nsw2 70 rfl rfl
theorem kw_311 : Cond.fieldLinkNest RX11 172 "ThoughtTax$World" "dull" "[I" "ThoughtTax" ∈ nestW := nsw2 71 rfl rfl
theorem kw_312 : Cond.fieldLinkNest RX9 108 "ThoughtTax$World" "dull" "[I" "ThoughtTax" ∈ nestW := nsw2 72 rfl rfl
theorem kw_313 : Cond.fieldLink RX10 27 "ThoughtTax$World" "rounds" "[I" ∈ allW := alw2 73 rfl rfl
theorem kw_314 : Cond.fieldLinkNest RX9 62 "ThoughtTax$World" "rounds" "[I" "ThoughtTax" ∈ nestW := nsw2 74 rfl rfl
theorem kw_315 : Cond.fieldLinkNest RX1 69 "ThoughtTax$World" "rounds" "[I" "ThoughtTax" ∈ nestW := nsw2 75 rfl rfl
theorem kw_316 : Cond.fieldLinkNest RX11 175 "ThoughtTax$World" "rounds" "[I" "ThoughtTax" ∈ nestW := nsw2 76 rfl rfl
theorem kw_317 : Cond.fieldLink RX10 30 "ThoughtTax$World" "states" "[I" ∈ allW := alw2 77 rfl rfl
theorem kw_318 : Cond.fieldLinkNest RX11 143 "ThoughtTax$World" "states" "[I" "ThoughtTax" ∈ nestW := nsw2 78 rfl rfl
theorem kw_319 : Cond.fieldLinkNest RX9 99 "ThoughtTax$World" "states" "[I" "ThoughtTax" ∈ nestW := nsw2 79 rfl rfl
theorem kw_320 : Cond.fieldLink RX10 33 "ThoughtTax$World" "holders" "[I" ∈ allW := alw2 80 rfl rfl
theorem kw_321 : Cond.fieldLinkNest RX1 54 "ThoughtTax$World" "holders" "[I" "ThoughtTax" ∈ nestW := nsw2 81 rfl rfl
theorem kw_322 : Cond.fieldLinkNest RX9 76 "ThoughtTax$World" "holders" "[I" "ThoughtTax" ∈ nestW := nsw2 82 rfl rfl
theorem kw_323 : Cond.fieldLinkNest RX11 146 "ThoughtTax$World" "holders" "[I" "ThoughtTax" ∈ nestW := nsw2 83 rfl rfl
theorem kw_324 : Cond.fieldLink RX10 36 "ThoughtTax$World" "wasRead" "[I" ∈ allW := alw2 84 rfl rfl
theorem kw_325 : Cond.fieldLinkNest RX11 149 "ThoughtTax$World" "wasRead" "[I" "ThoughtTax" ∈ nestW := nsw2 85 rfl rfl
theorem kw_326 : Cond.fieldLinkNest RX2 67 "ThoughtTax$World" "wasRead" "[I" "ThoughtTax" ∈ nestW := nsw2 86 rfl rfl
theorem kw_327 : Cond.fieldLinkNest RX9 118 "ThoughtTax$World" "wasRead" "[I" "ThoughtTax" ∈ nestW := nsw2 87 rfl rfl
theorem kw_328 : Cond.fieldLink RX10 39 "ThoughtTax$World" "skills" "[I" ∈ allW := alw2 88 rfl rfl
theorem kw_329 : Cond.fieldLinkNest RX11 181 "ThoughtTax$World" "skills" "[I" "ThoughtTax" ∈ nestW := nsw2 89 rfl rfl
theorem kw_330 : Cond.fieldLinkNest RX9 141 "ThoughtTax$World" "skills" "[I" "ThoughtTax" ∈ nestW := nsw2 90 rfl rfl
theorem kw_331 : Cond.fieldLink RX10 42 "ThoughtTax$World" "tongues" "[I" ∈ allW := alw2 91 rfl rfl
theorem kw_332 : Cond.fieldLinkNest RX11 184 "ThoughtTax$World" "tongues" "[I" "ThoughtTax" ∈ nestW := nsw2 92 rfl rfl
theorem kw_333 : Cond.fieldLinkNest RX9 164 "ThoughtTax$World" "tongues" "[I" "ThoughtTax" ∈ nestW := nsw2 93 rfl rfl
theorem kw_334 : Cond.fieldLinkNest RX9 86 "ThoughtTax$World" "isRated" "Z" "ThoughtTax" ∈ nestW := nsw2 94 rfl rfl
theorem kw_335 : Cond.fieldLink RX10 198 "ThoughtTax$World" "isRated" "Z" ∈ allW := alw2 95 rfl rfl
theorem kw_336 : Cond.fieldLink RX10 45 "ThoughtTax$World" "names" "[J" ∈ allW := alw2 96 rfl rfl
theorem kw_337 : Cond.lays RX10 "ThoughtTax$World" "book" "LThoughtTax$Book;" ∈ allW := alw2 97 rfl rfl
theorem kw_339 : Cond.lays RX10 "ThoughtTax$World" "week" "I" ∈ allW := alw2 99 rfl rfl
theorem kw_341 : Cond.lays RX10 "ThoughtTax$World" "rate" "I" ∈ allW := alw2 101 rfl rfl
theorem kw_343 : Cond.lays RX10 "ThoughtTax$World" "number" "I" ∈ allW := alw2 103 rfl rfl
theorem kw_345 : Cond.laysFinal RX10 "ThoughtTax$World" "purses" "[I" ∈ allW := alw2 105 rfl rfl
theorem kw_347 : Cond.laysFinal RX10 "ThoughtTax$World" "wiles" "[I" ∈ allW := alw2 107 rfl rfl
theorem kw_349 : Cond.laysFinal RX10 "ThoughtTax$World" "paid" "[I" ∈ allW := alw2 109 rfl rfl
theorem kw_351 : Cond.laysFinal RX10 "ThoughtTax$World" "owed" "[I" ∈ allW := alw2 111 rfl rfl
theorem kw_353 : Cond.laysFinal RX10 "ThoughtTax$World" "dull" "[I" ∈ allW := alw2 113 rfl rfl
theorem kw_355 : Cond.laysFinal RX10 "ThoughtTax$World" "rounds" "[I" ∈ allW := alw2 115 rfl rfl
theorem kw_357 : Cond.laysFinal RX10 "ThoughtTax$World" "states" "[I" ∈ allW := alw2 117 rfl rfl
theorem kw_359 : Cond.laysFinal RX10 "ThoughtTax$World" "holders" "[I" ∈ allW := alw2 119 rfl rfl
theorem kw_361 : Cond.laysFinal RX10 "ThoughtTax$World" "wasRead" "[I" ∈ allW := alw2 121 rfl rfl
theorem kw_363 : Cond.laysFinal RX10 "ThoughtTax$World" "skills" "[I" ∈ allW := alw2 123 rfl rfl
theorem kw_365 : Cond.laysFinal RX10 "ThoughtTax$World" "tongues" "[I" ∈ allW := alw2 125 rfl rfl
theorem kw_367 : Cond.lays RX10 "ThoughtTax$World" "isRated" "Z" ∈ allW := alw2 127 rfl rfl
theorem kw_369 : Cond.laysFinal RX10 "ThoughtTax$World" "names" "[J" ∈ allW := alw2 129 rfl rfl
theorem kw_372 : Cond.classLink RX11 49 RX9 ∈ allW := alw2 132 rfl rfl
theorem kw_373 : Cond.instantiable RX9 2 ∈ allW := alw2 133 rfl rfl
theorem kw_374 : Cond.methodLinkNest RX11 51 yX9_init "ThoughtTax" ∈ nestW := nsw2 134 rfl rfl
theorem kw_375 : Cond.instanceMethod yX9_init ∈ allW := alw2 135 rfl rfl
theorem kw_376 : Cond.code yX9_init cX9_init 2 none ∈ allW := alw2 136 rfl rfl
theorem kw_377 : Cond.methodLink RX9 3 objectInit ∈ allW := alw2 137 rfl rfl
theorem kw_378 : Cond.classLink RX9 15 RX10 ∈ allW := alw2 138 rfl rfl
theorem kw_379 : Cond.methodLinkNest RX9 17 yX10_init "ThoughtTax" ∈ nestW := nsw2 139 rfl rfl
theorem kw_380 : Cond.fieldLink RX9 20 "ThoughtTax$Trials" "trial" "LThoughtTax$World;" ∈ allW := alw2 140 rfl rfl
theorem kw_381 : Cond.fieldLink RX9 9 "ThoughtTax$Trials" "taxes" "[I" ∈ allW := alw2 141 rfl rfl
theorem kw_382 : Cond.laysFinal RX9 "ThoughtTax$Trials" "trial" "LThoughtTax$World;" ∈ allW := alw2 142 rfl rfl
theorem kw_384 : Cond.laysFinal RX9 "ThoughtTax$Trials" "taxes" "[I" ∈ allW := alw2 144 rfl rfl
theorem kw_387 : Cond.classLink RX11 56 RX1 ∈ allW := alw2 147 rfl rfl
theorem kw_388 : Cond.instantiable RX1 4 ∈ allW := alw2 148 rfl rfl
theorem kw_389 : Cond.methodLinkNest RX11 58 yX1_init "ThoughtTax" ∈ nestW := nsw2 149 rfl rfl
theorem kw_390 : Cond.instanceMethod yX1_init ∈ allW := alw2 150 rfl rfl
theorem kw_391 : Cond.code yX1_init cX1_init 1 none ∈ allW := alw2 151 rfl rfl
theorem kw_392 : Cond.methodLink RX1 1 objectInit ∈ allW := alw2 152 rfl rfl
theorem kw_393 : Cond.fieldLink RX1 9 "ThoughtTax$Deeds" "kinds" "[I" ∈ allW := alw2 153 rfl rfl
theorem kw_394 : Cond.fieldLink RX1 13 "ThoughtTax$Deeds" "whiches" "[I" ∈ allW := alw2 154 rfl rfl
theorem kw_395 : Cond.fieldLink RX1 16 "ThoughtTax$Deeds" "befores" "[I" ∈ allW := alw2 155 rfl rfl
theorem kw_396 : Cond.fieldLink RX1 19 "ThoughtTax$Deeds" "size" "I" ∈ allW := alw2 156 rfl rfl
theorem kw_397 : Cond.fieldLinkNest RX11 328 "ThoughtTax$Deeds" "size" "I" "ThoughtTax" ∈ nestW := nsw2 157 rfl rfl
theorem kw_398 : Cond.laysFinal RX1 "ThoughtTax$Deeds" "kinds" "[I" ∈ allW := alw2 158 rfl rfl
theorem kw_400 : Cond.laysFinal RX1 "ThoughtTax$Deeds" "whiches" "[I" ∈ allW := alw2 160 rfl rfl
theorem kw_402 : Cond.laysFinal RX1 "ThoughtTax$Deeds" "befores" "[I" ∈ allW := alw2 162 rfl rfl
theorem kw_404 : Cond.lays RX1 "ThoughtTax$Deeds" "size" "I" ∈ allW := alw2 164 rfl rfl
theorem kw_407 : Cond.classLink RX11 63 RX2 ∈ allW := alw2 167 rfl rfl
theorem kw_408 : Cond.instantiable RX2 7 ∈ allW := alw2 168 rfl rfl
theorem kw_409 : Cond.methodLinkNest RX11 65 yX2_init "ThoughtTax" ∈ nestW := nsw2 169 rfl rfl
theorem kw_410 : Cond.instanceMethod yX2_init ∈ allW := alw2 170 rfl rfl
theorem kw_411 : Cond.code yX2_init cX2_init 1 none ∈ allW := alw2 171 rfl rfl
theorem kw_412 : Cond.methodLink RX2 3 objectInit ∈ allW := alw2 172 rfl rfl
theorem kw_413 : Cond.fieldLink RX2 11 "ThoughtTax$Finds" "weeks" "[I" ∈ allW := alw2 173 rfl rfl
theorem kw_414 : Cond.fieldLink RX2 15 "ThoughtTax$Finds" "thoughts" "[I" ∈ allW := alw2 174 rfl rfl
theorem kw_415 : Cond.fieldLink RX2 18 "ThoughtTax$Finds" "areRead" "[Z" ∈ allW := alw2 175 rfl rfl
theorem kw_416 : Cond.fieldLink RX2 22 "ThoughtTax$Finds" "targets" "[I" ∈ allW := alw2 176 rfl rfl
theorem kw_417 : Cond.fieldLink RX2 25 "ThoughtTax$Finds" "areStruck" "[Z" ∈ allW := alw2 177 rfl rfl
theorem kw_418 : Cond.fieldLink RX2 32 "ThoughtTax$Finds" "size" "I" ∈ allW := alw2 178 rfl rfl
theorem kw_419 : Cond.fieldLinkNest RX11 309 "ThoughtTax$Finds" "size" "I" "ThoughtTax" ∈ nestW := nsw2 179 rfl rfl
theorem kw_420 : Cond.fieldLink RX2 28 "ThoughtTax$Finds" "limit" "I" ∈ allW := alw2 180 rfl rfl
theorem kw_421 : Cond.fieldLinkNest RX11 315 "ThoughtTax$Finds" "limit" "I" "ThoughtTax" ∈ nestW := nsw2 181 rfl rfl
theorem kw_422 : Cond.laysFinal RX2 "ThoughtTax$Finds" "weeks" "[I" ∈ allW := alw2 182 rfl rfl
theorem kw_424 : Cond.laysFinal RX2 "ThoughtTax$Finds" "thoughts" "[I" ∈ allW := alw2 184 rfl rfl
theorem kw_426 : Cond.laysFinal RX2 "ThoughtTax$Finds" "areRead" "[Z" ∈ allW := alw2 186 rfl rfl
theorem kw_428 : Cond.laysFinal RX2 "ThoughtTax$Finds" "targets" "[I" ∈ allW := alw2 188 rfl rfl
theorem kw_430 : Cond.laysFinal RX2 "ThoughtTax$Finds" "areStruck" "[Z" ∈ allW := alw2 190 rfl rfl
theorem kw_432 : Cond.lays RX2 "ThoughtTax$Finds" "size" "I" ∈ allW := alw2 192 rfl rfl
theorem kw_434 : Cond.lays RX2 "ThoughtTax$Finds" "limit" "I" ∈ allW := alw2 194 rfl rfl
theorem kw_437 : Cond.classLink RX11 70 RX3 ∈ allW := alw2 197 rfl rfl
theorem kw_438 : Cond.instantiable RX3 4 ∈ allW := alw2 198 rfl rfl
theorem kw_439 : Cond.methodLinkNest RX11 72 yX3_init "ThoughtTax" ∈ nestW := nsw2 199 rfl rfl
theorem kw_440 : Cond.instanceMethod yX3_init ∈ allW := alw2 200 rfl rfl
theorem kw_441 : Cond.code yX3_init cX3_init 1 none ∈ allW := alw2 201 rfl rfl
theorem kw_442 : Cond.methodLink RX3 3 objectInit ∈ allW := alw2 202 rfl rfl
theorem kw_443 : Cond.fieldLink RX3 9 "ThoughtTax$Game" "PLAYS" "[I" ∈ allW := alw2 203 rfl rfl
theorem kw_445 : Cond.fieldLink RX3 15 "ThoughtTax$Game" "found" "[I" ∈ allW := alw2 205 rfl rfl
theorem kw_446 : Cond.fieldLink RX3 25 "ThoughtTax$Game" "rests" "I" ∈ allW := alw2 206 rfl rfl
theorem kw_447 : Cond.fieldLinkNest RX11 267 "ThoughtTax$Game" "rests" "I" "ThoughtTax" ∈ nestW := nsw2 207 rfl rfl
theorem kw_448 : Cond.fieldLink RX3 18 "ThoughtTax$Game" "worth" "I" ∈ allW := alw2 208 rfl rfl
theorem kw_449 : Cond.fieldLink RX3 22 "ThoughtTax$Game" "rate" "I" ∈ allW := alw2 209 rfl rfl
theorem kw_450 : Cond.laysFinal RX3 "ThoughtTax$Game" "found" "[I" ∈ allW := alw2 210 rfl rfl
theorem kw_452 : Cond.lays RX3 "ThoughtTax$Game" "rests" "I" ∈ allW := alw2 212 rfl rfl
theorem kw_454 : Cond.lays RX3 "ThoughtTax$Game" "worth" "I" ∈ allW := alw2 214 rfl rfl
theorem kw_456 : Cond.lays RX3 "ThoughtTax$Game" "rate" "I" ∈ allW := alw2 216 rfl rfl
theorem kw_459 : Cond.methodLinkNest RX11 77 yX10_begin "ThoughtTax" ∈ nestW := nsw2 219 rfl rfl
theorem kw_461 : Cond.instanceMethod yX10_begin ∈ allW := alw2 221 rfl rfl
theorem kw_462 : Cond.code yX10_begin cX10_begin 3 none ∈ allW := alw2 222 rfl rfl
theorem kw_463 : Cond.methodLink RX10 70 ⟨"java/lang/System", "arraycopy", "(Ljava/lang/Object;ILjava/lang/Object;II)V"⟩ ∈ allW := alw2 223 rfl rfl
theorem kw_464 : Cond.static ⟨"java/lang/System", "arraycopy", "(Ljava/lang/Object;ILjava/lang/Object;II)V"⟩ ∈ allW := alw2 224 rfl rfl
theorem kw_465 : Cond.native ⟨"java/lang/System", "arraycopy", "(Ljava/lang/Object;ILjava/lang/Object;II)V"⟩ ∈ allW := alw2 225 rfl rfl
theorem kw_466 : Cond.methodLink RX10 77 yJ7_fill_53178 ∈ allW := alw2 226 rfl rfl
theorem kw_467 : Cond.static yJ7_fill_53178 ∈ allW := alw2 227 rfl rfl
theorem kw_468 : Cond.code yJ7_fill_53178 cJ7_fill_53178 4 none ∈ allW := alw2 228 rfl rfl
theorem kw_469 : Cond.fieldLink RX11 12 "ThoughtTax" "tape" "LThoughtTax$Tape;" ∈ allW := alw2 229 rfl rfl
theorem kw_470 : Cond.fieldLink RX11 21 "ThoughtTax" "book" "LThoughtTax$Book;" ∈ allW := alw2 230 rfl rfl
theorem kw_471 : Cond.fieldLink RX11 25 "ThoughtTax" "spare" "LThoughtTax$Book;" ∈ allW := alw2 231 rfl rfl
theorem kw_472 : Cond.fieldLink RX11 33 "ThoughtTax" "textReader" "LThoughtTax$TextReader;" ∈ allW := alw2 232 rfl rfl
theorem kw_473 : Cond.fieldLink RX11 42 "ThoughtTax" "now" "LThoughtTax$World;" ∈ allW := alw2 233 rfl rfl
theorem kw_474 : Cond.fieldLink RX11 46 "ThoughtTax" "image" "LThoughtTax$World;" ∈ allW := alw2 234 rfl rfl
theorem kw_475 : Cond.fieldLink RX11 52 "ThoughtTax" "trials" "LThoughtTax$Trials;" ∈ allW := alw2 235 rfl rfl
theorem kw_476 : Cond.fieldLink RX11 59 "ThoughtTax" "deeds" "LThoughtTax$Deeds;" ∈ allW := alw2 236 rfl rfl
theorem kw_477 : Cond.fieldLink RX11 66 "ThoughtTax" "finds" "LThoughtTax$Finds;" ∈ allW := alw2 237 rfl rfl
theorem kw_478 : Cond.fieldLink RX11 73 "ThoughtTax" "game" "LThoughtTax$Game;" ∈ allW := alw2 238 rfl rfl
theorem kw_479 : Cond.fieldLink RX11 100 "ThoughtTax" "hasImage" "Z" ∈ allW := alw2 239 rfl rfl
theorem kw_480 : Cond.laysFinal RX11 "ThoughtTax" "tape" "LThoughtTax$Tape;" ∈ allW := alw3 0 rfl rfl
theorem kw_482 : Cond.lays RX11 "ThoughtTax" "book" "LThoughtTax$Book;" ∈ allW := alw3 2 rfl rfl
theorem kw_484 : Cond.lays RX11 "ThoughtTax" "spare" "LThoughtTax$Book;" ∈ allW := alw3 4 rfl rfl
theorem kw_486 : Cond.laysFinal RX11 "ThoughtTax" "textReader" "LThoughtTax$TextReader;" ∈ allW := alw3 6 rfl rfl
theorem kw_488 : Cond.laysFinal RX11 "ThoughtTax" "now" "LThoughtTax$World;" ∈ allW := alw3 8 rfl rfl
theorem kw_490 : Cond.laysFinal RX11 "ThoughtTax" "image" "LThoughtTax$World;" ∈ allW := alw3 10 rfl rfl
theorem kw_492 : Cond.laysFinal RX11 "ThoughtTax" "trials" "LThoughtTax$Trials;" ∈ allW := alw3 12 rfl rfl
theorem kw_494 : Cond.laysFinal RX11 "ThoughtTax" "deeds" "LThoughtTax$Deeds;" ∈ allW := alw3 14 rfl rfl
theorem kw_496 : Cond.laysFinal RX11 "ThoughtTax" "finds" "LThoughtTax$Finds;" ∈ allW := alw3 16 rfl rfl
theorem kw_498 : Cond.laysFinal RX11 "ThoughtTax" "game" "LThoughtTax$Game;" ∈ allW := alw3 18 rfl rfl
theorem kw_500 : Cond.lays RX11 "ThoughtTax" "hasImage" "Z" ∈ allW := alw3 20 rfl rfl
theorem kw_503 : Cond.methodLink RL 21 yX11_feed ∈ allW := alw3 23 rfl rfl
theorem kw_504 : Cond.instanceMethod yX11_feed ∈ allW := alw3 24 rfl rfl
theorem kw_505 : Cond.selects RX11 yX11_feed yX11_feed ∈ allW := alw3 25 rfl rfl
theorem kw_506 : Cond.code yX11_feed cX11_feed 6 (some .int) ∈ allW := alw3 26 rfl rfl
theorem kw_507 : Cond.methodLinkNest RX11 80 yX6_hasRoom "ThoughtTax" ∈ nestW := nsw3 27 rfl rfl
theorem kw_509 : Cond.instanceMethod yX6_hasRoom ∈ allW := alw3 29 rfl rfl
theorem kw_510 : Cond.code yX6_hasRoom cX6_hasRoom 2 (some .boolean) ∈ allW := alw3 30 rfl rfl
theorem kw_511 : Cond.methodLinkNest RX11 84 yX6_add "ThoughtTax" ∈ nestW := nsw3 31 rfl rfl
theorem kw_513 : Cond.instanceMethod yX6_add ∈ allW := alw3 33 rfl rfl
theorem kw_514 : Cond.code yX6_add cX6_add 3 none ∈ allW := alw3 34 rfl rfl
theorem kw_515 : Cond.methodLink RL 26 yX11_text ∈ allW := alw3 35 rfl rfl
theorem kw_516 : Cond.instanceMethod yX11_text ∈ allW := alw3 36 rfl rfl
theorem kw_517 : Cond.selects RX11 yX11_text yX11_text ∈ allW := alw3 37 rfl rfl
theorem kw_518 : Cond.code yX11_text cX11_text 4 (some .int) ∈ allW := alw3 38 rfl rfl
theorem kw_519 : Cond.methodLinkNest RX11 92 yX7_tell "ThoughtTax" ∈ nestW := nsw3 39 rfl rfl
theorem kw_521 : Cond.instanceMethod yX7_tell ∈ allW := alw3 41 rfl rfl
theorem kw_522 : Cond.code yX7_tell cX7_tell 4 (some .boolean) ∈ allW := alw3 42 rfl rfl
theorem kw_523 : Cond.methodLinkNest RX7 46 yX0_clear "ThoughtTax" ∈ nestW := nsw3 43 rfl rfl
theorem kw_525 : Cond.instanceMethod yX0_clear ∈ allW := alw3 45 rfl rfl
theorem kw_526 : Cond.code yX0_clear cX0_clear 1 none ∈ allW := alw3 46 rfl rfl
theorem kw_527 : Cond.methodLinkNest RX0 71 yX5_clear "ThoughtTax" ∈ nestW := nsw3 47 rfl rfl
theorem kw_529 : Cond.instanceMethod yX5_clear ∈ allW := alw3 49 rfl rfl
theorem kw_530 : Cond.code yX5_clear cX5_clear 1 none ∈ allW := alw3 50 rfl rfl
theorem kw_531 : Cond.methodLink RX5 32 yJ7_fill_53178 ∈ allW := alw3 51 rfl rfl
theorem kw_532 : Cond.methodLinkNest RX7 52 yX8_start "ThoughtTax" ∈ nestW := nsw3 52 rfl rfl
theorem kw_534 : Cond.instanceMethod yX8_start ∈ allW := alw3 54 rfl rfl
theorem kw_535 : Cond.code yX8_start cX8_start 2 none ∈ allW := alw3 55 rfl rfl
theorem kw_536 : Cond.methodLink RX8 22 yX8_advance ∈ allW := alw3 56 rfl rfl
theorem kw_538 : Cond.instanceMethod yX8_advance ∈ allW := alw3 58 rfl rfl
theorem kw_539 : Cond.code yX8_advance cX8_advance 2 none ∈ allW := alw3 59 rfl rfl
theorem kw_540 : Cond.methodLink RX8 31 yX8_signAt ∈ allW := alw3 60 rfl rfl
theorem kw_542 : Cond.instanceMethod yX8_signAt ∈ allW := alw3 62 rfl rfl
theorem kw_543 : Cond.code yX8_signAt cX8_signAt 2 (some .int) ∈ allW := alw3 63 rfl rfl
theorem kw_544 : Cond.methodLink RX8 38 yX8_isLetter ∈ allW := alw3 64 rfl rfl
theorem kw_545 : Cond.static yX8_isLetter ∈ allW := alw3 65 rfl rfl
theorem kw_546 : Cond.code yX8_isLetter cX8_isLetter 1 (some .boolean) ∈ allW := alw3 66 rfl rfl
theorem kw_547 : Cond.methodLink RX8 42 yX8_takeWord ∈ allW := alw3 67 rfl rfl
theorem kw_549 : Cond.instanceMethod yX8_takeWord ∈ allW := alw3 69 rfl rfl
theorem kw_550 : Cond.code yX8_takeWord cX8_takeWord 6 none ∈ allW := alw3 70 rfl rfl
theorem kw_551 : Cond.methodLink RX8 62 yX8_wordOf ∈ allW := alw3 71 rfl rfl
theorem kw_552 : Cond.static yX8_wordOf ∈ allW := alw3 72 rfl rfl
theorem kw_553 : Cond.code yX8_wordOf cX8_wordOf 3 (some .int) ∈ allW := alw3 73 rfl rfl
theorem kw_554 : Cond.fieldLink RX8 66 "ThoughtTax$Tokens" "WORDS" "[J" ∈ allW := alw3 74 rfl rfl
theorem kw_556 : Cond.methodLink RX8 45 yX8_isDigit ∈ allW := alw3 76 rfl rfl
theorem kw_557 : Cond.static yX8_isDigit ∈ allW := alw3 77 rfl rfl
theorem kw_558 : Cond.code yX8_isDigit cX8_isDigit 1 (some .boolean) ∈ allW := alw3 78 rfl rfl
theorem kw_559 : Cond.methodLink RX8 48 yX8_takeNumber ∈ allW := alw3 79 rfl rfl
theorem kw_561 : Cond.instanceMethod yX8_takeNumber ∈ allW := alw3 81 rfl rfl
theorem kw_562 : Cond.code yX8_takeNumber cX8_takeNumber 1 none ∈ allW := alw3 82 rfl rfl
theorem kw_563 : Cond.constant RX8 61 (1000000 : Int32) ∈ allW := alw3 83 rfl rfl
theorem kw_564 : Cond.methodLink RX8 51 yX8_takeSign ∈ allW := alw3 84 rfl rfl
theorem kw_566 : Cond.instanceMethod yX8_takeSign ∈ allW := alw3 86 rfl rfl
theorem kw_567 : Cond.code yX8_takeSign cX8_takeSign 3 none ∈ allW := alw3 87 rfl rfl
theorem kw_568 : Cond.methodLink RX7 61 yX7_takeLine ∈ allW := alw3 88 rfl rfl
theorem kw_570 : Cond.instanceMethod yX7_takeLine ∈ allW := alw3 90 rfl rfl
theorem kw_571 : Cond.code yX7_takeLine cX7_takeLine 1 (some .boolean) ∈ allW := alw3 91 rfl rfl
theorem kw_572 : Cond.methodLink RX7 76 yX7_blame ∈ allW := alw3 92 rfl rfl
theorem kw_574 : Cond.instanceMethod yX7_blame ∈ allW := alw3 94 rfl rfl
theorem kw_575 : Cond.code yX7_blame cX7_blame 2 (some .boolean) ∈ allW := alw3 95 rfl rfl
theorem kw_576 : Cond.methodLink RX7 85 yX7_takeMan ∈ allW := alw3 96 rfl rfl
theorem kw_578 : Cond.instanceMethod yX7_takeMan ∈ allW := alw3 98 rfl rfl
theorem kw_579 : Cond.code yX7_takeMan cX7_takeMan 2 (some .boolean) ∈ allW := alw3 99 rfl rfl
theorem kw_580 : Cond.methodLinkNest RX7 79 yX8_advance "ThoughtTax" ∈ nestW := nsw3 100 rfl rfl
theorem kw_581 : Cond.methodLinkNest RX7 109 yX0_manNamed "ThoughtTax" ∈ nestW := nsw3 101 rfl rfl
theorem kw_583 : Cond.instanceMethod yX0_manNamed ∈ allW := alw3 103 rfl rfl
theorem kw_584 : Cond.code yX0_manNamed cX0_manNamed 2 (some .int) ∈ allW := alw3 104 rfl rfl
theorem kw_585 : Cond.methodLink RX0 74 yX0_placeOf ∈ allW := alw3 105 rfl rfl
theorem kw_586 : Cond.static yX0_placeOf ∈ allW := alw3 106 rfl rfl
theorem kw_587 : Cond.code yX0_placeOf cX0_placeOf 4 (some .int) ∈ allW := alw3 107 rfl rfl
theorem kw_588 : Cond.methodLink RX7 113 yX7_isNewName ∈ allW := alw3 108 rfl rfl
theorem kw_590 : Cond.instanceMethod yX7_isNewName ∈ allW := alw3 110 rfl rfl
theorem kw_591 : Cond.code yX7_isNewName cX7_isNewName 2 (some .boolean) ∈ allW := alw3 111 rfl rfl
theorem kw_592 : Cond.methodLink RX7 120 yX7_takeNumber ∈ allW := alw3 112 rfl rfl
theorem kw_594 : Cond.instanceMethod yX7_takeNumber ∈ allW := alw3 114 rfl rfl
theorem kw_595 : Cond.code yX7_takeNumber cX7_takeNumber 3 (some .boolean) ∈ allW := alw3 115 rfl rfl
theorem kw_596 : Cond.methodLink RX7 88 yX7_takeThought ∈ allW := alw3 116 rfl rfl
theorem kw_598 : Cond.instanceMethod yX7_takeThought ∈ allW := alw3 118 rfl rfl
theorem kw_599 : Cond.code yX7_takeThought cX7_takeThought 3 (some .boolean) ∈ allW := alw3 119 rfl rfl
theorem kw_600 : Cond.methodLink RX7 91 yX7_takeReader ∈ allW := alw3 120 rfl rfl
theorem kw_602 : Cond.instanceMethod yX7_takeReader ∈ allW := alw3 122 rfl rfl
theorem kw_603 : Cond.code yX7_takeReader cX7_takeReader 2 (some .boolean) ∈ allW := alw3 123 rfl rfl
theorem kw_604 : Cond.methodLinkNest RX7 136 yX0_readerNamed "ThoughtTax" ∈ nestW := nsw3 124 rfl rfl
theorem kw_606 : Cond.instanceMethod yX0_readerNamed ∈ allW := alw3 126 rfl rfl
theorem kw_607 : Cond.code yX0_readerNamed cX0_readerNamed 2 (some .int) ∈ allW := alw3 127 rfl rfl
theorem kw_608 : Cond.methodLink RX7 94 yX7_takeRate ∈ allW := alw3 128 rfl rfl
theorem kw_610 : Cond.instanceMethod yX7_takeRate ∈ allW := alw3 130 rfl rfl
theorem kw_611 : Cond.code yX7_takeRate cX7_takeRate 1 (some .boolean) ∈ allW := alw3 131 rfl rfl
theorem kw_612 : Cond.methodLink RX7 163 yX7_takeOnce ∈ allW := alw3 132 rfl rfl
theorem kw_614 : Cond.instanceMethod yX7_takeOnce ∈ allW := alw3 134 rfl rfl
theorem kw_615 : Cond.code yX7_takeOnce cX7_takeOnce 2 (some .boolean) ∈ allW := alw3 135 rfl rfl
theorem kw_616 : Cond.methodLink RX7 97 yX7_takeDull ∈ allW := alw3 136 rfl rfl
theorem kw_618 : Cond.instanceMethod yX7_takeDull ∈ allW := alw3 138 rfl rfl
theorem kw_619 : Cond.code yX7_takeDull cX7_takeDull 1 (some .boolean) ∈ allW := alw3 139 rfl rfl
theorem kw_620 : Cond.methodLink RX7 100 yX7_takeSeed ∈ allW := alw3 140 rfl rfl
theorem kw_622 : Cond.instanceMethod yX7_takeSeed ∈ allW := alw3 142 rfl rfl
theorem kw_623 : Cond.code yX7_takeSeed cX7_takeSeed 1 (some .boolean) ∈ allW := alw3 143 rfl rfl
theorem kw_624 : Cond.constant RX7 172 (99999 : Int32) ∈ allW := alw3 144 rfl rfl
theorem kw_625 : Cond.methodLink RX7 103 yX7_takeLaw ∈ allW := alw3 145 rfl rfl
theorem kw_627 : Cond.instanceMethod yX7_takeLaw ∈ allW := alw3 147 rfl rfl
theorem kw_628 : Cond.code yX7_takeLaw cX7_takeLaw 3 (some .boolean) ∈ allW := alw3 148 rfl rfl
theorem kw_629 : Cond.methodLinkNest RX7 176 yX5_isTold "ThoughtTax" ∈ nestW := nsw3 149 rfl rfl
theorem kw_631 : Cond.instanceMethod yX5_isTold ∈ allW := alw3 151 rfl rfl
theorem kw_632 : Cond.code yX5_isTold cX5_isTold 2 (some .boolean) ∈ allW := alw3 152 rfl rfl
theorem kw_633 : Cond.methodLinkNest RX7 181 yX4_read "ThoughtTax" ∈ nestW := nsw3 153 rfl rfl
theorem kw_635 : Cond.instanceMethod yX4_read ∈ allW := alw3 155 rfl rfl
theorem kw_636 : Cond.code yX4_read cX4_read 5 (some .int) ∈ allW := alw3 156 rfl rfl
theorem kw_637 : Cond.methodLinkNest RX4 29 yX5_open "ThoughtTax" ∈ nestW := nsw3 157 rfl rfl
theorem kw_639 : Cond.instanceMethod yX5_open ∈ allW := alw3 159 rfl rfl
theorem kw_640 : Cond.code yX5_open cX5_open 2 none ∈ allW := alw3 160 rfl rfl
theorem kw_641 : Cond.methodLink RX4 45 yX4_expectOperand ∈ allW := alw3 161 rfl rfl
theorem kw_643 : Cond.instanceMethod yX4_expectOperand ∈ allW := alw3 163 rfl rfl
theorem kw_644 : Cond.code yX4_expectOperand cX4_expectOperand 2 none ∈ allW := alw3 164 rfl rfl
theorem kw_645 : Cond.methodLinkNest RX4 55 yX8_isSign "ThoughtTax" ∈ nestW := nsw3 165 rfl rfl
theorem kw_647 : Cond.instanceMethod yX8_isSign ∈ allW := alw3 167 rfl rfl
theorem kw_648 : Cond.code yX8_isSign cX8_isSign 2 (some .boolean) ∈ allW := alw3 168 rfl rfl
theorem kw_649 : Cond.methodLink RX4 61 yX4_release ∈ allW := alw3 169 rfl rfl
theorem kw_651 : Cond.instanceMethod yX4_release ∈ allW := alw3 171 rfl rfl
theorem kw_652 : Cond.code yX4_release cX4_release 2 none ∈ allW := alw3 172 rfl rfl
theorem kw_653 : Cond.methodLink RX4 108 yX4_rankOf ∈ allW := alw3 173 rfl rfl
theorem kw_654 : Cond.static yX4_rankOf ∈ allW := alw3 174 rfl rfl
theorem kw_655 : Cond.code yX4_rankOf cX4_rankOf 1 (some .int) ∈ allW := alw3 175 rfl rfl
theorem kw_656 : Cond.fieldLink RX4 112 "ThoughtTax$LawReader" "RANKS" "[I" ∈ allW := alw3 176 rfl rfl
theorem kw_658 : Cond.methodLinkNest RX4 98 yX5_add "ThoughtTax" ∈ nestW := nsw3 178 rfl rfl
theorem kw_660 : Cond.instanceMethod yX5_add ∈ allW := alw3 180 rfl rfl
theorem kw_661 : Cond.code yX5_add cX5_add 3 none ∈ allW := alw3 181 rfl rfl
theorem kw_662 : Cond.methodLinkNest RX4 64 yX5_close "ThoughtTax" ∈ nestW := nsw3 182 rfl rfl
theorem kw_664 : Cond.instanceMethod yX5_close ∈ allW := alw3 184 rfl rfl
theorem kw_665 : Cond.code yX5_close cX5_close 2 none ∈ allW := alw3 185 rfl rfl
theorem kw_666 : Cond.methodLink RX4 67 yX4_takeOperand ∈ allW := alw3 186 rfl rfl
theorem kw_668 : Cond.instanceMethod yX4_takeOperand ∈ allW := alw3 188 rfl rfl
theorem kw_669 : Cond.code yX4_takeOperand cX4_takeOperand 3 (some .int) ∈ allW := alw3 189 rfl rfl
theorem kw_670 : Cond.methodLink RX4 83 yX4_takeOpening ∈ allW := alw3 190 rfl rfl
theorem kw_672 : Cond.instanceMethod yX4_takeOpening ∈ allW := alw3 192 rfl rfl
theorem kw_673 : Cond.code yX4_takeOpening cX4_takeOpening 1 (some .int) ∈ allW := alw3 193 rfl rfl
theorem kw_674 : Cond.methodLink RX4 102 yX4_push ∈ allW := alw3 194 rfl rfl
theorem kw_676 : Cond.instanceMethod yX4_push ∈ allW := alw3 196 rfl rfl
theorem kw_677 : Cond.code yX4_push cX4_push 2 none ∈ allW := alw3 197 rfl rfl
theorem kw_678 : Cond.methodLinkNest RX4 86 yX8_isWord "ThoughtTax" ∈ nestW := nsw3 198 rfl rfl
theorem kw_680 : Cond.instanceMethod yX8_isWord ∈ allW := alw3 200 rfl rfl
theorem kw_681 : Cond.code yX8_isWord cX8_isWord 2 (some .boolean) ∈ allW := alw3 201 rfl rfl
theorem kw_682 : Cond.methodLink RX4 89 yX4_takeNegation ∈ allW := alw3 202 rfl rfl
theorem kw_684 : Cond.instanceMethod yX4_takeNegation ∈ allW := alw3 204 rfl rfl
theorem kw_685 : Cond.code yX4_takeNegation cX4_takeNegation 1 (some .int) ∈ allW := alw3 205 rfl rfl
theorem kw_686 : Cond.methodLink RX4 71 yX4_takeClosing ∈ allW := alw3 206 rfl rfl
theorem kw_688 : Cond.instanceMethod yX4_takeClosing ∈ allW := alw3 208 rfl rfl
theorem kw_689 : Cond.code yX4_takeClosing cX4_takeClosing 1 (some .int) ∈ allW := alw3 209 rfl rfl
theorem kw_690 : Cond.methodLink RX4 74 yX4_takeOperator ∈ allW := alw3 210 rfl rfl
theorem kw_692 : Cond.instanceMethod yX4_takeOperator ∈ allW := alw3 212 rfl rfl
theorem kw_693 : Cond.code yX4_takeOperator cX4_takeOperator 4 (some .int) ∈ allW := alw3 213 rfl rfl
theorem kw_694 : Cond.methodLink RX4 105 yX4_operator ∈ allW := alw3 214 rfl rfl
theorem kw_696 : Cond.instanceMethod yX4_operator ∈ allW := alw3 216 rfl rfl
theorem kw_697 : Cond.code yX4_operator cX4_operator 1 (some .int) ∈ allW := alw3 217 rfl rfl
theorem kw_698 : Cond.methodLinkNest RX4 77 yX8_advance "ThoughtTax" ∈ nestW := nsw3 218 rfl rfl
theorem kw_699 : Cond.methodLink RX7 65 yX7_takeStop ∈ allW := alw3 219 rfl rfl
theorem kw_701 : Cond.instanceMethod yX7_takeStop ∈ allW := alw3 221 rfl rfl
theorem kw_702 : Cond.code yX7_takeStop cX7_takeStop 1 (some .boolean) ∈ allW := alw3 222 rfl rfl
theorem kw_703 : Cond.methodLinkNest RX7 72 yX8_isSign "ThoughtTax" ∈ nestW := nsw3 223 rfl rfl
theorem kw_704 : Cond.methodLinkNest RX11 96 yX2_clear "ThoughtTax" ∈ nestW := nsw3 224 rfl rfl
theorem kw_706 : Cond.instanceMethod yX2_clear ∈ allW := alw3 226 rfl rfl
theorem kw_707 : Cond.code yX2_clear cX2_clear 1 none ∈ allW := alw3 227 rfl rfl
theorem kw_708 : Cond.methodLinkNest RX11 99 yX1_clear "ThoughtTax" ∈ nestW := nsw3 228 rfl rfl
theorem kw_710 : Cond.instanceMethod yX1_clear ∈ allW := alw3 230 rfl rfl
theorem kw_711 : Cond.code yX1_clear cX1_clear 1 none ∈ allW := alw3 231 rfl rfl
theorem kw_712 : Cond.methodLink RL 31 yX11_fault ∈ allW := alw3 232 rfl rfl
theorem kw_713 : Cond.instanceMethod yX11_fault ∈ allW := alw3 233 rfl rfl
theorem kw_714 : Cond.selects RX11 yX11_fault yX11_fault ∈ allW := alw3 234 rfl rfl
theorem kw_715 : Cond.code yX11_fault cX11_fault 2 (some .int) ∈ allW := alw3 235 rfl rfl
theorem kw_716 : Cond.methodLink RL 35 yX11_named ∈ allW := alw3 236 rfl rfl
theorem kw_717 : Cond.instanceMethod yX11_named ∈ allW := alw3 237 rfl rfl
theorem kw_718 : Cond.selects RX11 yX11_named yX11_named ∈ allW := alw3 238 rfl rfl
theorem kw_719 : Cond.code yX11_named cX11_named 3 (some .int) ∈ allW := alw3 239 rfl rfl
theorem kw_720 : Cond.methodLinkNest RX11 113 yX0_manNamed "ThoughtTax" ∈ nestW := nsw4 0 rfl rfl
theorem kw_721 : Cond.methodLinkNest RX11 117 yX0_readerNamed "ThoughtTax" ∈ nestW := nsw4 1 rfl rfl
theorem kw_722 : Cond.methodLink RL 49 yX11_man ∈ allW := alw4 2 rfl rfl
theorem kw_723 : Cond.instanceMethod yX11_man ∈ allW := alw4 3 rfl rfl
theorem kw_724 : Cond.selects RX11 yX11_man yX11_man ∈ allW := alw4 4 rfl rfl
theorem kw_725 : Cond.code yX11_man cX11_man 3 (some .int) ∈ allW := alw4 5 rfl rfl
theorem kw_726 : Cond.methodLinkNest RX11 157 yX0_isMan "ThoughtTax" ∈ nestW := nsw4 6 rfl rfl
theorem kw_728 : Cond.instanceMethod yX0_isMan ∈ allW := alw4 8 rfl rfl
theorem kw_729 : Cond.code yX0_isMan cX0_isMan 2 (some .boolean) ∈ allW := alw4 9 rfl rfl
theorem kw_730 : Cond.methodLink RL 53 yX11_reader ∈ allW := alw4 10 rfl rfl
theorem kw_731 : Cond.instanceMethod yX11_reader ∈ allW := alw4 11 rfl rfl
theorem kw_732 : Cond.selects RX11 yX11_reader yX11_reader ∈ allW := alw4 12 rfl rfl
theorem kw_733 : Cond.code yX11_reader cX11_reader 3 (some .int) ∈ allW := alw4 13 rfl rfl
theorem kw_734 : Cond.methodLinkNest RX11 178 yX0_isReader "ThoughtTax" ∈ nestW := nsw4 14 rfl rfl
theorem kw_736 : Cond.instanceMethod yX0_isReader ∈ allW := alw4 16 rfl rfl
theorem kw_737 : Cond.code yX0_isReader cX0_isReader 2 (some .boolean) ∈ allW := alw4 17 rfl rfl
theorem kw_738 : Cond.methodLink RL 57 yX11_law ∈ allW := alw4 18 rfl rfl
theorem kw_739 : Cond.instanceMethod yX11_law ∈ allW := alw4 19 rfl rfl
theorem kw_740 : Cond.selects RX11 yX11_law yX11_law ∈ allW := alw4 20 rfl rfl
theorem kw_741 : Cond.code yX11_law cX11_law 3 (some .long) ∈ allW := alw4 21 rfl rfl
theorem kw_742 : Cond.methodLinkNest RX11 185 yX10_readLawNow "ThoughtTax" ∈ nestW := nsw4 22 rfl rfl
theorem kw_744 : Cond.instanceMethod yX10_readLawNow ∈ allW := alw4 24 rfl rfl
theorem kw_745 : Cond.code yX10_readLawNow cX10_readLawNow 2 (some .long) ∈ allW := alw4 25 rfl rfl
theorem kw_746 : Cond.methodLink RX10 172 yX10_isHeld ∈ allW := alw4 26 rfl rfl
theorem kw_748 : Cond.instanceMethod yX10_isHeld ∈ allW := alw4 28 rfl rfl
theorem kw_749 : Cond.code yX10_isHeld cX10_isHeld 2 (some .boolean) ∈ allW := alw4 29 rfl rfl
theorem kw_750 : Cond.methodLinkNest RX10 168 yX0_isThought "ThoughtTax" ∈ nestW := nsw4 30 rfl rfl
theorem kw_752 : Cond.instanceMethod yX0_isThought ∈ allW := alw4 32 rfl rfl
theorem kw_753 : Cond.code yX0_isThought cX0_isThought 2 (some .boolean) ∈ allW := alw4 33 rfl rfl
theorem kw_754 : Cond.methodLinkNest RX10 126 yX0_isMan "ThoughtTax" ∈ nestW := nsw4 34 rfl rfl
theorem kw_755 : Cond.constantLong RX10 175 (-9223372036854775808 : Int64) ∈ allW := alw4 35 rfl rfl
theorem kw_756 : Cond.methodLink RX10 207 yX10_readerOf ∈ allW := alw4 36 rfl rfl
theorem kw_758 : Cond.instanceMethod yX10_readerOf ∈ allW := alw4 38 rfl rfl
theorem kw_759 : Cond.code yX10_readerOf cX10_readerOf 2 (some .int) ∈ allW := alw4 39 rfl rfl
theorem kw_760 : Cond.methodLink RX10 186 yX10_nameDoor ∈ allW := alw4 40 rfl rfl
theorem kw_762 : Cond.instanceMethod yX10_nameDoor ∈ allW := alw4 42 rfl rfl
theorem kw_763 : Cond.code yX10_nameDoor cX10_nameDoor 7 none ∈ allW := alw4 43 rfl rfl
theorem kw_764 : Cond.methodLinkNest RX10 102 yX0_isReader "ThoughtTax" ∈ nestW := nsw4 44 rfl rfl
theorem kw_765 : Cond.methodLinkNest RX10 190 yX5_work "ThoughtTax" ∈ nestW := nsw4 45 rfl rfl
theorem kw_767 : Cond.instanceMethod yX5_work ∈ allW := alw4 47 rfl rfl
theorem kw_768 : Cond.code yX5_work cX5_work 7 (some .long) ∈ allW := alw4 48 rfl rfl
theorem kw_769 : Cond.methodLink RX5 38 yX5_isTold ∈ allW := alw4 49 rfl rfl
theorem kw_770 : Cond.constantLong RX5 42 (-9223372036854775808 : Int64) ∈ allW := alw4 50 rfl rfl
theorem kw_771 : Cond.methodLink RX5 44 yJ9_max_7cf53 ∈ allW := alw4 51 rfl rfl
theorem kw_772 : Cond.static yJ9_max_7cf53 ∈ allW := alw4 52 rfl rfl
theorem kw_773 : Cond.code yJ9_max_7cf53 cJ9_max_7cf53 2 (some .int) ∈ allW := alw4 53 rfl rfl
theorem kw_774 : Cond.methodLink RX5 50 yX5_at ∈ allW := alw4 54 rfl rfl
theorem kw_776 : Cond.instanceMethod yX5_at ∈ allW := alw4 56 rfl rfl
theorem kw_777 : Cond.code yX5_at cX5_at 2 (some .long) ∈ allW := alw4 57 rfl rfl
theorem kw_778 : Cond.methodLink RX5 54 yX5_product ∈ allW := alw4 58 rfl rfl
theorem kw_779 : Cond.static yX5_product ∈ allW := alw4 59 rfl rfl
theorem kw_780 : Cond.code yX5_product cX5_product 8 (some .long) ∈ allW := alw4 60 rfl rfl
theorem kw_781 : Cond.constantLong RX5 62 (1000000000000 : Int64) ∈ allW := alw4 61 rfl rfl
theorem kw_782 : Cond.methodLink RX5 58 yX5_join ∈ allW := alw4 62 rfl rfl
theorem kw_783 : Cond.static yX5_join ∈ allW := alw4 63 rfl rfl
theorem kw_784 : Cond.code yX5_join cX5_join 5 (some .long) ∈ allW := alw4 64 rfl rfl
theorem kw_785 : Cond.constantLong RX5 64 (-1000000000000 : Int64) ∈ allW := alw4 65 rfl rfl
theorem kw_786 : Cond.methodLinkNest RX11 189 yX10_dueLawNow "ThoughtTax" ∈ nestW := nsw4 66 rfl rfl
theorem kw_788 : Cond.instanceMethod yX10_dueLawNow ∈ allW := alw4 68 rfl rfl
theorem kw_789 : Cond.code yX10_dueLawNow cX10_dueLawNow 2 (some .long) ∈ allW := alw4 69 rfl rfl
theorem kw_790 : Cond.methodLink RX10 210 yX10_bestHeld ∈ allW := alw4 70 rfl rfl
theorem kw_792 : Cond.instanceMethod yX10_bestHeld ∈ allW := alw4 72 rfl rfl
theorem kw_793 : Cond.code yX10_bestHeld cX10_bestHeld 4 (some .int) ∈ allW := alw4 73 rfl rfl
theorem kw_794 : Cond.methodLink RX10 133 yX10_isHeldAt ∈ allW := alw4 74 rfl rfl
theorem kw_796 : Cond.instanceMethod yX10_isHeldAt ∈ allW := alw4 76 rfl rfl
theorem kw_797 : Cond.code yX10_isHeldAt cX10_isHeldAt 3 (some .boolean) ∈ allW := alw4 77 rfl rfl
theorem kw_798 : Cond.methodLink RX10 144 yJ9_max_7cf53 ∈ allW := alw4 78 rfl rfl
theorem kw_799 : Cond.methodLinkNest RX11 192 yX10_hideLawNow "ThoughtTax" ∈ nestW := nsw4 79 rfl rfl
theorem kw_801 : Cond.instanceMethod yX10_hideLawNow ∈ allW := alw4 81 rfl rfl
theorem kw_802 : Cond.code yX10_hideLawNow cX10_hideLawNow 2 (some .long) ∈ allW := alw4 82 rfl rfl
theorem kw_803 : Cond.constantLong RX11 195 (-9223372036854775808 : Int64) ∈ allW := alw4 83 rfl rfl
theorem kw_804 : Cond.methodLink RL 62 yX11_hide ∈ allW := alw4 84 rfl rfl
theorem kw_805 : Cond.instanceMethod yX11_hide ∈ allW := alw4 85 rfl rfl
theorem kw_806 : Cond.selects RX11 yX11_hide yX11_hide ∈ allW := alw4 86 rfl rfl
theorem kw_807 : Cond.code yX11_hide cX11_hide 3 (some .boolean) ∈ allW := alw4 87 rfl rfl
theorem kw_808 : Cond.methodLinkNest RX11 197 yX10_isHeld "ThoughtTax" ∈ nestW := nsw4 88 rfl rfl
theorem kw_809 : Cond.methodLinkNest RX11 200 yX1_note "ThoughtTax" ∈ nestW := nsw4 89 rfl rfl
theorem kw_811 : Cond.instanceMethod yX1_note ∈ allW := alw4 91 rfl rfl
theorem kw_812 : Cond.code yX1_note cX1_note 4 none ∈ allW := alw4 92 rfl rfl
theorem kw_813 : Cond.methodLink RX1 23 ⟨"java/lang/System", "arraycopy", "(Ljava/lang/Object;ILjava/lang/Object;II)V"⟩ ∈ allW := alw4 93 rfl rfl
theorem kw_814 : Cond.methodLink RL 67 yX11_buy ∈ allW := alw4 94 rfl rfl
theorem kw_815 : Cond.instanceMethod yX11_buy ∈ allW := alw4 95 rfl rfl
theorem kw_816 : Cond.selects RX11 yX11_buy yX11_buy ∈ allW := alw4 96 rfl rfl
theorem kw_817 : Cond.code yX11_buy cX11_buy 4 (some .int) ∈ allW := alw4 97 rfl rfl
theorem kw_818 : Cond.methodLink RL 71 yX11_round ∈ allW := alw4 98 rfl rfl
theorem kw_819 : Cond.instanceMethod yX11_round ∈ allW := alw4 99 rfl rfl
theorem kw_820 : Cond.selects RX11 yX11_round yX11_round ∈ allW := alw4 100 rfl rfl
theorem kw_821 : Cond.code yX11_round cX11_round 3 (some .boolean) ∈ allW := alw4 101 rfl rfl
theorem kw_822 : Cond.methodLink RL 75 yX11_rate ∈ allW := alw4 102 rfl rfl
theorem kw_823 : Cond.instanceMethod yX11_rate ∈ allW := alw4 103 rfl rfl
theorem kw_824 : Cond.selects RX11 yX11_rate yX11_rate ∈ allW := alw4 104 rfl rfl
theorem kw_825 : Cond.code yX11_rate cX11_rate 2 (some .boolean) ∈ allW := alw4 105 rfl rfl
theorem kw_826 : Cond.methodLink RL 80 yX11_weeks ∈ allW := alw4 106 rfl rfl
theorem kw_827 : Cond.instanceMethod yX11_weeks ∈ allW := alw4 107 rfl rfl
theorem kw_828 : Cond.selects RX11 yX11_weeks yX11_weeks ∈ allW := alw4 108 rfl rfl
theorem kw_829 : Cond.code yX11_weeks cX11_weeks 2 (some .int) ∈ allW := alw4 109 rfl rfl
theorem kw_830 : Cond.methodLinkNest RX11 213 yX10_goWeeks "ThoughtTax" ∈ nestW := nsw4 110 rfl rfl
theorem kw_832 : Cond.instanceMethod yX10_goWeeks ∈ allW := alw4 112 rfl rfl
theorem kw_833 : Cond.code yX10_goWeeks cX10_goWeeks 6 none ∈ allW := alw4 113 rfl rfl
theorem kw_834 : Cond.methodLink RX10 90 yX10_think ∈ allW := alw4 114 rfl rfl
theorem kw_836 : Cond.instanceMethod yX10_think ∈ allW := alw4 116 rfl rfl
theorem kw_837 : Cond.code yX10_think cX10_think 2 none ∈ allW := alw4 117 rfl rfl
theorem kw_838 : Cond.methodLink RX10 96 yJ9_min_7cf53 ∈ allW := alw4 118 rfl rfl
theorem kw_839 : Cond.static yJ9_min_7cf53 ∈ allW := alw4 119 rfl rfl
theorem kw_840 : Cond.code yJ9_min_7cf53 cJ9_min_7cf53 2 (some .int) ∈ allW := alw4 120 rfl rfl
theorem kw_841 : Cond.methodLink RX10 106 yX10_dueAt ∈ allW := alw4 121 rfl rfl
theorem kw_843 : Cond.instanceMethod yX10_dueAt ∈ allW := alw4 123 rfl rfl
theorem kw_844 : Cond.code yX10_dueAt cX10_dueAt 6 (some .int) ∈ allW := alw4 124 rfl rfl
theorem kw_845 : Cond.methodLink RX10 137 yX10_reads ∈ allW := alw4 125 rfl rfl
theorem kw_847 : Cond.instanceMethod yX10_reads ∈ allW := alw4 127 rfl rfl
theorem kw_848 : Cond.code yX10_reads cX10_reads 5 (some .boolean) ∈ allW := alw4 128 rfl rfl
theorem kw_849 : Cond.methodLink RX10 151 yX10_knowsTongue ∈ allW := alw4 129 rfl rfl
theorem kw_851 : Cond.instanceMethod yX10_knowsTongue ∈ allW := alw4 131 rfl rfl
theorem kw_852 : Cond.code yX10_knowsTongue cX10_knowsTongue 3 (some .boolean) ∈ allW := alw4 132 rfl rfl
theorem kw_853 : Cond.methodLink RX10 154 yX10_readOf ∈ allW := alw4 133 rfl rfl
theorem kw_855 : Cond.instanceMethod yX10_readOf ∈ allW := alw4 135 rfl rfl
theorem kw_856 : Cond.code yX10_readOf cX10_readOf 6 (some .int) ∈ allW := alw4 136 rfl rfl
theorem kw_857 : Cond.methodLinkNest RX10 181 yX5_isTold "ThoughtTax" ∈ nestW := nsw4 137 rfl rfl
theorem kw_858 : Cond.methodLink RX10 194 yX10_within ∈ allW := alw4 138 rfl rfl
theorem kw_859 : Cond.static yX10_within ∈ allW := alw4 139 rfl rfl
theorem kw_860 : Cond.code yX10_within cX10_within 3 (some .int) ∈ allW := alw4 140 rfl rfl
theorem kw_861 : Cond.methodLink RX10 202 yJ9_min_f86c9 ∈ allW := alw4 141 rfl rfl
theorem kw_862 : Cond.static yJ9_min_f86c9 ∈ allW := alw4 142 rfl rfl
theorem kw_863 : Cond.code yJ9_min_f86c9 cJ9_min_f86c9 4 (some .long) ∈ allW := alw4 143 rfl rfl
theorem kw_864 : Cond.methodLink RX10 205 yJ9_max_f86c9 ∈ allW := alw4 144 rfl rfl
theorem kw_865 : Cond.static yJ9_max_f86c9 ∈ allW := alw4 145 rfl rfl
theorem kw_866 : Cond.code yJ9_max_f86c9 cJ9_max_f86c9 4 (some .long) ∈ allW := alw4 146 rfl rfl
theorem kw_867 : Cond.methodLink RX10 157 yX10_draw ∈ allW := alw4 147 rfl rfl
theorem kw_869 : Cond.instanceMethod yX10_draw ∈ allW := alw4 149 rfl rfl
theorem kw_870 : Cond.code yX10_draw cX10_draw 1 (some .int) ∈ allW := alw4 150 rfl rfl
theorem kw_871 : Cond.constantLong RX10 161 (1103515245 : Int64) ∈ allW := alw4 151 rfl rfl
theorem kw_872 : Cond.constantLong RX10 163 (12345 : Int64) ∈ allW := alw4 152 rfl rfl
theorem kw_873 : Cond.constantLong RX10 165 (2147483647 : Int64) ∈ allW := alw4 153 rfl rfl
theorem kw_874 : Cond.constant RX10 167 (65536 : Int32) ∈ allW := alw4 154 rfl rfl
theorem kw_875 : Cond.methodLink RX10 147 yX10_dueOf ∈ allW := alw4 155 rfl rfl
theorem kw_877 : Cond.instanceMethod yX10_dueOf ∈ allW := alw4 157 rfl rfl
theorem kw_878 : Cond.code yX10_dueOf cX10_dueOf 6 (some .int) ∈ allW := alw4 158 rfl rfl
theorem kw_879 : Cond.methodLink RX10 110 yX10_pay ∈ allW := alw4 159 rfl rfl
theorem kw_881 : Cond.instanceMethod yX10_pay ∈ allW := alw4 161 rfl rfl
theorem kw_882 : Cond.code yX10_pay cX10_pay 4 none ∈ allW := alw4 162 rfl rfl
theorem kw_883 : Cond.methodLink RX10 114 yX10_forget ∈ allW := alw4 163 rfl rfl
theorem kw_885 : Cond.instanceMethod yX10_forget ∈ allW := alw4 165 rfl rfl
theorem kw_886 : Cond.code yX10_forget cX10_forget 2 none ∈ allW := alw4 166 rfl rfl
theorem kw_887 : Cond.methodLink RX10 129 yX10_hideOf ∈ allW := alw4 167 rfl rfl
theorem kw_889 : Cond.instanceMethod yX10_hideOf ∈ allW := alw4 169 rfl rfl
theorem kw_890 : Cond.code yX10_hideOf cX10_hideOf 5 (some .int) ∈ allW := alw4 170 rfl rfl
theorem kw_891 : Cond.methodLink RL 84 yX11_ahead ∈ allW := alw4 171 rfl rfl
theorem kw_892 : Cond.instanceMethod yX11_ahead ∈ allW := alw4 172 rfl rfl
theorem kw_893 : Cond.selects RX11 yX11_ahead yX11_ahead ∈ allW := alw4 173 rfl rfl
theorem kw_894 : Cond.code yX11_ahead cX11_ahead 3 (some .int) ∈ allW := alw4 174 rfl rfl
theorem kw_895 : Cond.methodLinkNest RX11 217 yX9_comes "ThoughtTax" ∈ nestW := nsw4 175 rfl rfl
theorem kw_897 : Cond.instanceMethod yX9_comes ∈ allW := alw4 177 rfl rfl
theorem kw_898 : Cond.code yX9_comes cX9_comes 4 (some .int) ∈ allW := alw4 178 rfl rfl
theorem kw_899 : Cond.methodLinkNest RX9 24 yX10_copy "ThoughtTax" ∈ nestW := nsw4 179 rfl rfl
theorem kw_901 : Cond.instanceMethod yX10_copy ∈ allW := alw4 181 rfl rfl
theorem kw_902 : Cond.code yX10_copy cX10_copy 2 none ∈ allW := alw4 182 rfl rfl
theorem kw_903 : Cond.methodLinkNest RX9 28 yX10_goWeeks "ThoughtTax" ∈ nestW := nsw4 183 rfl rfl
theorem kw_904 : Cond.methodLinkNest RX9 35 yX10_sum "ThoughtTax" ∈ nestW := nsw4 184 rfl rfl
theorem kw_906 : Cond.instanceMethod yX10_sum ∈ allW := alw4 186 rfl rfl
theorem kw_907 : Cond.code yX10_sum cX10_sum 4 (some .int) ∈ allW := alw4 187 rfl rfl
theorem kw_908 : Cond.methodLinkNest RX9 42 yX10_countOf "ThoughtTax" ∈ nestW := nsw4 188 rfl rfl
theorem kw_910 : Cond.instanceMethod yX10_countOf ∈ allW := alw4 190 rfl rfl
theorem kw_911 : Cond.code yX10_countOf cX10_countOf 4 (some .int) ∈ allW := alw4 191 rfl rfl
theorem kw_912 : Cond.methodLink RL 88 yX11_likely ∈ allW := alw4 192 rfl rfl
theorem kw_913 : Cond.instanceMethod yX11_likely ∈ allW := alw4 193 rfl rfl
theorem kw_914 : Cond.selects RX11 yX11_likely yX11_likely ∈ allW := alw4 194 rfl rfl
theorem kw_915 : Cond.code yX11_likely cX11_likely 3 (some .int) ∈ allW := alw4 195 rfl rfl
theorem kw_916 : Cond.methodLinkNest RX11 120 yX0_isThought "ThoughtTax" ∈ nestW := nsw4 196 rfl rfl
theorem kw_917 : Cond.methodLinkNest RX11 221 yX10_readerOf "ThoughtTax" ∈ nestW := nsw4 197 rfl rfl
theorem kw_918 : Cond.methodLinkNest RX11 224 yX10_knowsTongue "ThoughtTax" ∈ nestW := nsw4 198 rfl rfl
theorem kw_919 : Cond.methodLinkNest RX11 228 yX10_readOf "ThoughtTax" ∈ nestW := nsw4 199 rfl rfl
theorem kw_920 : Cond.methodLink RL 92 yX11_bestRound ∈ allW := alw4 200 rfl rfl
theorem kw_921 : Cond.instanceMethod yX11_bestRound ∈ allW := alw4 201 rfl rfl
theorem kw_922 : Cond.selects RX11 yX11_bestRound yX11_bestRound ∈ allW := alw4 202 rfl rfl
theorem kw_923 : Cond.code yX11_bestRound cX11_bestRound 2 (some .int) ∈ allW := alw4 203 rfl rfl
theorem kw_924 : Cond.methodLinkNest RX11 238 yX9_roundOfMost "ThoughtTax" ∈ nestW := nsw4 204 rfl rfl
theorem kw_926 : Cond.instanceMethod yX9_roundOfMost ∈ allW := alw4 206 rfl rfl
theorem kw_927 : Cond.code yX9_roundOfMost cX9_roundOfMost 6 (some .int) ∈ allW := alw4 207 rfl rfl
theorem kw_928 : Cond.methodLinkNest RX9 46 yX10_think "ThoughtTax" ∈ nestW := nsw4 208 rfl rfl
theorem kw_929 : Cond.methodLink RX9 59 yX9_readerOfMost ∈ allW := alw4 209 rfl rfl
theorem kw_931 : Cond.instanceMethod yX9_readerOfMost ∈ allW := alw4 211 rfl rfl
theorem kw_932 : Cond.code yX9_readerOfMost cX9_readerOfMost 6 (some .int) ∈ allW := alw4 212 rfl rfl
theorem kw_933 : Cond.methodLinkNest RX9 65 yX10_dueAt "ThoughtTax" ∈ nestW := nsw4 213 rfl rfl
theorem kw_934 : Cond.methodLink RL 96 yX11_hideIn ∈ allW := alw4 214 rfl rfl
theorem kw_935 : Cond.instanceMethod yX11_hideIn ∈ allW := alw4 215 rfl rfl
theorem kw_936 : Cond.selects RX11 yX11_hideIn yX11_hideIn ∈ allW := alw4 216 rfl rfl
theorem kw_937 : Cond.code yX11_hideIn cX11_hideIn 3 (some .int) ∈ allW := alw4 217 rfl rfl
theorem kw_938 : Cond.methodLinkNest RX11 242 yX9_holderOfLeast "ThoughtTax" ∈ nestW := nsw4 218 rfl rfl
theorem kw_940 : Cond.instanceMethod yX9_holderOfLeast ∈ allW := alw4 220 rfl rfl
theorem kw_941 : Cond.code yX9_holderOfLeast cX9_holderOfLeast 8 (some .int) ∈ allW := alw4 221 rfl rfl
theorem kw_942 : Cond.methodLinkNest RX9 72 yX10_isHeld "ThoughtTax" ∈ nestW := nsw4 222 rfl rfl
theorem kw_943 : Cond.methodLinkNest RX9 79 yX10_tax "ThoughtTax" ∈ nestW := nsw4 223 rfl rfl
theorem kw_945 : Cond.instanceMethod yX10_tax ∈ allW := alw4 225 rfl rfl
theorem kw_946 : Cond.code yX10_tax cX10_tax 1 (some .int) ∈ allW := alw4 226 rfl rfl
theorem kw_947 : Cond.methodLink RX10 216 yX10_sum ∈ allW := alw4 227 rfl rfl
theorem kw_948 : Cond.methodLink RL 100 yX11_bestRate ∈ allW := alw4 228 rfl rfl
theorem kw_949 : Cond.instanceMethod yX11_bestRate ∈ allW := alw4 229 rfl rfl
theorem kw_950 : Cond.selects RX11 yX11_bestRate yX11_bestRate ∈ allW := alw4 230 rfl rfl
theorem kw_951 : Cond.code yX11_bestRate cX11_bestRate 3 (some .int) ∈ allW := alw4 231 rfl rfl
theorem kw_952 : Cond.methodLinkNest RX11 245 yX9_rateOfMost "ThoughtTax" ∈ nestW := nsw4 232 rfl rfl
theorem kw_954 : Cond.instanceMethod yX9_rateOfMost ∈ allW := alw4 234 rfl rfl
theorem kw_955 : Cond.code yX9_rateOfMost cX9_rateOfMost 8 (some .int) ∈ allW := alw4 235 rfl rfl
theorem kw_956 : Cond.methodLink RL 104 yX11_worthless ∈ allW := alw4 236 rfl rfl
theorem kw_957 : Cond.instanceMethod yX11_worthless ∈ allW := alw4 237 rfl rfl
theorem kw_958 : Cond.selects RX11 yX11_worthless yX11_worthless ∈ allW := alw4 238 rfl rfl
theorem kw_959 : Cond.code yX11_worthless cX11_worthless 1 (some .int) ∈ allW := alw4 239 rfl rfl
theorem kw_960 : Cond.methodLinkNest RX11 248 yX9_dearThoughts "ThoughtTax" ∈ nestW := nsw5 0 rfl rfl
theorem kw_962 : Cond.instanceMethod yX9_dearThoughts ∈ allW := alw5 2 rfl rfl
theorem kw_963 : Cond.code yX9_dearThoughts cX9_dearThoughts 5 (some .int) ∈ allW := alw5 3 rfl rfl
theorem kw_964 : Cond.methodLink RX9 90 yX9_noteTaxes ∈ allW := alw5 4 rfl rfl
theorem kw_966 : Cond.instanceMethod yX9_noteTaxes ∈ allW := alw5 6 rfl rfl
theorem kw_967 : Cond.code yX9_noteTaxes cX9_noteTaxes 2 none ∈ allW := alw5 7 rfl rfl
theorem kw_968 : Cond.methodLinkNest RX9 105 yX10_taxOf "ThoughtTax" ∈ nestW := nsw5 8 rfl rfl
theorem kw_970 : Cond.instanceMethod yX10_taxOf ∈ allW := alw5 10 rfl rfl
theorem kw_971 : Cond.code yX10_taxOf cX10_taxOf 2 (some .int) ∈ allW := alw5 11 rfl rfl
theorem kw_972 : Cond.methodLinkNest RX9 102 yX0_isMan "ThoughtTax" ∈ nestW := nsw5 12 rfl rfl
theorem kw_973 : Cond.methodLink RL 108 yX11_share ∈ allW := alw5 13 rfl rfl
theorem kw_974 : Cond.instanceMethod yX11_share ∈ allW := alw5 14 rfl rfl
theorem kw_975 : Cond.selects RX11 yX11_share yX11_share ∈ allW := alw5 15 rfl rfl
theorem kw_976 : Cond.code yX11_share cX11_share 4 (some .int) ∈ allW := alw5 16 rfl rfl
theorem kw_977 : Cond.methodLinkNest RX11 252 yX0_shareOf "ThoughtTax" ∈ nestW := nsw5 17 rfl rfl
theorem kw_979 : Cond.instanceMethod yX0_shareOf ∈ allW := alw5 19 rfl rfl
theorem kw_980 : Cond.code yX0_shareOf cX0_shareOf 8 (some .int) ∈ allW := alw5 20 rfl rfl
theorem kw_981 : Cond.methodLink RX0 78 yX0_isThought ∈ allW := alw5 21 rfl rfl
theorem kw_982 : Cond.methodLink RX0 82 yJ9_max_7cf53 ∈ allW := alw5 22 rfl rfl
theorem kw_983 : Cond.methodLink RL 113 yX11_chain ∈ allW := alw5 23 rfl rfl
theorem kw_984 : Cond.instanceMethod yX11_chain ∈ allW := alw5 24 rfl rfl
theorem kw_985 : Cond.selects RX11 yX11_chain yX11_chain ∈ allW := alw5 25 rfl rfl
theorem kw_986 : Cond.code yX11_chain cX11_chain 2 (some .int) ∈ allW := alw5 26 rfl rfl
theorem kw_987 : Cond.methodLinkNest RX11 256 yX10_chainOf "ThoughtTax" ∈ nestW := nsw5 27 rfl rfl
theorem kw_989 : Cond.instanceMethod yX10_chainOf ∈ allW := alw5 29 rfl rfl
theorem kw_990 : Cond.code yX10_chainOf cX10_chainOf 5 (some .int) ∈ allW := alw5 30 rfl rfl
theorem kw_991 : Cond.methodLink RL 117 yX11_rests ∈ allW := alw5 31 rfl rfl
theorem kw_992 : Cond.instanceMethod yX11_rests ∈ allW := alw5 32 rfl rfl
theorem kw_993 : Cond.selects RX11 yX11_rests yX11_rests ∈ allW := alw5 33 rfl rfl
theorem kw_994 : Cond.code yX11_rests cX11_rests 1 (some .int) ∈ allW := alw5 34 rfl rfl
theorem kw_995 : Cond.methodLinkNest RX11 259 yX10_heldWorth "ThoughtTax" ∈ nestW := nsw5 35 rfl rfl
theorem kw_997 : Cond.instanceMethod yX10_heldWorth ∈ allW := alw5 37 rfl rfl
theorem kw_998 : Cond.code yX10_heldWorth cX10_heldWorth 3 (some .int) ∈ allW := alw5 38 rfl rfl
theorem kw_999 : Cond.methodLinkNest RX11 263 yX3_play "ThoughtTax" ∈ nestW := nsw5 39 rfl rfl
theorem kw_1001 : Cond.instanceMethod yX3_play ∈ allW := alw5 41 rfl rfl
theorem kw_1002 : Cond.code yX3_play cX3_play 4 none ∈ allW := alw5 42 rfl rfl
theorem kw_1003 : Cond.methodLink RX3 28 yX3_isRest ∈ allW := alw5 43 rfl rfl
theorem kw_1005 : Cond.instanceMethod yX3_isRest ∈ allW := alw5 45 rfl rfl
theorem kw_1006 : Cond.code yX3_isRest cX3_isRest 3 (some .boolean) ∈ allW := alw5 46 rfl rfl
theorem kw_1007 : Cond.methodLink RX3 32 yX3_streetHas ∈ allW := alw5 47 rfl rfl
theorem kw_1009 : Cond.instanceMethod yX3_streetHas ∈ allW := alw5 49 rfl rfl
theorem kw_1010 : Cond.code yX3_streetHas cX3_streetHas 3 (some .int) ∈ allW := alw5 50 rfl rfl
theorem kw_1011 : Cond.methodLink RX3 39 yX3_tax ∈ allW := alw5 51 rfl rfl
theorem kw_1013 : Cond.instanceMethod yX3_tax ∈ allW := alw5 53 rfl rfl
theorem kw_1014 : Cond.code yX3_tax cX3_tax 6 (some .int) ∈ allW := alw5 54 rfl rfl
theorem kw_1015 : Cond.methodLink RX3 36 yX3_readerHas ∈ allW := alw5 55 rfl rfl
theorem kw_1017 : Cond.instanceMethod yX3_readerHas ∈ allW := alw5 57 rfl rfl
theorem kw_1018 : Cond.code yX3_readerHas cX3_readerHas 3 (some .int) ∈ allW := alw5 58 rfl rfl
theorem kw_1019 : Cond.methodLink RL 121 yX11_rest ∈ allW := alw5 59 rfl rfl
theorem kw_1020 : Cond.instanceMethod yX11_rest ∈ allW := alw5 60 rfl rfl
theorem kw_1021 : Cond.selects RX11 yX11_rest yX11_rest ∈ allW := alw5 61 rfl rfl
theorem kw_1022 : Cond.code yX11_rest cX11_rest 2 (some .int) ∈ allW := alw5 62 rfl rfl
theorem kw_1023 : Cond.methodLinkNest RX11 270 yX3_restAt "ThoughtTax" ∈ nestW := nsw5 63 rfl rfl
theorem kw_1025 : Cond.instanceMethod yX3_restAt ∈ allW := alw5 65 rfl rfl
theorem kw_1026 : Cond.code yX3_restAt cX3_restAt 2 (some .int) ∈ allW := alw5 66 rfl rfl
theorem kw_1027 : Cond.methodLink RL 125 yX11_first ∈ allW := alw5 67 rfl rfl
theorem kw_1028 : Cond.instanceMethod yX11_first ∈ allW := alw5 68 rfl rfl
theorem kw_1029 : Cond.selects RX11 yX11_first yX11_first ∈ allW := alw5 69 rfl rfl
theorem kw_1030 : Cond.code yX11_first cX11_first 1 (some .int) ∈ allW := alw5 70 rfl rfl
theorem kw_1031 : Cond.methodLinkNest RX11 273 yX10_richestDoor "ThoughtTax" ∈ nestW := nsw5 71 rfl rfl
theorem kw_1033 : Cond.instanceMethod yX10_richestDoor ∈ allW := alw5 73 rfl rfl
theorem kw_1034 : Cond.code yX10_richestDoor cX10_richestDoor 5 (some .int) ∈ allW := alw5 74 rfl rfl
theorem kw_1035 : Cond.methodLink RX10 213 yX10_heldWorthAt ∈ allW := alw5 75 rfl rfl
theorem kw_1037 : Cond.instanceMethod yX10_heldWorthAt ∈ allW := alw5 77 rfl rfl
theorem kw_1038 : Cond.code yX10_heldWorthAt cX10_heldWorthAt 4 (some .int) ∈ allW := alw5 78 rfl rfl
theorem kw_1039 : Cond.methodLink RL 129 yX11_farthing ∈ allW := alw5 79 rfl rfl
theorem kw_1040 : Cond.instanceMethod yX11_farthing ∈ allW := alw5 80 rfl rfl
theorem kw_1041 : Cond.selects RX11 yX11_farthing yX11_farthing ∈ allW := alw5 81 rfl rfl
theorem kw_1042 : Cond.code yX11_farthing cX11_farthing 2 (some .int) ∈ allW := alw5 82 rfl rfl
theorem kw_1043 : Cond.methodLink RL 133 yX11_enough ∈ allW := alw5 83 rfl rfl
theorem kw_1044 : Cond.instanceMethod yX11_enough ∈ allW := alw5 84 rfl rfl
theorem kw_1045 : Cond.selects RX11 yX11_enough yX11_enough ∈ allW := alw5 85 rfl rfl
theorem kw_1046 : Cond.code yX11_enough cX11_enough 2 (some .int) ∈ allW := alw5 86 rfl rfl
theorem kw_1047 : Cond.methodLinkNest RX11 276 yX9_dullEnough "ThoughtTax" ∈ nestW := nsw5 87 rfl rfl
theorem kw_1049 : Cond.instanceMethod yX9_dullEnough ∈ allW := alw5 89 rfl rfl
theorem kw_1050 : Cond.code yX9_dullEnough cX9_dullEnough 4 (some .int) ∈ allW := alw5 90 rfl rfl
theorem kw_1051 : Cond.methodLinkNest RX9 111 yX10_readsAny "ThoughtTax" ∈ nestW := nsw5 91 rfl rfl
theorem kw_1053 : Cond.instanceMethod yX10_readsAny ∈ allW := alw5 93 rfl rfl
theorem kw_1054 : Cond.code yX10_readsAny cX10_readsAny 4 (some .boolean) ∈ allW := alw5 94 rfl rfl
theorem kw_1055 : Cond.methodLink RL 137 yX11_vote ∈ allW := alw5 95 rfl rfl
theorem kw_1056 : Cond.instanceMethod yX11_vote ∈ allW := alw5 96 rfl rfl
theorem kw_1057 : Cond.selects RX11 yX11_vote yX11_vote ∈ allW := alw5 97 rfl rfl
theorem kw_1058 : Cond.code yX11_vote cX11_vote 4 (some .int) ∈ allW := alw5 98 rfl rfl
theorem kw_1059 : Cond.methodLinkNest RX11 279 yX9_votes "ThoughtTax" ∈ nestW := nsw5 99 rfl rfl
theorem kw_1061 : Cond.instanceMethod yX9_votes ∈ allW := alw5 101 rfl rfl
theorem kw_1062 : Cond.code yX9_votes cX9_votes 8 (some .int) ∈ allW := alw5 102 rfl rfl
theorem kw_1063 : Cond.methodLink RL 141 yX11_whose ∈ allW := alw5 103 rfl rfl
theorem kw_1064 : Cond.instanceMethod yX11_whose ∈ allW := alw5 104 rfl rfl
theorem kw_1065 : Cond.selects RX11 yX11_whose yX11_whose ∈ allW := alw5 105 rfl rfl
theorem kw_1066 : Cond.code yX11_whose cX11_whose 3 (some .int) ∈ allW := alw5 106 rfl rfl
theorem kw_1067 : Cond.methodLinkNest RX11 283 yX10_holdersOf "ThoughtTax" ∈ nestW := nsw5 107 rfl rfl
theorem kw_1069 : Cond.instanceMethod yX10_holdersOf ∈ allW := alw5 109 rfl rfl
theorem kw_1070 : Cond.code yX10_holdersOf cX10_holdersOf 5 (some .int) ∈ allW := alw5 110 rfl rfl
theorem kw_1071 : Cond.methodLink RL 145 yX11_debtor ∈ allW := alw5 111 rfl rfl
theorem kw_1072 : Cond.instanceMethod yX11_debtor ∈ allW := alw5 112 rfl rfl
theorem kw_1073 : Cond.selects RX11 yX11_debtor yX11_debtor ∈ allW := alw5 113 rfl rfl
theorem kw_1074 : Cond.code yX11_debtor cX11_debtor 2 (some .int) ∈ allW := alw5 114 rfl rfl
theorem kw_1075 : Cond.methodLinkNest RX11 286 yX10_greatest "ThoughtTax" ∈ nestW := nsw5 115 rfl rfl
theorem kw_1077 : Cond.instanceMethod yX10_greatest ∈ allW := alw5 117 rfl rfl
theorem kw_1078 : Cond.code yX10_greatest cX10_greatest 4 (some .int) ∈ allW := alw5 118 rfl rfl
theorem kw_1079 : Cond.methodLink RL 149 yX11_nextRead ∈ allW := alw5 119 rfl rfl
theorem kw_1080 : Cond.instanceMethod yX11_nextRead ∈ allW := alw5 120 rfl rfl
theorem kw_1081 : Cond.selects RX11 yX11_nextRead yX11_nextRead ∈ allW := alw5 121 rfl rfl
theorem kw_1082 : Cond.code yX11_nextRead cX11_nextRead 2 (some .int) ∈ allW := alw5 122 rfl rfl
theorem kw_1083 : Cond.methodLinkNest RX11 290 yX9_weeksToReading "ThoughtTax" ∈ nestW := nsw5 123 rfl rfl
theorem kw_1085 : Cond.instanceMethod yX9_weeksToReading ∈ allW := alw5 125 rfl rfl
theorem kw_1086 : Cond.code yX9_weeksToReading cX9_weeksToReading 4 (some .int) ∈ allW := alw5 126 rfl rfl
theorem kw_1087 : Cond.methodLinkNest RX9 115 yX0_isThought "ThoughtTax" ∈ nestW := nsw5 127 rfl rfl
theorem kw_1088 : Cond.methodLink RL 153 yX11_richest ∈ allW := alw5 128 rfl rfl
theorem kw_1089 : Cond.instanceMethod yX11_richest ∈ allW := alw5 129 rfl rfl
theorem kw_1090 : Cond.selects RX11 yX11_richest yX11_richest ∈ allW := alw5 130 rfl rfl
theorem kw_1091 : Cond.code yX11_richest cX11_richest 2 (some .int) ∈ allW := alw5 131 rfl rfl
theorem kw_1092 : Cond.methodLinkNest RX11 293 yX9_richestIn "ThoughtTax" ∈ nestW := nsw5 132 rfl rfl
theorem kw_1094 : Cond.instanceMethod yX9_richestIn ∈ allW := alw5 134 rfl rfl
theorem kw_1095 : Cond.code yX9_richestIn cX9_richestIn 3 (some .int) ∈ allW := alw5 135 rfl rfl
theorem kw_1096 : Cond.methodLinkNest RX9 124 yX10_greatest "ThoughtTax" ∈ nestW := nsw5 136 rfl rfl
theorem kw_1097 : Cond.methodLink RL 157 yX11_holds ∈ allW := alw5 137 rfl rfl
theorem kw_1098 : Cond.instanceMethod yX11_holds ∈ allW := alw5 138 rfl rfl
theorem kw_1099 : Cond.selects RX11 yX11_holds yX11_holds ∈ allW := alw5 139 rfl rfl
theorem kw_1100 : Cond.code yX11_holds cX11_holds 2 (some .int) ∈ allW := alw5 140 rfl rfl
theorem kw_1101 : Cond.methodLinkNest RX11 296 yX10_heldBits "ThoughtTax" ∈ nestW := nsw5 141 rfl rfl
theorem kw_1103 : Cond.instanceMethod yX10_heldBits ∈ allW := alw5 143 rfl rfl
theorem kw_1104 : Cond.code yX10_heldBits cX10_heldBits 4 (some .int) ∈ allW := alw5 144 rfl rfl
theorem kw_1105 : Cond.methodLink RL 161 yX11_hidden ∈ allW := alw5 145 rfl rfl
theorem kw_1106 : Cond.instanceMethod yX11_hidden ∈ allW := alw5 146 rfl rfl
theorem kw_1107 : Cond.selects RX11 yX11_hidden yX11_hidden ∈ allW := alw5 147 rfl rfl
theorem kw_1108 : Cond.code yX11_hidden cX11_hidden 1 (some .int) ∈ allW := alw5 148 rfl rfl
theorem kw_1109 : Cond.methodLinkNest RX11 299 yX10_hiddenBits "ThoughtTax" ∈ nestW := nsw5 149 rfl rfl
theorem kw_1111 : Cond.instanceMethod yX10_hiddenBits ∈ allW := alw5 151 rfl rfl
theorem kw_1112 : Cond.code yX10_hiddenBits cX10_hiddenBits 3 (some .int) ∈ allW := alw5 152 rfl rfl
theorem kw_1113 : Cond.methodLink RL 165 yX11_find ∈ allW := alw5 153 rfl rfl
theorem kw_1114 : Cond.instanceMethod yX11_find ∈ allW := alw5 154 rfl rfl
theorem kw_1115 : Cond.selects RX11 yX11_find yX11_find ∈ allW := alw5 155 rfl rfl
theorem kw_1116 : Cond.code yX11_find cX11_find 4 (some .int) ∈ allW := alw5 156 rfl rfl
theorem kw_1117 : Cond.methodLinkNest RX11 302 yX2_hasRoom "ThoughtTax" ∈ nestW := nsw5 157 rfl rfl
theorem kw_1119 : Cond.instanceMethod yX2_hasRoom ∈ allW := alw5 159 rfl rfl
theorem kw_1120 : Cond.code yX2_hasRoom cX2_hasRoom 1 (some .boolean) ∈ allW := alw5 160 rfl rfl
theorem kw_1121 : Cond.methodLinkNest RX11 305 yX2_noteReading "ThoughtTax" ∈ nestW := nsw5 161 rfl rfl
theorem kw_1123 : Cond.instanceMethod yX2_noteReading ∈ allW := alw5 163 rfl rfl
theorem kw_1124 : Cond.code yX2_noteReading cX2_noteReading 4 (some .int) ∈ allW := alw5 164 rfl rfl
theorem kw_1125 : Cond.methodLink RX2 35 yX2_hasRoom ∈ allW := alw5 165 rfl rfl
theorem kw_1126 : Cond.methodLink RL 170 yX11_strike ∈ allW := alw5 166 rfl rfl
theorem kw_1127 : Cond.instanceMethod yX11_strike ∈ allW := alw5 167 rfl rfl
theorem kw_1128 : Cond.selects RX11 yX11_strike yX11_strike ∈ allW := alw5 168 rfl rfl
theorem kw_1129 : Cond.code yX11_strike cX11_strike 2 (some .int) ∈ allW := alw5 169 rfl rfl
theorem kw_1130 : Cond.methodLinkNest RX11 312 yX2_noteStrike "ThoughtTax" ∈ nestW := nsw5 170 rfl rfl
theorem kw_1132 : Cond.instanceMethod yX2_noteStrike ∈ allW := alw5 172 rfl rfl
theorem kw_1133 : Cond.code yX2_noteStrike cX2_noteStrike 2 (some .int) ∈ allW := alw5 173 rfl rfl
theorem kw_1134 : Cond.methodLink RL 174 yX11_known ∈ allW := alw5 174 rfl rfl
theorem kw_1135 : Cond.instanceMethod yX11_known ∈ allW := alw5 175 rfl rfl
theorem kw_1136 : Cond.selects RX11 yX11_known yX11_known ∈ allW := alw5 176 rfl rfl
theorem kw_1137 : Cond.code yX11_known cX11_known 2 (some .boolean) ∈ allW := alw5 177 rfl rfl
theorem kw_1138 : Cond.methodLink RL 178 yX11_skills ∈ allW := alw5 178 rfl rfl
theorem kw_1139 : Cond.instanceMethod yX11_skills ∈ allW := alw5 179 rfl rfl
theorem kw_1140 : Cond.selects RX11 yX11_skills yX11_skills ∈ allW := alw5 180 rfl rfl
theorem kw_1141 : Cond.code yX11_skills cX11_skills 2 (some .int) ∈ allW := alw5 181 rfl rfl
theorem kw_1142 : Cond.methodLinkNest RX11 318 yX9_skillsBy "ThoughtTax" ∈ nestW := nsw5 182 rfl rfl
theorem kw_1144 : Cond.instanceMethod yX9_skillsBy ∈ allW := alw5 184 rfl rfl
theorem kw_1145 : Cond.code yX9_skillsBy cX9_skillsBy 9 (some .int) ∈ allW := alw5 185 rfl rfl
theorem kw_1146 : Cond.methodLinkNest RX9 127 yX2_settle "ThoughtTax" ∈ nestW := nsw5 186 rfl rfl
theorem kw_1148 : Cond.instanceMethod yX2_settle ∈ allW := alw5 188 rfl rfl
theorem kw_1149 : Cond.code yX2_settle cX2_settle 3 none ∈ allW := alw5 189 rfl rfl
theorem kw_1150 : Cond.methodLink RX2 45 yX2_knownBy ∈ allW := alw5 190 rfl rfl
theorem kw_1152 : Cond.instanceMethod yX2_knownBy ∈ allW := alw5 192 rfl rfl
theorem kw_1153 : Cond.code yX2_knownBy cX2_knownBy 1 (some .int) ∈ allW := alw5 193 rfl rfl
theorem kw_1154 : Cond.methodLink RX2 39 yJ9_min_7cf53 ∈ allW := alw5 194 rfl rfl
theorem kw_1155 : Cond.methodLinkNest RX9 132 yX2_lastKnownWeek "ThoughtTax" ∈ nestW := nsw5 195 rfl rfl
theorem kw_1157 : Cond.instanceMethod yX2_lastKnownWeek ∈ allW := alw5 197 rfl rfl
theorem kw_1158 : Cond.code yX2_lastKnownWeek cX2_lastKnownWeek 3 (some .int) ∈ allW := alw5 198 rfl rfl
theorem kw_1159 : Cond.methodLink RX2 49 yX2_isKnown ∈ allW := alw5 199 rfl rfl
theorem kw_1161 : Cond.instanceMethod yX2_isKnown ∈ allW := alw5 201 rfl rfl
theorem kw_1162 : Cond.code yX2_isKnown cX2_isKnown 2 (some .boolean) ∈ allW := alw5 202 rfl rfl
theorem kw_1163 : Cond.methodLink RX2 53 yJ9_max_7cf53 ∈ allW := alw5 203 rfl rfl
theorem kw_1164 : Cond.methodLinkNest RX9 135 yX0_isReader "ThoughtTax" ∈ nestW := nsw5 204 rfl rfl
theorem kw_1165 : Cond.methodLinkNest RX9 138 yX10_begin "ThoughtTax" ∈ nestW := nsw5 205 rfl rfl
theorem kw_1166 : Cond.methodLinkNest RX9 144 yX2_agrees "ThoughtTax" ∈ nestW := nsw5 206 rfl rfl
theorem kw_1168 : Cond.instanceMethod yX2_agrees ∈ allW := alw5 208 rfl rfl
theorem kw_1169 : Cond.code yX2_agrees cX2_agrees 4 (some .boolean) ∈ allW := alw5 209 rfl rfl
theorem kw_1170 : Cond.methodLinkNest RX2 62 yX0_isThought "ThoughtTax" ∈ nestW := nsw5 210 rfl rfl
theorem kw_1171 : Cond.methodLink RL 182 yX11_chance ∈ allW := alw5 211 rfl rfl
theorem kw_1172 : Cond.instanceMethod yX11_chance ∈ allW := alw5 212 rfl rfl
theorem kw_1173 : Cond.selects RX11 yX11_chance yX11_chance ∈ allW := alw5 213 rfl rfl
theorem kw_1174 : Cond.code yX11_chance cX11_chance 4 (some .int) ∈ allW := alw5 214 rfl rfl
theorem kw_1175 : Cond.methodLinkNest RX11 322 yX9_timesPaid "ThoughtTax" ∈ nestW := nsw5 215 rfl rfl
theorem kw_1177 : Cond.instanceMethod yX9_timesPaid ∈ allW := alw5 217 rfl rfl
theorem kw_1178 : Cond.code yX9_timesPaid cX9_timesPaid 8 (some .int) ∈ allW := alw5 218 rfl rfl
theorem kw_1179 : Cond.methodLink RL 186 yX11_tried ∈ allW := alw5 219 rfl rfl
theorem kw_1180 : Cond.instanceMethod yX11_tried ∈ allW := alw5 220 rfl rfl
theorem kw_1181 : Cond.selects RX11 yX11_tried yX11_tried ∈ allW := alw5 221 rfl rfl
theorem kw_1182 : Cond.code yX11_tried cX11_tried 4 (some .int) ∈ allW := alw5 222 rfl rfl
theorem kw_1183 : Cond.methodLinkNest RX11 325 yX9_paidIf "ThoughtTax" ∈ nestW := nsw5 223 rfl rfl
theorem kw_1185 : Cond.instanceMethod yX9_paidIf ∈ allW := alw5 225 rfl rfl
theorem kw_1186 : Cond.code yX9_paidIf cX9_paidIf 5 (some .int) ∈ allW := alw5 226 rfl rfl
theorem kw_1187 : Cond.methodLink RX9 154 yJ7_fill_53178 ∈ allW := alw5 227 rfl rfl
theorem kw_1188 : Cond.methodLink RX9 160 yX9_thinkNothing ∈ allW := alw5 228 rfl rfl
theorem kw_1190 : Cond.instanceMethod yX9_thinkNothing ∈ allW := alw5 230 rfl rfl
theorem kw_1191 : Cond.code yX9_thinkNothing cX9_thinkNothing 3 none ∈ allW := alw5 231 rfl rfl
theorem kw_1192 : Cond.methodLink RL 190 yX11_undo ∈ allW := alw5 232 rfl rfl
theorem kw_1193 : Cond.instanceMethod yX11_undo ∈ allW := alw5 233 rfl rfl
theorem kw_1194 : Cond.selects RX11 yX11_undo yX11_undo ∈ allW := alw5 234 rfl rfl
theorem kw_1195 : Cond.code yX11_undo cX11_undo 1 (some .int) ∈ allW := alw5 235 rfl rfl
theorem kw_1196 : Cond.methodLinkNest RX11 329 yX1_undoLatest "ThoughtTax" ∈ nestW := nsw5 236 rfl rfl
theorem kw_1198 : Cond.instanceMethod yX1_undoLatest ∈ allW := alw5 238 rfl rfl
theorem kw_1199 : Cond.code yX1_undoLatest cX1_undoLatest 4 none ∈ allW := alw5 239 rfl rfl
theorem kw_1200 : Cond.methodLink RX1 29 yX1_unhide ∈ allW := alw6 0 rfl rfl
theorem kw_1201 : Cond.static yX1_unhide ∈ allW := alw6 1 rfl rfl
theorem kw_1202 : Cond.code yX1_unhide cX1_unhide 3 none ∈ allW := alw6 2 rfl rfl
theorem kw_1203 : Cond.methodLinkNest RX1 48 yX0_isThought "ThoughtTax" ∈ nestW := nsw6 3 rfl rfl
theorem kw_1204 : Cond.methodLink RX1 33 yX1_unbuy ∈ allW := alw6 4 rfl rfl
theorem kw_1205 : Cond.static yX1_unbuy ∈ allW := alw6 5 rfl rfl
theorem kw_1206 : Cond.code yX1_unbuy cX1_unbuy 3 none ∈ allW := alw6 6 rfl rfl
theorem kw_1207 : Cond.methodLinkNest RX1 57 yX0_isMan "ThoughtTax" ∈ nestW := nsw6 7 rfl rfl
theorem kw_1208 : Cond.methodLink RX1 36 yX1_unround ∈ allW := alw6 8 rfl rfl
theorem kw_1209 : Cond.static yX1_unround ∈ allW := alw6 9 rfl rfl
theorem kw_1210 : Cond.code yX1_unround cX1_unround 3 none ∈ allW := alw6 10 rfl rfl
theorem kw_1211 : Cond.methodLink RL 194 yX11_keep ∈ allW := alw6 11 rfl rfl
theorem kw_1212 : Cond.instanceMethod yX11_keep ∈ allW := alw6 12 rfl rfl
theorem kw_1213 : Cond.selects RX11 yX11_keep yX11_keep ∈ allW := alw6 13 rfl rfl
theorem kw_1214 : Cond.code yX11_keep cX11_keep 1 (some .int) ∈ allW := alw6 14 rfl rfl
theorem kw_1215 : Cond.methodLinkNest RX11 333 yX10_copy "ThoughtTax" ∈ nestW := nsw6 15 rfl rfl
theorem kw_1216 : Cond.methodLink RL 198 yX11_back ∈ allW := alw6 16 rfl rfl
theorem kw_1217 : Cond.instanceMethod yX11_back ∈ allW := alw6 17 rfl rfl
theorem kw_1218 : Cond.selects RX11 yX11_back yX11_back ∈ allW := alw6 18 rfl rfl
theorem kw_1219 : Cond.code yX11_back cX11_back 1 (some .int) ∈ allW := alw6 19 rfl rfl
theorem kw_1220 : Cond.methodLink RL 202 yX11_count ∈ allW := alw6 20 rfl rfl
theorem kw_1221 : Cond.instanceMethod yX11_count ∈ allW := alw6 21 rfl rfl
theorem kw_1222 : Cond.selects RX11 yX11_count yX11_count ∈ allW := alw6 22 rfl rfl
theorem kw_1223 : Cond.code yX11_count cX11_count 2 (some .int) ∈ allW := alw6 23 rfl rfl
theorem kw_1224 : Cond.methodLinkNest RX11 346 yX10_countOf "ThoughtTax" ∈ nestW := nsw6 24 rfl rfl
theorem kw_1225 : Cond.methodLinkNest RX11 349 yX10_sum "ThoughtTax" ∈ nestW := nsw6 25 rfl rfl
theorem kw_1226 : Cond.methodLinkNest RX11 352 yX2_knownBy "ThoughtTax" ∈ nestW := nsw6 26 rfl rfl
theorem kw_1227 : Cond.methodLink RL 39 yL_thought ∈ allW := alw6 27 rfl rfl
theorem kw_1228 : Cond.static yL_thought ∈ allW := alw6 28 rfl rfl
theorem kw_1230 : Cond.classLink RL 13 "java/lang/IndexOutOfBoundsException" ∈ allW := alw6 30 rfl rfl
theorem kw_1231 : Cond.classLink RL 15 "java/util/NoSuchElementException" ∈ allW := alw6 31 rfl rfl
theorem kw_1232 : Cond.methodLink RL 7 yX11_thought ∈ allW := alw6 32 rfl rfl
theorem kw_1233 : Cond.instanceMethod yX11_thought ∈ allW := alw6 33 rfl rfl
theorem kw_1234 : Cond.selects RX11 yX11_thought yX11_thought ∈ allW := alw6 34 rfl rfl
theorem kw_1235 : Cond.code yX11_thought cX11_thought 3 (some .int) ∈ allW := alw6 35 rfl rfl
theorem kw_1236 : Cond.classLink RX11 123 "java/lang/IndexOutOfBoundsException" ∈ allW := alw6 36 rfl rfl
theorem kw_1237 : Cond.instantiable "java/lang/IndexOutOfBoundsException" 6 ∈ allW := alw6 37 rfl rfl
theorem kw_1247 : Cond.lays "java/lang/IndexOutOfBoundsException" "java/lang/Throwable" "cause" "Ljava/lang/Throwable;" ∈ allW := alw6 47 rfl rfl
theorem kw_1248 : Cond.lays "java/lang/Throwable" "java/lang/Throwable" "cause" "Ljava/lang/Throwable;" ∈ allW := alw6 48 rfl rfl
theorem kw_1249 : Cond.lays "java/lang/IndexOutOfBoundsException" "java/lang/Throwable" "stackTrace" "[Ljava/lang/StackTraceElement;" ∈ allW := alw6 49 rfl rfl
theorem kw_1250 : Cond.lays "java/lang/Throwable" "java/lang/Throwable" "stackTrace" "[Ljava/lang/StackTraceElement;" ∈ allW := alw6 50 rfl rfl
theorem kw_1251 : Cond.lays "java/lang/IndexOutOfBoundsException" "java/lang/Throwable" "suppressedExceptions" "Ljava/util/List;" ∈ allW := alw6 51 rfl rfl
theorem kw_1252 : Cond.lays "java/lang/Throwable" "java/lang/Throwable" "suppressedExceptions" "Ljava/util/List;" ∈ allW := alw6 52 rfl rfl
theorem kw_1253 : Cond.lays "java/lang/IndexOutOfBoundsException" "java/lang/Throwable" "detailMessage" "Ljava/lang/String;" ∈ allW := alw6 53 rfl rfl
theorem kw_1254 : Cond.lays "java/lang/Throwable" "java/lang/Throwable" "detailMessage" "Ljava/lang/String;" ∈ allW := alw6 54 rfl rfl
theorem kw_1255 : Cond.lays "java/lang/IndexOutOfBoundsException" "java/lang/Throwable" "backtrace" "Ljava/lang/Object;" ∈ allW := alw6 55 rfl rfl
theorem kw_1256 : Cond.lays "java/lang/Throwable" "java/lang/Throwable" "backtrace" "Ljava/lang/Object;" ∈ allW := alw6 56 rfl rfl
theorem kw_1289 : Cond.fieldLink "java/lang/Throwable" 198 "java/lang/Throwable" "backtrace" "Ljava/lang/Object;" ∈ allW := alw6 89 rfl rfl
theorem kw_1259 : Cond.instanceMethod ⟨"java/lang/Throwable", "<init>", "()V"⟩ ∈ allW := alw6 59 rfl rfl
theorem kw_1261 : Cond.methodLink "java/lang/Throwable" 1 objectInit ∈ allW := alw6 61 rfl rfl
theorem kw_1262 : Cond.fieldLink "java/lang/Throwable" 13 "java/lang/Throwable" "UNASSIGNED_STACK" "[Ljava/lang/StackTraceElement;" ∈ allW := alw6 62 rfl rfl
theorem kw_1264 : Cond.fieldLink "java/lang/Throwable" 20 "java/lang/Throwable" "SUPPRESSED_SENTINEL" "Ljava/util/List;" ∈ allW := alw6 64 rfl rfl
theorem kw_1266 : Cond.methodLink "java/lang/Throwable" 27 ⟨"java/lang/Throwable", "fillInStackTrace", "()Ljava/lang/Throwable;"⟩ ∈ allW := alw6 66 rfl rfl
theorem kw_1267 : Cond.instanceMethod ⟨"java/lang/Throwable", "fillInStackTrace", "()Ljava/lang/Throwable;"⟩ ∈ allW := alw6 67 rfl rfl
theorem kw_1271 : Cond.methodLink "java/lang/Throwable" 202 ⟨"java/lang/Throwable", "fillInStackTrace", "(I)Ljava/lang/Throwable;"⟩ ∈ allW := alw6 71 rfl rfl
theorem kw_1273 : Cond.instanceMethod ⟨"java/lang/Throwable", "fillInStackTrace", "(I)Ljava/lang/Throwable;"⟩ ∈ allW := alw6 73 rfl rfl
theorem kw_1274 : Cond.instantiable "java/lang/Throwable" 6 ∈ allW := alw6 74 rfl rfl
theorem kw_1275 : Cond.native ⟨"java/lang/Throwable", "fillInStackTrace", "(I)Ljava/lang/Throwable;"⟩ ∈ allW := alw6 75 rfl rfl
theorem kw_1277 : Cond.methodLink RX11 127 ⟨"java/lang/IndexOutOfBoundsException", "<init>", "(Ljava/lang/String;)V"⟩ ∈ allW := alw6 77 rfl rfl
theorem kw_1278 : Cond.instanceMethod ⟨"java/lang/IndexOutOfBoundsException", "<init>", "(Ljava/lang/String;)V"⟩ ∈ allW := alw6 78 rfl rfl
theorem kw_1280 : Cond.methodLink "java/lang/IndexOutOfBoundsException" 7 ⟨"java/lang/RuntimeException", "<init>", "(Ljava/lang/String;)V"⟩ ∈ allW := alw6 80 rfl rfl
theorem kw_1281 : Cond.instanceMethod ⟨"java/lang/RuntimeException", "<init>", "(Ljava/lang/String;)V"⟩ ∈ allW := alw6 81 rfl rfl
theorem kw_1283 : Cond.methodLink "java/lang/RuntimeException" 7 ⟨"java/lang/Exception", "<init>", "(Ljava/lang/String;)V"⟩ ∈ allW := alw6 83 rfl rfl
theorem kw_1284 : Cond.instanceMethod ⟨"java/lang/Exception", "<init>", "(Ljava/lang/String;)V"⟩ ∈ allW := alw6 84 rfl rfl
theorem kw_1286 : Cond.methodLink "java/lang/Exception" 7 ⟨"java/lang/Throwable", "<init>", "(Ljava/lang/String;)V"⟩ ∈ allW := alw6 86 rfl rfl
theorem kw_1287 : Cond.instanceMethod ⟨"java/lang/Throwable", "<init>", "(Ljava/lang/String;)V"⟩ ∈ allW := alw6 87 rfl rfl
theorem kw_1290 : Cond.fieldLink "java/lang/Throwable" 31 "java/lang/Throwable" "detailMessage" "Ljava/lang/String;" ∈ allW := alw6 90 rfl rfl
theorem kw_1291 : Cond.fieldLink "java/lang/Throwable" 7 "java/lang/Throwable" "cause" "Ljava/lang/Throwable;" ∈ allW := alw6 91 rfl rfl
theorem kw_1292 : Cond.fieldLink "java/lang/Throwable" 17 "java/lang/Throwable" "stackTrace" "[Ljava/lang/StackTraceElement;" ∈ allW := alw6 92 rfl rfl
theorem kw_1293 : Cond.fieldLink "java/lang/Throwable" 24 "java/lang/Throwable" "suppressedExceptions" "Ljava/util/List;" ∈ allW := alw6 93 rfl rfl
theorem kw_1298 : Cond.lays "java/lang/IndexOutOfBoundsException" "java/lang/Throwable" "depth" "I" ∈ allW := alw6 98 rfl rfl
theorem kw_1302 : Cond.classLink RX11 152 "java/util/NoSuchElementException" ∈ allW := alw6 102 rfl rfl
theorem kw_1303 : Cond.instantiable "java/util/NoSuchElementException" 6 ∈ allW := alw6 103 rfl rfl
theorem kw_1306 : Cond.lays "java/util/NoSuchElementException" "java/lang/Throwable" "cause" "Ljava/lang/Throwable;" ∈ allW := alw6 106 rfl rfl
theorem kw_1307 : Cond.lays "java/util/NoSuchElementException" "java/lang/Throwable" "stackTrace" "[Ljava/lang/StackTraceElement;" ∈ allW := alw6 107 rfl rfl
theorem kw_1308 : Cond.lays "java/util/NoSuchElementException" "java/lang/Throwable" "suppressedExceptions" "Ljava/util/List;" ∈ allW := alw6 108 rfl rfl
theorem kw_1309 : Cond.lays "java/util/NoSuchElementException" "java/lang/Throwable" "detailMessage" "Ljava/lang/String;" ∈ allW := alw6 109 rfl rfl
theorem kw_1310 : Cond.lays "java/util/NoSuchElementException" "java/lang/Throwable" "backtrace" "Ljava/lang/Object;" ∈ allW := alw6 110 rfl rfl
theorem kw_1312 : Cond.methodLink RX11 156 ⟨"java/util/NoSuchElementException", "<init>", "(Ljava/lang/String;)V"⟩ ∈ allW := alw6 112 rfl rfl
theorem kw_1313 : Cond.instanceMethod ⟨"java/util/NoSuchElementException", "<init>", "(Ljava/lang/String;)V"⟩ ∈ allW := alw6 113 rfl rfl
theorem kw_1315 : Cond.methodLink "java/util/NoSuchElementException" 13 ⟨"java/lang/RuntimeException", "<init>", "(Ljava/lang/String;)V"⟩ ∈ allW := alw6 115 rfl rfl
theorem kw_1316 : Cond.lays "java/util/NoSuchElementException" "java/lang/Throwable" "depth" "I" ∈ allW := alw6 116 rfl rfl
theorem kw_1318 : Cond.classLink RL 18 RX12 ∈ allW := alw6 118 rfl rfl
theorem kw_1319 : Cond.instantiable RX12 81 ∈ allW := alw6 119 rfl rfl
theorem kw_1320 : Cond.methodLink RL 20 yX12_init ∈ allW := alw6 120 rfl rfl
theorem kw_1321 : Cond.instanceMethod yX12_init ∈ allW := alw6 121 rfl rfl
theorem kw_1322 : Cond.code yX12_init cX12_init 1 none ∈ allW := alw6 122 rfl rfl
theorem kw_1323 : Cond.methodLink RX12 1 objectInit ∈ allW := alw6 123 rfl rfl
theorem kw_1324 : Cond.methodLink RX12 139 yX12_plain ∈ allW := alw6 124 rfl rfl
theorem kw_1326 : Cond.instanceMethod yX12_plain ∈ allW := alw6 126 rfl rfl
theorem kw_1327 : Cond.code yX12_plain cX12_plain 2 none ∈ allW := alw6 127 rfl rfl
theorem kw_1328 : Cond.methodLink RX12 142 yX12_keepText ∈ allW := alw6 128 rfl rfl
theorem kw_1330 : Cond.instanceMethod yX12_keepText ∈ allW := alw6 130 rfl rfl
theorem kw_1331 : Cond.code yX12_keepText cX12_keepText 2 none ∈ allW := alw6 131 rfl rfl
theorem kw_1332 : Cond.methodLink RX12 234 yX12_copies ∈ allW := alw6 132 rfl rfl
theorem kw_1333 : Cond.static yX12_copies ∈ allW := alw6 133 rfl rfl
theorem kw_1334 : Cond.code yX12_copies cX12_copies 3 none ∈ allW := alw6 134 rfl rfl
theorem kw_1335 : Cond.methodLink RX12 238 yX12_begin ∈ allW := alw6 135 rfl rfl
theorem kw_1337 : Cond.instanceMethod yX12_begin ∈ allW := alw6 137 rfl rfl
theorem kw_1338 : Cond.code yX12_begin cX12_begin 1 none ∈ allW := alw6 138 rfl rfl
theorem kw_1339 : Cond.methodLink RX12 337 yX12_atFirst ∈ allW := alw6 139 rfl rfl
theorem kw_1341 : Cond.instanceMethod yX12_atFirst ∈ allW := alw6 141 rfl rfl
theorem kw_1342 : Cond.code yX12_atFirst cX12_atFirst 3 none ∈ allW := alw6 142 rfl rfl
theorem kw_1343 : Cond.methodLink RX12 344 yX12_plainTried ∈ allW := alw6 143 rfl rfl
theorem kw_1345 : Cond.instanceMethod yX12_plainTried ∈ allW := alw6 145 rfl rfl
theorem kw_1346 : Cond.code yX12_plainTried cX12_plainTried 1 none ∈ allW := alw6 146 rfl rfl
theorem kw_1347 : Cond.fieldLink RX12 7 "ThoughtTaxModel" "tape" "[I" ∈ allW := alw6 147 rfl rfl
theorem kw_1348 : Cond.fieldLink RX12 148 "ThoughtTaxModel" "tapeSize" "I" ∈ allW := alw6 148 rfl rfl
theorem kw_1349 : Cond.fieldLink RX12 145 "ThoughtTaxModel" "thrown" "I" ∈ allW := alw6 149 rfl rfl
theorem kw_1350 : Cond.fieldLink RX12 13 "ThoughtTaxModel" "words" "[I" ∈ allW := alw6 150 rfl rfl
theorem kw_1351 : Cond.fieldLink RX12 151 "ThoughtTaxModel" "fault" "I" ∈ allW := alw6 151 rfl rfl
theorem kw_1352 : Cond.fieldLink RX12 16 "ThoughtTaxModel" "faultPlace" "I" ∈ allW := alw6 152 rfl rfl
theorem kw_1353 : Cond.fieldLink RX12 157 "ThoughtTaxModel" "stop" "I" ∈ allW := alw6 153 rfl rfl
theorem kw_1354 : Cond.fieldLink RX12 160 "ThoughtTaxModel" "next" "I" ∈ allW := alw6 154 rfl rfl
theorem kw_1355 : Cond.fieldLink RX12 163 "ThoughtTaxModel" "kind" "I" ∈ allW := alw6 155 rfl rfl
theorem kw_1356 : Cond.fieldLink RX12 174 "ThoughtTaxModel" "which" "I" ∈ allW := alw6 156 rfl rfl
theorem kw_1357 : Cond.fieldLink RX12 154 "ThoughtTaxModel" "at" "I" ∈ allW := alw6 157 rfl rfl
theorem kw_1358 : Cond.fieldLink RX12 194 "ThoughtTaxModel" "got" "I" ∈ allW := alw6 158 rfl rfl
theorem kw_1359 : Cond.fieldLink RX12 222 "ThoughtTaxModel" "people" "I" ∈ allW := alw6 159 rfl rfl
theorem kw_1360 : Cond.fieldLink RX12 225 "ThoughtTaxModel" "thoughts" "I" ∈ allW := alw6 160 rfl rfl
theorem kw_1361 : Cond.fieldLink RX12 228 "ThoughtTaxModel" "readers" "I" ∈ allW := alw6 161 rfl rfl
theorem kw_1362 : Cond.fieldLink RX12 231 "ThoughtTaxModel" "knots" "I" ∈ allW := alw6 162 rfl rfl
theorem kw_1363 : Cond.fieldLink RX12 207 "ThoughtTaxModel" "peopleRead" "I" ∈ allW := alw6 163 rfl rfl
theorem kw_1364 : Cond.fieldLink RX12 210 "ThoughtTaxModel" "thoughtsRead" "I" ∈ allW := alw6 164 rfl rfl
theorem kw_1365 : Cond.fieldLink RX12 213 "ThoughtTaxModel" "readersRead" "I" ∈ allW := alw6 165 rfl rfl
theorem kw_1366 : Cond.fieldLink RX12 216 "ThoughtTaxModel" "knotsRead" "I" ∈ allW := alw6 166 rfl rfl
theorem kw_1367 : Cond.fieldLink RX12 20 "ThoughtTaxModel" "onceTold" "[Z" ∈ allW := alw6 167 rfl rfl
theorem kw_1368 : Cond.fieldLink RX12 24 "ThoughtTaxModel" "once" "[I" ∈ allW := alw6 168 rfl rfl
theorem kw_1369 : Cond.fieldLink RX12 27 "ThoughtTaxModel" "manName" "[I" ∈ allW := alw6 169 rfl rfl
theorem kw_1370 : Cond.fieldLink RX12 30 "ThoughtTaxModel" "manPurse" "[I" ∈ allW := alw6 170 rfl rfl
theorem kw_1371 : Cond.fieldLink RX12 33 "ThoughtTaxModel" "manWiles" "[I" ∈ allW := alw6 171 rfl rfl
theorem kw_1372 : Cond.fieldLink RX12 36 "ThoughtTaxModel" "thoughtMan" "[I" ∈ allW := alw6 172 rfl rfl
theorem kw_1373 : Cond.fieldLink RX12 39 "ThoughtTaxModel" "thoughtWorth" "[I" ∈ allW := alw6 173 rfl rfl
theorem kw_1374 : Cond.fieldLink RX12 42 "ThoughtTaxModel" "thoughtWeek" "[I" ∈ allW := alw6 174 rfl rfl
theorem kw_1375 : Cond.fieldLink RX12 45 "ThoughtTaxModel" "thoughtTongue" "[I" ∈ allW := alw6 175 rfl rfl
theorem kw_1376 : Cond.fieldLink RX12 48 "ThoughtTaxModel" "readerName" "[I" ∈ allW := alw6 176 rfl rfl
theorem kw_1377 : Cond.fieldLink RX12 51 "ThoughtTaxModel" "readerSkill" "[I" ∈ allW := alw6 177 rfl rfl
theorem kw_1378 : Cond.fieldLink RX12 54 "ThoughtTaxModel" "readerTongues" "[I" ∈ allW := alw6 178 rfl rfl
theorem kw_1379 : Cond.fieldLink RX12 57 "ThoughtTaxModel" "lawTold" "[Z" ∈ allW := alw6 179 rfl rfl
theorem kw_1380 : Cond.fieldLink RX12 60 "ThoughtTaxModel" "first" "[I" ∈ allW := alw6 180 rfl rfl
theorem kw_1381 : Cond.fieldLink RX12 63 "ThoughtTaxModel" "last" "[I" ∈ allW := alw6 181 rfl rfl
theorem kw_1382 : Cond.fieldLink RX12 66 "ThoughtTaxModel" "knot" "[I" ∈ allW := alw6 182 rfl rfl
theorem kw_1383 : Cond.fieldLink RX12 69 "ThoughtTaxModel" "part" "[I" ∈ allW := alw6 183 rfl rfl
theorem kw_1384 : Cond.fieldLink RX12 72 "ThoughtTaxModel" "other" "[I" ∈ allW := alw6 184 rfl rfl
theorem kw_1385 : Cond.fieldLink RX12 75 "ThoughtTaxModel" "wait" "[I" ∈ allW := alw6 185 rfl rfl
theorem kw_1386 : Cond.fieldLink RX12 78 "ThoughtTaxModel" "held" "[I" ∈ allW := alw6 186 rfl rfl
theorem kw_1387 : Cond.fieldLink RX12 271 "ThoughtTaxModel" "waits" "I" ∈ allW := alw6 187 rfl rfl
theorem kw_1388 : Cond.fieldLink RX12 268 "ThoughtTaxModel" "helds" "I" ∈ allW := alw6 188 rfl rfl
theorem kw_1389 : Cond.fieldLink RX12 286 "ThoughtTaxModel" "brackets" "I" ∈ allW := alw6 189 rfl rfl
theorem kw_1390 : Cond.fieldLink RX12 219 "ThoughtTaxModel" "counted" "I" ∈ allW := alw6 190 rfl rfl
theorem kw_1391 : Cond.fieldLink RX12 306 "ThoughtTaxModel" "wants" "Z" ∈ allW := alw6 191 rfl rfl
theorem kw_1392 : Cond.fieldLink RX12 293 "ThoughtTaxModel" "mayNot" "Z" ∈ allW := alw6 192 rfl rfl
theorem kw_1393 : Cond.fieldLink RX12 81 "ThoughtTaxModel" "names" "[J" ∈ allW := alw6 193 rfl rfl
theorem kw_1394 : Cond.fieldLink RX12 85 "ThoughtTaxModel" "value" "[J" ∈ allW := alw6 194 rfl rfl
theorem kw_1395 : Cond.fieldLink RX12 318 "ThoughtTaxModel" "isError" "Z" ∈ allW := alw6 195 rfl rfl
theorem kw_1396 : Cond.fieldLink RX12 88 "ThoughtTaxModel" "state" "[I" ∈ allW := alw6 196 rfl rfl
theorem kw_1397 : Cond.fieldLink RX12 91 "ThoughtTaxModel" "holder" "[I" ∈ allW := alw6 197 rfl rfl
theorem kw_1398 : Cond.fieldLink RX12 94 "ThoughtTaxModel" "wasRead" "[Z" ∈ allW := alw6 198 rfl rfl
theorem kw_1399 : Cond.fieldLink RX12 97 "ThoughtTaxModel" "purse" "[I" ∈ allW := alw6 199 rfl rfl
theorem kw_1400 : Cond.fieldLink RX12 100 "ThoughtTaxModel" "paid" "[I" ∈ allW := alw6 200 rfl rfl
theorem kw_1401 : Cond.fieldLink RX12 103 "ThoughtTaxModel" "owed" "[I" ∈ allW := alw6 201 rfl rfl
theorem kw_1402 : Cond.fieldLink RX12 106 "ThoughtTaxModel" "dulled" "[I" ∈ allW := alw6 202 rfl rfl
theorem kw_1403 : Cond.fieldLink RX12 109 "ThoughtTaxModel" "round1" "[I" ∈ allW := alw6 203 rfl rfl
theorem kw_1404 : Cond.fieldLink RX12 112 "ThoughtTaxModel" "rateNow" "[I" ∈ allW := alw6 204 rfl rfl
theorem kw_1405 : Cond.fieldLink RX12 115 "ThoughtTaxModel" "week" "[I" ∈ allW := alw6 205 rfl rfl
theorem kw_1406 : Cond.fieldLink RX12 340 "ThoughtTaxModel" "drawn" "J" ∈ allW := alw6 206 rfl rfl
theorem kw_1407 : Cond.fieldLink RX12 435 "ThoughtTaxModel" "readNow" "I" ∈ allW := alw6 207 rfl rfl
theorem kw_1408 : Cond.fieldLink RX12 356 "ThoughtTaxModel" "draws" "Z" ∈ allW := alw6 208 rfl rfl
theorem kw_1409 : Cond.fieldLink RX12 359 "ThoughtTaxModel" "noWiles" "Z" ∈ allW := alw6 209 rfl rfl
theorem kw_1410 : Cond.fieldLink RX12 362 "ThoughtTaxModel" "allTongues" "Z" ∈ allW := alw6 210 rfl rfl
theorem kw_1411 : Cond.fieldLink RX12 365 "ThoughtTaxModel" "allSkills" "Z" ∈ allW := alw6 211 rfl rfl
theorem kw_1412 : Cond.fieldLink RX12 368 "ThoughtTaxModel" "visitsNow" "Z" ∈ allW := alw6 212 rfl rfl
theorem kw_1413 : Cond.fieldLink RX12 371 "ThoughtTaxModel" "noMore" "I" ∈ allW := alw6 213 rfl rfl
theorem kw_1414 : Cond.fieldLink RX12 374 "ThoughtTaxModel" "lacking" "I" ∈ allW := alw6 214 rfl rfl
theorem kw_1415 : Cond.fieldLink RX12 377 "ThoughtTaxModel" "skillOf" "I" ∈ allW := alw6 215 rfl rfl
theorem kw_1416 : Cond.fieldLink RX12 380 "ThoughtTaxModel" "skillBy" "I" ∈ allW := alw6 216 rfl rfl
theorem kw_1417 : Cond.fieldLink RX12 118 "ThoughtTaxModel" "usual" "[I" ∈ allW := alw6 217 rfl rfl
theorem kw_1418 : Cond.fieldLink RX12 347 "ThoughtTaxModel" "foundMany" "I" ∈ allW := alw6 218 rfl rfl
theorem kw_1419 : Cond.fieldLink RX12 121 "ThoughtTaxModel" "knownTold" "I" ∈ allW := alw6 219 rfl rfl
theorem kw_1420 : Cond.fieldLink RX12 124 "ThoughtTaxModel" "found" "[I" ∈ allW := alw6 220 rfl rfl
theorem kw_1421 : Cond.fieldLink RX12 127 "ThoughtTaxModel" "counts" "[Z" ∈ allW := alw6 221 rfl rfl
theorem kw_1422 : Cond.fieldLink RX12 350 "ThoughtTaxModel" "undos" "I" ∈ allW := alw6 222 rfl rfl
theorem kw_1423 : Cond.fieldLink RX12 130 "ThoughtTaxModel" "undo" "[I" ∈ allW := alw6 223 rfl rfl
theorem kw_1424 : Cond.fieldLink RX12 353 "ThoughtTaxModel" "hasImage" "Z" ∈ allW := alw6 224 rfl rfl
theorem kw_1425 : Cond.fieldLink RX12 133 "ThoughtTaxModel" "image" "[I" ∈ allW := alw6 225 rfl rfl
theorem kw_1426 : Cond.fieldLink RX12 136 "ThoughtTaxModel" "imageRest" "[I" ∈ allW := alw6 226 rfl rfl
theorem kw_1427 : Cond.fieldLink RX12 522 "ThoughtTaxModel" "imageDrawn" "J" ∈ allW := alw6 227 rfl rfl
theorem kw_1428 : Cond.laysFinal RX12 "ThoughtTaxModel" "tape" "[I" ∈ allW := alw6 228 rfl rfl
theorem kw_1430 : Cond.lays RX12 "ThoughtTaxModel" "tapeSize" "I" ∈ allW := alw6 230 rfl rfl
theorem kw_1432 : Cond.lays RX12 "ThoughtTaxModel" "thrown" "I" ∈ allW := alw6 232 rfl rfl
theorem kw_1434 : Cond.laysFinal RX12 "ThoughtTaxModel" "words" "[I" ∈ allW := alw6 234 rfl rfl
theorem kw_1436 : Cond.lays RX12 "ThoughtTaxModel" "fault" "I" ∈ allW := alw6 236 rfl rfl
theorem kw_1438 : Cond.lays RX12 "ThoughtTaxModel" "faultPlace" "I" ∈ allW := alw6 238 rfl rfl
theorem kw_1440 : Cond.lays RX12 "ThoughtTaxModel" "stop" "I" ∈ allW := alw7 0 rfl rfl
theorem kw_1442 : Cond.lays RX12 "ThoughtTaxModel" "next" "I" ∈ allW := alw7 2 rfl rfl
theorem kw_1444 : Cond.lays RX12 "ThoughtTaxModel" "kind" "I" ∈ allW := alw7 4 rfl rfl
theorem kw_1446 : Cond.lays RX12 "ThoughtTaxModel" "which" "I" ∈ allW := alw7 6 rfl rfl
theorem kw_1448 : Cond.lays RX12 "ThoughtTaxModel" "at" "I" ∈ allW := alw7 8 rfl rfl
theorem kw_1450 : Cond.lays RX12 "ThoughtTaxModel" "got" "I" ∈ allW := alw7 10 rfl rfl
theorem kw_1452 : Cond.lays RX12 "ThoughtTaxModel" "people" "I" ∈ allW := alw7 12 rfl rfl
theorem kw_1454 : Cond.lays RX12 "ThoughtTaxModel" "thoughts" "I" ∈ allW := alw7 14 rfl rfl
theorem kw_1456 : Cond.lays RX12 "ThoughtTaxModel" "readers" "I" ∈ allW := alw7 16 rfl rfl
theorem kw_1458 : Cond.lays RX12 "ThoughtTaxModel" "knots" "I" ∈ allW := alw7 18 rfl rfl
theorem kw_1460 : Cond.lays RX12 "ThoughtTaxModel" "peopleRead" "I" ∈ allW := alw7 20 rfl rfl
theorem kw_1462 : Cond.lays RX12 "ThoughtTaxModel" "thoughtsRead" "I" ∈ allW := alw7 22 rfl rfl
theorem kw_1464 : Cond.lays RX12 "ThoughtTaxModel" "readersRead" "I" ∈ allW := alw7 24 rfl rfl
theorem kw_1466 : Cond.lays RX12 "ThoughtTaxModel" "knotsRead" "I" ∈ allW := alw7 26 rfl rfl
theorem kw_1468 : Cond.laysFinal RX12 "ThoughtTaxModel" "onceTold" "[Z" ∈ allW := alw7 28 rfl rfl
theorem kw_1470 : Cond.laysFinal RX12 "ThoughtTaxModel" "once" "[I" ∈ allW := alw7 30 rfl rfl
theorem kw_1472 : Cond.laysFinal RX12 "ThoughtTaxModel" "manName" "[I" ∈ allW := alw7 32 rfl rfl
theorem kw_1474 : Cond.laysFinal RX12 "ThoughtTaxModel" "manPurse" "[I" ∈ allW := alw7 34 rfl rfl
theorem kw_1476 : Cond.laysFinal RX12 "ThoughtTaxModel" "manWiles" "[I" ∈ allW := alw7 36 rfl rfl
theorem kw_1478 : Cond.laysFinal RX12 "ThoughtTaxModel" "thoughtMan" "[I" ∈ allW := alw7 38 rfl rfl
theorem kw_1480 : Cond.laysFinal RX12 "ThoughtTaxModel" "thoughtWorth" "[I" ∈ allW := alw7 40 rfl rfl
theorem kw_1482 : Cond.laysFinal RX12 "ThoughtTaxModel" "thoughtWeek" "[I" ∈ allW := alw7 42 rfl rfl
theorem kw_1484 : Cond.laysFinal RX12 "ThoughtTaxModel" "thoughtTongue" "[I" ∈ allW := alw7 44 rfl rfl
theorem kw_1486 : Cond.laysFinal RX12 "ThoughtTaxModel" "readerName" "[I" ∈ allW := alw7 46 rfl rfl
theorem kw_1488 : Cond.laysFinal RX12 "ThoughtTaxModel" "readerSkill" "[I" ∈ allW := alw7 48 rfl rfl
theorem kw_1490 : Cond.laysFinal RX12 "ThoughtTaxModel" "readerTongues" "[I" ∈ allW := alw7 50 rfl rfl
theorem kw_1492 : Cond.laysFinal RX12 "ThoughtTaxModel" "lawTold" "[Z" ∈ allW := alw7 52 rfl rfl
theorem kw_1494 : Cond.laysFinal RX12 "ThoughtTaxModel" "first" "[I" ∈ allW := alw7 54 rfl rfl
theorem kw_1496 : Cond.laysFinal RX12 "ThoughtTaxModel" "last" "[I" ∈ allW := alw7 56 rfl rfl
theorem kw_1498 : Cond.laysFinal RX12 "ThoughtTaxModel" "knot" "[I" ∈ allW := alw7 58 rfl rfl
theorem kw_1500 : Cond.laysFinal RX12 "ThoughtTaxModel" "part" "[I" ∈ allW := alw7 60 rfl rfl
theorem kw_1502 : Cond.laysFinal RX12 "ThoughtTaxModel" "other" "[I" ∈ allW := alw7 62 rfl rfl
theorem kw_1504 : Cond.laysFinal RX12 "ThoughtTaxModel" "wait" "[I" ∈ allW := alw7 64 rfl rfl
theorem kw_1506 : Cond.laysFinal RX12 "ThoughtTaxModel" "held" "[I" ∈ allW := alw7 66 rfl rfl
theorem kw_1508 : Cond.lays RX12 "ThoughtTaxModel" "waits" "I" ∈ allW := alw7 68 rfl rfl
theorem kw_1510 : Cond.lays RX12 "ThoughtTaxModel" "helds" "I" ∈ allW := alw7 70 rfl rfl
theorem kw_1512 : Cond.lays RX12 "ThoughtTaxModel" "brackets" "I" ∈ allW := alw7 72 rfl rfl
theorem kw_1514 : Cond.lays RX12 "ThoughtTaxModel" "counted" "I" ∈ allW := alw7 74 rfl rfl
theorem kw_1516 : Cond.lays RX12 "ThoughtTaxModel" "wants" "Z" ∈ allW := alw7 76 rfl rfl
theorem kw_1518 : Cond.lays RX12 "ThoughtTaxModel" "mayNot" "Z" ∈ allW := alw7 78 rfl rfl
theorem kw_1520 : Cond.laysFinal RX12 "ThoughtTaxModel" "names" "[J" ∈ allW := alw7 80 rfl rfl
theorem kw_1522 : Cond.laysFinal RX12 "ThoughtTaxModel" "value" "[J" ∈ allW := alw7 82 rfl rfl
theorem kw_1524 : Cond.lays RX12 "ThoughtTaxModel" "isError" "Z" ∈ allW := alw7 84 rfl rfl
theorem kw_1526 : Cond.laysFinal RX12 "ThoughtTaxModel" "state" "[I" ∈ allW := alw7 86 rfl rfl
theorem kw_1528 : Cond.laysFinal RX12 "ThoughtTaxModel" "holder" "[I" ∈ allW := alw7 88 rfl rfl
theorem kw_1530 : Cond.laysFinal RX12 "ThoughtTaxModel" "wasRead" "[Z" ∈ allW := alw7 90 rfl rfl
theorem kw_1532 : Cond.laysFinal RX12 "ThoughtTaxModel" "purse" "[I" ∈ allW := alw7 92 rfl rfl
theorem kw_1534 : Cond.laysFinal RX12 "ThoughtTaxModel" "paid" "[I" ∈ allW := alw7 94 rfl rfl
theorem kw_1536 : Cond.laysFinal RX12 "ThoughtTaxModel" "owed" "[I" ∈ allW := alw7 96 rfl rfl
theorem kw_1538 : Cond.laysFinal RX12 "ThoughtTaxModel" "dulled" "[I" ∈ allW := alw7 98 rfl rfl
theorem kw_1540 : Cond.laysFinal RX12 "ThoughtTaxModel" "round1" "[I" ∈ allW := alw7 100 rfl rfl
theorem kw_1542 : Cond.laysFinal RX12 "ThoughtTaxModel" "rateNow" "[I" ∈ allW := alw7 102 rfl rfl
theorem kw_1544 : Cond.laysFinal RX12 "ThoughtTaxModel" "week" "[I" ∈ allW := alw7 104 rfl rfl
theorem kw_1546 : Cond.lays RX12 "ThoughtTaxModel" "drawn" "J" ∈ allW := alw7 106 rfl rfl
theorem kw_1548 : Cond.lays RX12 "ThoughtTaxModel" "readNow" "I" ∈ allW := alw7 108 rfl rfl
theorem kw_1550 : Cond.lays RX12 "ThoughtTaxModel" "draws" "Z" ∈ allW := alw7 110 rfl rfl
theorem kw_1552 : Cond.lays RX12 "ThoughtTaxModel" "noWiles" "Z" ∈ allW := alw7 112 rfl rfl
theorem kw_1554 : Cond.lays RX12 "ThoughtTaxModel" "allTongues" "Z" ∈ allW := alw7 114 rfl rfl
theorem kw_1556 : Cond.lays RX12 "ThoughtTaxModel" "allSkills" "Z" ∈ allW := alw7 116 rfl rfl
theorem kw_1558 : Cond.lays RX12 "ThoughtTaxModel" "visitsNow" "Z" ∈ allW := alw7 118 rfl rfl
theorem kw_1560 : Cond.lays RX12 "ThoughtTaxModel" "noMore" "I" ∈ allW := alw7 120 rfl rfl
theorem kw_1562 : Cond.lays RX12 "ThoughtTaxModel" "lacking" "I" ∈ allW := alw7 122 rfl rfl
theorem kw_1564 : Cond.lays RX12 "ThoughtTaxModel" "skillOf" "I" ∈ allW := alw7 124 rfl rfl
theorem kw_1566 : Cond.lays RX12 "ThoughtTaxModel" "skillBy" "I" ∈ allW := alw7 126 rfl rfl
theorem kw_1568 : Cond.laysFinal RX12 "ThoughtTaxModel" "usual" "[I" ∈ allW := alw7 128 rfl rfl
theorem kw_1570 : Cond.lays RX12 "ThoughtTaxModel" "foundMany" "I" ∈ allW := alw7 130 rfl rfl
theorem kw_1572 : Cond.lays RX12 "ThoughtTaxModel" "knownTold" "I" ∈ allW := alw7 132 rfl rfl
theorem kw_1574 : Cond.laysFinal RX12 "ThoughtTaxModel" "found" "[I" ∈ allW := alw7 134 rfl rfl
theorem kw_1576 : Cond.laysFinal RX12 "ThoughtTaxModel" "counts" "[Z" ∈ allW := alw7 136 rfl rfl
theorem kw_1578 : Cond.lays RX12 "ThoughtTaxModel" "undos" "I" ∈ allW := alw7 138 rfl rfl
theorem kw_1580 : Cond.laysFinal RX12 "ThoughtTaxModel" "undo" "[I" ∈ allW := alw7 140 rfl rfl
theorem kw_1582 : Cond.lays RX12 "ThoughtTaxModel" "hasImage" "Z" ∈ allW := alw7 142 rfl rfl
theorem kw_1584 : Cond.laysFinal RX12 "ThoughtTaxModel" "image" "[I" ∈ allW := alw7 144 rfl rfl
theorem kw_1586 : Cond.laysFinal RX12 "ThoughtTaxModel" "imageRest" "[I" ∈ allW := alw7 146 rfl rfl
theorem kw_1588 : Cond.lays RX12 "ThoughtTaxModel" "imageDrawn" "J" ∈ allW := alw7 148 rfl rfl
theorem kw_1591 : Cond.methodLink RL 45 yX12_thrown ∈ allW := alw7 151 rfl rfl
theorem kw_1592 : Cond.instanceMethod yX12_thrown ∈ allW := alw7 152 rfl rfl
theorem kw_1593 : Cond.selects RX12 yX12_thrown yX12_thrown ∈ allW := alw7 153 rfl rfl
theorem kw_1594 : Cond.code yX12_thrown cX12_thrown 1 (some .int) ∈ allW := alw7 154 rfl rfl
theorem kw_1595 : Cond.methodLink RL 25 yX12_feed ∈ allW := alw7 155 rfl rfl
theorem kw_1596 : Cond.instanceMethod yX12_feed ∈ allW := alw7 156 rfl rfl
theorem kw_1597 : Cond.selects RX12 yX12_feed yX12_feed ∈ allW := alw7 157 rfl rfl
theorem kw_1598 : Cond.code yX12_feed cX12_feed 8 (some .int) ∈ allW := alw7 158 rfl rfl
theorem kw_1599 : Cond.methodLink RL 30 yX12_text ∈ allW := alw7 159 rfl rfl
theorem kw_1600 : Cond.instanceMethod yX12_text ∈ allW := alw7 160 rfl rfl
theorem kw_1601 : Cond.selects RX12 yX12_text yX12_text ∈ allW := alw7 161 rfl rfl
theorem kw_1602 : Cond.code yX12_text cX12_text 3 (some .int) ∈ allW := alw7 162 rfl rfl
theorem kw_1603 : Cond.methodLink RX12 197 yX12_token ∈ allW := alw7 163 rfl rfl
theorem kw_1605 : Cond.instanceMethod yX12_token ∈ allW := alw7 165 rfl rfl
theorem kw_1606 : Cond.code yX12_token cX12_token 1 none ∈ allW := alw7 166 rfl rfl
theorem kw_1607 : Cond.methodLink RX12 166 yX12_isSmall ∈ allW := alw7 167 rfl rfl
theorem kw_1609 : Cond.instanceMethod yX12_isSmall ∈ allW := alw7 169 rfl rfl
theorem kw_1610 : Cond.code yX12_isSmall cX12_isSmall 2 (some .boolean) ∈ allW := alw7 170 rfl rfl
theorem kw_1611 : Cond.methodLink RX12 170 yX12_wordAt ∈ allW := alw7 171 rfl rfl
theorem kw_1613 : Cond.instanceMethod yX12_wordAt ∈ allW := alw7 173 rfl rfl
theorem kw_1614 : Cond.code yX12_wordAt cX12_wordAt 8 (some .int) ∈ allW := alw7 174 rfl rfl
theorem kw_1615 : Cond.methodLink RX12 177 yX12_packed ∈ allW := alw7 175 rfl rfl
theorem kw_1617 : Cond.instanceMethod yX12_packed ∈ allW := alw7 177 rfl rfl
theorem kw_1618 : Cond.code yX12_packed cX12_packed 5 (some .int) ∈ allW := alw7 178 rfl rfl
theorem kw_1619 : Cond.methodLink RX12 180 yX12_isDigit ∈ allW := alw7 179 rfl rfl
theorem kw_1621 : Cond.instanceMethod yX12_isDigit ∈ allW := alw7 181 rfl rfl
theorem kw_1622 : Cond.code yX12_isDigit cX12_isDigit 2 (some .boolean) ∈ allW := alw7 182 rfl rfl
theorem kw_1623 : Cond.constant RX12 183 (99999 : Int32) ∈ allW := alw7 183 rfl rfl
theorem kw_1624 : Cond.methodLink RX12 184 yX12_signToken ∈ allW := alw7 184 rfl rfl
theorem kw_1626 : Cond.instanceMethod yX12_signToken ∈ allW := alw7 186 rfl rfl
theorem kw_1627 : Cond.code yX12_signToken cX12_signToken 4 none ∈ allW := alw7 187 rfl rfl
theorem kw_1628 : Cond.methodLink RX12 265 yX12_lineRead ∈ allW := alw7 188 rfl rfl
theorem kw_1630 : Cond.instanceMethod yX12_lineRead ∈ allW := alw7 190 rfl rfl
theorem kw_1631 : Cond.code yX12_lineRead cX12_lineRead 3 (some .boolean) ∈ allW := alw7 191 rfl rfl
theorem kw_1632 : Cond.methodLink RX12 187 yX12_wrong ∈ allW := alw7 192 rfl rfl
theorem kw_1634 : Cond.instanceMethod yX12_wrong ∈ allW := alw7 194 rfl rfl
theorem kw_1635 : Cond.code yX12_wrong cX12_wrong 2 (some .boolean) ∈ allW := alw7 195 rfl rfl
theorem kw_1636 : Cond.methodLink RX12 249 yX12_manLine ∈ allW := alw7 196 rfl rfl
theorem kw_1638 : Cond.instanceMethod yX12_manLine ∈ allW := alw7 198 rfl rfl
theorem kw_1639 : Cond.code yX12_manLine cX12_manLine 1 (some .boolean) ∈ allW := alw7 199 rfl rfl
theorem kw_1640 : Cond.methodLink RX12 245 yX12_newName ∈ allW := alw7 200 rfl rfl
theorem kw_1642 : Cond.instanceMethod yX12_newName ∈ allW := alw7 202 rfl rfl
theorem kw_1643 : Cond.code yX12_newName cX12_newName 4 (some .boolean) ∈ allW := alw7 203 rfl rfl
theorem kw_1644 : Cond.methodLink RX12 241 yX12_seek ∈ allW := alw7 204 rfl rfl
theorem kw_1645 : Cond.static yX12_seek ∈ allW := alw7 205 rfl rfl
theorem kw_1646 : Cond.code yX12_seek cX12_seek 5 (some .int) ∈ allW := alw7 206 rfl rfl
theorem kw_1647 : Cond.methodLink RX12 203 yX12_number ∈ allW := alw7 207 rfl rfl
theorem kw_1649 : Cond.instanceMethod yX12_number ∈ allW := alw7 209 rfl rfl
theorem kw_1650 : Cond.code yX12_number cX12_number 3 (some .boolean) ∈ allW := alw7 210 rfl rfl
theorem kw_1651 : Cond.methodLink RX12 190 yX12_isIn ∈ allW := alw7 211 rfl rfl
theorem kw_1652 : Cond.static yX12_isIn ∈ allW := alw7 212 rfl rfl
theorem kw_1653 : Cond.code yX12_isIn cX12_isIn 3 (some .boolean) ∈ allW := alw7 213 rfl rfl
theorem kw_1654 : Cond.methodLink RX12 253 yX12_thoughtLine ∈ allW := alw7 214 rfl rfl
theorem kw_1656 : Cond.instanceMethod yX12_thoughtLine ∈ allW := alw7 216 rfl rfl
theorem kw_1657 : Cond.code yX12_thoughtLine cX12_thoughtLine 3 (some .boolean) ∈ allW := alw7 217 rfl rfl
theorem kw_1658 : Cond.methodLink RX12 256 yX12_readerLine ∈ allW := alw7 218 rfl rfl
theorem kw_1660 : Cond.instanceMethod yX12_readerLine ∈ allW := alw7 220 rfl rfl
theorem kw_1661 : Cond.code yX12_readerLine cX12_readerLine 1 (some .boolean) ∈ allW := alw7 221 rfl rfl
theorem kw_1662 : Cond.methodLink RX12 259 yX12_onceLine ∈ allW := alw7 222 rfl rfl
theorem kw_1664 : Cond.instanceMethod yX12_onceLine ∈ allW := alw7 224 rfl rfl
theorem kw_1665 : Cond.code yX12_onceLine cX12_onceLine 4 (some .boolean) ∈ allW := alw7 225 rfl rfl
theorem kw_1666 : Cond.methodLink RX12 262 yX12_sumRead ∈ allW := alw7 226 rfl rfl
theorem kw_1668 : Cond.instanceMethod yX12_sumRead ∈ allW := alw7 228 rfl rfl
theorem kw_1669 : Cond.code yX12_sumRead cX12_sumRead 1 (some .boolean) ∈ allW := alw7 229 rfl rfl
theorem kw_1670 : Cond.methodLink RX12 200 yX12_isSign ∈ allW := alw7 230 rfl rfl
theorem kw_1672 : Cond.instanceMethod yX12_isSign ∈ allW := alw7 232 rfl rfl
theorem kw_1673 : Cond.code yX12_isSign cX12_isSign 2 (some .boolean) ∈ allW := alw7 233 rfl rfl
theorem kw_1674 : Cond.methodLink RX12 312 yX12_leafRead ∈ allW := alw7 234 rfl rfl
theorem kw_1676 : Cond.instanceMethod yX12_leafRead ∈ allW := alw7 236 rfl rfl
theorem kw_1677 : Cond.code yX12_leafRead cX12_leafRead 2 (some .boolean) ∈ allW := alw7 237 rfl rfl
theorem kw_1678 : Cond.methodLink RX12 289 yX12_waitsFor ∈ allW := alw7 238 rfl rfl
theorem kw_1680 : Cond.instanceMethod yX12_waitsFor ∈ allW := alw8 0 rfl rfl
theorem kw_1681 : Cond.code yX12_waitsFor cX12_waitsFor 2 none ∈ allW := alw8 1 rfl rfl
theorem kw_1682 : Cond.methodLink RX12 297 yX12_isKey ∈ allW := alw8 2 rfl rfl
theorem kw_1684 : Cond.instanceMethod yX12_isKey ∈ allW := alw8 4 rfl rfl
theorem kw_1685 : Cond.code yX12_isKey cX12_isKey 2 (some .boolean) ∈ allW := alw8 5 rfl rfl
theorem kw_1686 : Cond.methodLink RX12 300 yX12_isCounted ∈ allW := alw8 6 rfl rfl
theorem kw_1688 : Cond.instanceMethod yX12_isCounted ∈ allW := alw8 8 rfl rfl
theorem kw_1689 : Cond.code yX12_isCounted cX12_isCounted 1 (some .boolean) ∈ allW := alw8 9 rfl rfl
theorem kw_1690 : Cond.methodLink RX12 303 yX12_nameMet ∈ allW := alw8 10 rfl rfl
theorem kw_1692 : Cond.instanceMethod yX12_nameMet ∈ allW := alw8 12 rfl rfl
theorem kw_1693 : Cond.code yX12_nameMet cX12_nameMet 1 (some .int) ∈ allW := alw8 13 rfl rfl
theorem kw_1694 : Cond.methodLink RX12 282 yX12_grown ∈ allW := alw8 14 rfl rfl
theorem kw_1696 : Cond.instanceMethod yX12_grown ∈ allW := alw8 16 rfl rfl
theorem kw_1697 : Cond.code yX12_grown cX12_grown 4 none ∈ allW := alw8 17 rfl rfl
theorem kw_1698 : Cond.methodLink RX12 315 yX12_signs ∈ allW := alw8 18 rfl rfl
theorem kw_1700 : Cond.instanceMethod yX12_signs ∈ allW := alw8 20 rfl rfl
theorem kw_1701 : Cond.code yX12_signs cX12_signs 2 (some .boolean) ∈ allW := alw8 21 rfl rfl
theorem kw_1702 : Cond.methodLink RX12 309 yX12_bind ∈ allW := alw8 22 rfl rfl
theorem kw_1704 : Cond.instanceMethod yX12_bind ∈ allW := alw8 24 rfl rfl
theorem kw_1705 : Cond.code yX12_bind cX12_bind 5 none ∈ allW := alw8 25 rfl rfl
theorem kw_1706 : Cond.methodLink RX12 274 yX12_rank ∈ allW := alw8 26 rfl rfl
theorem kw_1707 : Cond.static yX12_rank ∈ allW := alw8 27 rfl rfl
theorem kw_1708 : Cond.code yX12_rank cX12_rank 1 (some .int) ∈ allW := alw8 28 rfl rfl
theorem kw_1709 : Cond.methodLink RX12 278 yX12_dropHeld ∈ allW := alw8 29 rfl rfl
theorem kw_1711 : Cond.instanceMethod yX12_dropHeld ∈ allW := alw8 31 rfl rfl
theorem kw_1712 : Cond.code yX12_dropHeld cX12_dropHeld 1 (some .int) ∈ allW := alw8 32 rfl rfl
theorem kw_1713 : Cond.methodLink RL 34 yX12_fault ∈ allW := alw8 33 rfl rfl
theorem kw_1714 : Cond.instanceMethod yX12_fault ∈ allW := alw8 34 rfl rfl
theorem kw_1715 : Cond.selects RX12 yX12_fault yX12_fault ∈ allW := alw8 35 rfl rfl
theorem kw_1716 : Cond.code yX12_fault cX12_fault 2 (some .int) ∈ allW := alw8 36 rfl rfl
theorem kw_1717 : Cond.methodLink RL 38 yX12_named ∈ allW := alw8 37 rfl rfl
theorem kw_1718 : Cond.instanceMethod yX12_named ∈ allW := alw8 38 rfl rfl
theorem kw_1719 : Cond.selects RX12 yX12_named yX12_named ∈ allW := alw8 39 rfl rfl
theorem kw_1720 : Cond.code yX12_named cX12_named 3 (some .int) ∈ allW := alw8 40 rfl rfl
theorem kw_1721 : Cond.methodLink RL 44 yX12_thought ∈ allW := alw8 41 rfl rfl
theorem kw_1722 : Cond.instanceMethod yX12_thought ∈ allW := alw8 42 rfl rfl
theorem kw_1723 : Cond.selects RX12 yX12_thought yX12_thought ∈ allW := alw8 43 rfl rfl
theorem kw_1724 : Cond.code yX12_thought cX12_thought 3 (some .int) ∈ allW := alw8 44 rfl rfl
theorem kw_1725 : Cond.methodLink RX12 454 yX12_isThought ∈ allW := alw8 45 rfl rfl
theorem kw_1727 : Cond.instanceMethod yX12_isThought ∈ allW := alw8 47 rfl rfl
theorem kw_1728 : Cond.code yX12_isThought cX12_isThought 2 (some .boolean) ∈ allW := alw8 48 rfl rfl
theorem kw_1729 : Cond.methodLink RX12 457 yX12_fails ∈ allW := alw8 49 rfl rfl
theorem kw_1731 : Cond.instanceMethod yX12_fails ∈ allW := alw8 51 rfl rfl
theorem kw_1732 : Cond.code yX12_fails cX12_fails 2 (some .int) ∈ allW := alw8 52 rfl rfl
theorem kw_1733 : Cond.methodLink RL 52 yX12_man ∈ allW := alw8 53 rfl rfl
theorem kw_1734 : Cond.instanceMethod yX12_man ∈ allW := alw8 54 rfl rfl
theorem kw_1735 : Cond.selects RX12 yX12_man yX12_man ∈ allW := alw8 55 rfl rfl
theorem kw_1736 : Cond.code yX12_man cX12_man 3 (some .int) ∈ allW := alw8 56 rfl rfl
theorem kw_1737 : Cond.methodLink RX12 460 yX12_isMan ∈ allW := alw8 57 rfl rfl
theorem kw_1739 : Cond.instanceMethod yX12_isMan ∈ allW := alw8 59 rfl rfl
theorem kw_1740 : Cond.code yX12_isMan cX12_isMan 2 (some .boolean) ∈ allW := alw8 60 rfl rfl
theorem kw_1741 : Cond.methodLink RL 56 yX12_reader ∈ allW := alw8 61 rfl rfl
theorem kw_1742 : Cond.instanceMethod yX12_reader ∈ allW := alw8 62 rfl rfl
theorem kw_1743 : Cond.selects RX12 yX12_reader yX12_reader ∈ allW := alw8 63 rfl rfl
theorem kw_1744 : Cond.code yX12_reader cX12_reader 3 (some .int) ∈ allW := alw8 64 rfl rfl
theorem kw_1745 : Cond.methodLink RX12 463 yX12_isReader ∈ allW := alw8 65 rfl rfl
theorem kw_1747 : Cond.instanceMethod yX12_isReader ∈ allW := alw8 67 rfl rfl
theorem kw_1748 : Cond.code yX12_isReader cX12_isReader 2 (some .boolean) ∈ allW := alw8 68 rfl rfl
theorem kw_1749 : Cond.methodLink RL 61 yX12_law ∈ allW := alw8 69 rfl rfl
theorem kw_1750 : Cond.instanceMethod yX12_law ∈ allW := alw8 70 rfl rfl
theorem kw_1751 : Cond.selects RX12 yX12_law yX12_law ∈ allW := alw8 71 rfl rfl
theorem kw_1752 : Cond.code yX12_law cX12_law 6 (some .long) ∈ allW := alw8 72 rfl rfl
theorem kw_1753 : Cond.constantLong RX12 466 (-9223372036854775808 : Int64) ∈ allW := alw8 73 rfl rfl
theorem kw_1754 : Cond.methodLink RX12 468 yX12_bestHeld ∈ allW := alw8 74 rfl rfl
theorem kw_1756 : Cond.instanceMethod yX12_bestHeld ∈ allW := alw8 76 rfl rfl
theorem kw_1757 : Cond.code yX12_bestHeld cX12_bestHeld 4 (some .int) ∈ allW := alw8 77 rfl rfl
theorem kw_1758 : Cond.methodLink RX12 399 yX12_skillIn ∈ allW := alw8 78 rfl rfl
theorem kw_1760 : Cond.instanceMethod yX12_skillIn ∈ allW := alw8 80 rfl rfl
theorem kw_1761 : Cond.code yX12_skillIn cX12_skillIn 2 (some .int) ∈ allW := alw8 81 rfl rfl
theorem kw_1762 : Cond.methodLink RX12 402 yX12_layNames ∈ allW := alw8 82 rfl rfl
theorem kw_1764 : Cond.instanceMethod yX12_layNames ∈ allW := alw8 84 rfl rfl
theorem kw_1765 : Cond.code yX12_layNames cX12_layNames 5 none ∈ allW := alw8 85 rfl rfl
theorem kw_1766 : Cond.methodLink RX12 386 yX12_wilesOf ∈ allW := alw8 86 rfl rfl
theorem kw_1768 : Cond.instanceMethod yX12_wilesOf ∈ allW := alw8 88 rfl rfl
theorem kw_1769 : Cond.code yX12_wilesOf cX12_wilesOf 2 (some .int) ∈ allW := alw8 89 rfl rfl
theorem kw_1770 : Cond.methodLink RX12 389 yX12_there ∈ allW := alw8 90 rfl rfl
theorem kw_1772 : Cond.instanceMethod yX12_there ∈ allW := alw8 92 rfl rfl
theorem kw_1773 : Cond.code yX12_there cX12_there 5 (some .int) ∈ allW := alw8 93 rfl rfl
theorem kw_1774 : Cond.methodLink RX12 396 yX12_lawOf ∈ allW := alw8 94 rfl rfl
theorem kw_1776 : Cond.instanceMethod yX12_lawOf ∈ allW := alw8 96 rfl rfl
theorem kw_1777 : Cond.code yX12_lawOf cX12_lawOf 3 (some .long) ∈ allW := alw8 97 rfl rfl
theorem kw_1778 : Cond.methodLink RX12 392 yX12_valueOf ∈ allW := alw8 98 rfl rfl
theorem kw_1780 : Cond.instanceMethod yX12_valueOf ∈ allW := alw8 100 rfl rfl
theorem kw_1781 : Cond.code yX12_valueOf cX12_valueOf 6 (some .long) ∈ allW := alw8 101 rfl rfl
theorem kw_1782 : Cond.methodLink RX12 325 yX12_bounded ∈ allW := alw8 102 rfl rfl
theorem kw_1784 : Cond.instanceMethod yX12_bounded ∈ allW := alw8 104 rfl rfl
theorem kw_1785 : Cond.code yX12_bounded cX12_bounded 3 (some .long) ∈ allW := alw8 105 rfl rfl
theorem kw_1786 : Cond.constantLong RX12 321 (1000000000000 : Int64) ∈ allW := alw8 106 rfl rfl
theorem kw_1787 : Cond.constantLong RX12 323 (-1000000000000 : Int64) ∈ allW := alw8 107 rfl rfl
theorem kw_1788 : Cond.methodLink RX12 329 yX12_times ∈ allW := alw8 108 rfl rfl
theorem kw_1790 : Cond.instanceMethod yX12_times ∈ allW := alw8 110 rfl rfl
theorem kw_1791 : Cond.code yX12_times cX12_times 6 (some .long) ∈ allW := alw8 111 rfl rfl
theorem kw_1792 : Cond.methodLink RX12 333 yX12_compares ∈ allW := alw8 112 rfl rfl
theorem kw_1793 : Cond.static yX12_compares ∈ allW := alw8 113 rfl rfl
theorem kw_1794 : Cond.code yX12_compares cX12_compares 5 (some .boolean) ∈ allW := alw8 114 rfl rfl
theorem kw_1795 : Cond.methodLink RL 66 yX12_hide ∈ allW := alw8 115 rfl rfl
theorem kw_1796 : Cond.instanceMethod yX12_hide ∈ allW := alw8 116 rfl rfl
theorem kw_1797 : Cond.selects RX12 yX12_hide yX12_hide ∈ allW := alw8 117 rfl rfl
theorem kw_1798 : Cond.code yX12_hide cX12_hide 3 (some .boolean) ∈ allW := alw8 118 rfl rfl
theorem kw_1799 : Cond.methodLink RX12 471 yX12_remember ∈ allW := alw8 119 rfl rfl
theorem kw_1801 : Cond.instanceMethod yX12_remember ∈ allW := alw8 121 rfl rfl
theorem kw_1802 : Cond.code yX12_remember cX12_remember 2 none ∈ allW := alw8 122 rfl rfl
theorem kw_1803 : Cond.methodLink RX12 516 yX12_put ∈ allW := alw8 123 rfl rfl
theorem kw_1805 : Cond.instanceMethod yX12_put ∈ allW := alw8 125 rfl rfl
theorem kw_1806 : Cond.code yX12_put cX12_put 4 none ∈ allW := alw8 126 rfl rfl
theorem kw_1807 : Cond.methodLink RL 70 yX12_buy ∈ allW := alw8 127 rfl rfl
theorem kw_1808 : Cond.instanceMethod yX12_buy ∈ allW := alw8 128 rfl rfl
theorem kw_1809 : Cond.selects RX12 yX12_buy yX12_buy ∈ allW := alw8 129 rfl rfl
theorem kw_1810 : Cond.code yX12_buy cX12_buy 3 (some .int) ∈ allW := alw8 130 rfl rfl
theorem kw_1811 : Cond.methodLink RL 74 yX12_round ∈ allW := alw8 131 rfl rfl
theorem kw_1812 : Cond.instanceMethod yX12_round ∈ allW := alw8 132 rfl rfl
theorem kw_1813 : Cond.selects RX12 yX12_round yX12_round ∈ allW := alw8 133 rfl rfl
theorem kw_1814 : Cond.code yX12_round cX12_round 3 (some .boolean) ∈ allW := alw8 134 rfl rfl
theorem kw_1815 : Cond.methodLink RL 79 yX12_rate ∈ allW := alw8 135 rfl rfl
theorem kw_1816 : Cond.instanceMethod yX12_rate ∈ allW := alw8 136 rfl rfl
theorem kw_1817 : Cond.selects RX12 yX12_rate yX12_rate ∈ allW := alw8 137 rfl rfl
theorem kw_1818 : Cond.code yX12_rate cX12_rate 2 (some .boolean) ∈ allW := alw8 138 rfl rfl
theorem kw_1819 : Cond.methodLink RL 83 yX12_weeks ∈ allW := alw8 139 rfl rfl
theorem kw_1820 : Cond.instanceMethod yX12_weeks ∈ allW := alw8 140 rfl rfl
theorem kw_1821 : Cond.selects RX12 yX12_weeks yX12_weeks ∈ allW := alw8 141 rfl rfl
theorem kw_1822 : Cond.code yX12_weeks cX12_weeks 3 (some .int) ∈ allW := alw8 142 rfl rfl
theorem kw_1823 : Cond.methodLink RX12 445 yX12_weekGoes ∈ allW := alw8 143 rfl rfl
theorem kw_1825 : Cond.instanceMethod yX12_weekGoes ∈ allW := alw8 145 rfl rfl
theorem kw_1826 : Cond.code yX12_weekGoes cX12_weekGoes 3 none ∈ allW := alw8 146 rfl rfl
theorem kw_1827 : Cond.methodLink RX12 438 yX12_visits ∈ allW := alw8 147 rfl rfl
theorem kw_1829 : Cond.instanceMethod yX12_visits ∈ allW := alw8 149 rfl rfl
theorem kw_1830 : Cond.code yX12_visits cX12_visits 8 none ∈ allW := alw8 150 rfl rfl
theorem kw_1831 : Cond.methodLink RX12 431 yX12_isReadAt ∈ allW := alw8 151 rfl rfl
theorem kw_1833 : Cond.instanceMethod yX12_isReadAt ∈ allW := alw8 153 rfl rfl
theorem kw_1834 : Cond.code yX12_isReadAt cX12_isReadAt 6 (some .boolean) ∈ allW := alw8 154 rfl rfl
theorem kw_1835 : Cond.methodLink RX12 421 yX12_knows ∈ allW := alw8 155 rfl rfl
theorem kw_1837 : Cond.instanceMethod yX12_knows ∈ allW := alw8 157 rfl rfl
theorem kw_1838 : Cond.code yX12_knows cX12_knows 3 (some .boolean) ∈ allW := alw8 158 rfl rfl
theorem kw_1839 : Cond.methodLink RX12 383 yX12_isOf ∈ allW := alw8 159 rfl rfl
theorem kw_1840 : Cond.static yX12_isOf ∈ allW := alw8 160 rfl rfl
theorem kw_1841 : Cond.code yX12_isOf cX12_isOf 2 (some .boolean) ∈ allW := alw8 161 rfl rfl
theorem kw_1842 : Cond.methodLink RX12 424 yX12_readOf ∈ allW := alw8 162 rfl rfl
theorem kw_1844 : Cond.instanceMethod yX12_readOf ∈ allW := alw8 164 rfl rfl
theorem kw_1845 : Cond.code yX12_readOf cX12_readOf 5 (some .int) ∈ allW := alw8 165 rfl rfl
theorem kw_1846 : Cond.methodLink RX12 406 yX12_within ∈ allW := alw8 166 rfl rfl
theorem kw_1847 : Cond.static yX12_within ∈ allW := alw8 167 rfl rfl
theorem kw_1848 : Cond.code yX12_within cX12_within 2 (some .int) ∈ allW := alw8 168 rfl rfl
theorem kw_1849 : Cond.methodLink RX12 409 yX12_boundLaw ∈ allW := alw8 169 rfl rfl
theorem kw_1851 : Cond.instanceMethod yX12_boundLaw ∈ allW := alw8 171 rfl rfl
theorem kw_1852 : Cond.code yX12_boundLaw cX12_boundLaw 6 (some .int) ∈ allW := alw8 172 rfl rfl
theorem kw_1853 : Cond.methodLink RX12 428 yX12_number1 ∈ allW := alw8 173 rfl rfl
theorem kw_1855 : Cond.instanceMethod yX12_number1 ∈ allW := alw8 175 rfl rfl
theorem kw_1856 : Cond.code yX12_number1 cX12_number1 2 (some .int) ∈ allW := alw8 176 rfl rfl
theorem kw_1857 : Cond.constantLong RX12 413 (1103515245 : Int64) ∈ allW := alw8 177 rfl rfl
theorem kw_1858 : Cond.constantLong RX12 415 (12345 : Int64) ∈ allW := alw8 178 rfl rfl
theorem kw_1859 : Cond.constantLong RX12 417 (2147483647 : Int64) ∈ allW := alw8 179 rfl rfl
theorem kw_1860 : Cond.constantLong RX12 419 (65536 : Int64) ∈ allW := alw8 180 rfl rfl
theorem kw_1861 : Cond.methodLink RX12 442 yX12_fades ∈ allW := alw8 181 rfl rfl
theorem kw_1863 : Cond.instanceMethod yX12_fades ∈ allW := alw8 183 rfl rfl
theorem kw_1864 : Cond.code yX12_fades cX12_fades 5 none ∈ allW := alw8 184 rfl rfl
theorem kw_1865 : Cond.methodLink RL 87 yX12_ahead ∈ allW := alw8 185 rfl rfl
theorem kw_1866 : Cond.instanceMethod yX12_ahead ∈ allW := alw8 186 rfl rfl
theorem kw_1867 : Cond.selects RX12 yX12_ahead yX12_ahead ∈ allW := alw8 187 rfl rfl
theorem kw_1868 : Cond.code yX12_ahead cX12_ahead 3 (some .int) ∈ allW := alw8 188 rfl rfl
theorem kw_1869 : Cond.methodLink RX12 474 yX12_layTried ∈ allW := alw8 189 rfl rfl
theorem kw_1871 : Cond.instanceMethod yX12_layTried ∈ allW := alw8 191 rfl rfl
theorem kw_1872 : Cond.code yX12_layTried cX12_layTried 2 none ∈ allW := alw8 192 rfl rfl
theorem kw_1873 : Cond.methodLink RX12 477 yX12_goMany ∈ allW := alw8 193 rfl rfl
theorem kw_1875 : Cond.instanceMethod yX12_goMany ∈ allW := alw8 195 rfl rfl
theorem kw_1876 : Cond.code yX12_goMany cX12_goMany 3 none ∈ allW := alw8 196 rfl rfl
theorem kw_1877 : Cond.methodLink RX12 448 yX12_paidAll ∈ allW := alw8 197 rfl rfl
theorem kw_1879 : Cond.instanceMethod yX12_paidAll ∈ allW := alw8 199 rfl rfl
theorem kw_1880 : Cond.code yX12_paidAll cX12_paidAll 4 (some .int) ∈ allW := alw8 200 rfl rfl
theorem kw_1881 : Cond.methodLink RX12 451 yX12_owedAll ∈ allW := alw8 201 rfl rfl
theorem kw_1883 : Cond.instanceMethod yX12_owedAll ∈ allW := alw8 203 rfl rfl
theorem kw_1884 : Cond.code yX12_owedAll cX12_owedAll 4 (some .int) ∈ allW := alw8 204 rfl rfl
theorem kw_1885 : Cond.methodLink RX12 480 yX12_are ∈ allW := alw8 205 rfl rfl
theorem kw_1887 : Cond.instanceMethod yX12_are ∈ allW := alw8 207 rfl rfl
theorem kw_1888 : Cond.code yX12_are cX12_are 5 (some .int) ∈ allW := alw8 208 rfl rfl
theorem kw_1889 : Cond.methodLink RL 91 yX12_likely ∈ allW := alw8 209 rfl rfl
theorem kw_1890 : Cond.instanceMethod yX12_likely ∈ allW := alw8 210 rfl rfl
theorem kw_1891 : Cond.selects RX12 yX12_likely yX12_likely ∈ allW := alw8 211 rfl rfl
theorem kw_1892 : Cond.code yX12_likely cX12_likely 3 (some .int) ∈ allW := alw8 212 rfl rfl
theorem kw_1893 : Cond.methodLink RL 95 yX12_bestRound ∈ allW := alw8 213 rfl rfl
theorem kw_1894 : Cond.instanceMethod yX12_bestRound ∈ allW := alw8 214 rfl rfl
theorem kw_1895 : Cond.selects RX12 yX12_bestRound yX12_bestRound ∈ allW := alw8 215 rfl rfl
theorem kw_1896 : Cond.code yX12_bestRound cX12_bestRound 7 (some .int) ∈ allW := alw8 216 rfl rfl
theorem kw_1897 : Cond.methodLink RX12 483 yX12_powerOf ∈ allW := alw8 217 rfl rfl
theorem kw_1898 : Cond.static yX12_powerOf ∈ allW := alw8 218 rfl rfl
theorem kw_1899 : Cond.code yX12_powerOf cX12_powerOf 4 (some .int) ∈ allW := alw8 219 rfl rfl
theorem kw_1900 : Cond.methodLink RX12 486 yX12_more ∈ allW := alw8 220 rfl rfl
theorem kw_1902 : Cond.instanceMethod yX12_more ∈ allW := alw8 222 rfl rfl
theorem kw_1903 : Cond.code yX12_more cX12_more 1 (some .int) ∈ allW := alw8 223 rfl rfl
theorem kw_1904 : Cond.methodLink RL 99 yX12_hideIn ∈ allW := alw8 224 rfl rfl
theorem kw_1905 : Cond.instanceMethod yX12_hideIn ∈ allW := alw8 225 rfl rfl
theorem kw_1906 : Cond.selects RX12 yX12_hideIn yX12_hideIn ∈ allW := alw8 226 rfl rfl
theorem kw_1907 : Cond.code yX12_hideIn cX12_hideIn 6 (some .int) ∈ allW := alw8 227 rfl rfl
theorem kw_1908 : Cond.methodLink RL 103 yX12_bestRate ∈ allW := alw8 228 rfl rfl
theorem kw_1909 : Cond.instanceMethod yX12_bestRate ∈ allW := alw8 229 rfl rfl
theorem kw_1910 : Cond.selects RX12 yX12_bestRate yX12_bestRate ∈ allW := alw8 230 rfl rfl
theorem kw_1911 : Cond.code yX12_bestRate cX12_bestRate 7 (some .int) ∈ allW := alw8 231 rfl rfl
theorem kw_1912 : Cond.methodLink RL 107 yX12_worthless ∈ allW := alw8 232 rfl rfl
theorem kw_1913 : Cond.instanceMethod yX12_worthless ∈ allW := alw8 233 rfl rfl
theorem kw_1914 : Cond.selects RX12 yX12_worthless yX12_worthless ∈ allW := alw8 234 rfl rfl
theorem kw_1915 : Cond.code yX12_worthless cX12_worthless 5 (some .int) ∈ allW := alw8 235 rfl rfl
theorem kw_1916 : Cond.methodLink RX12 489 yX12_moreOf ∈ allW := alw8 236 rfl rfl
theorem kw_1918 : Cond.instanceMethod yX12_moreOf ∈ allW := alw8 238 rfl rfl
theorem kw_1919 : Cond.code yX12_moreOf cX12_moreOf 2 (some .int) ∈ allW := alw8 239 rfl rfl
theorem kw_1920 : Cond.methodLink RL 112 yX12_share ∈ allW := alw9 0 rfl rfl
theorem kw_1921 : Cond.instanceMethod yX12_share ∈ allW := alw9 1 rfl rfl
theorem kw_1922 : Cond.selects RX12 yX12_share yX12_share ∈ allW := alw9 2 rfl rfl
theorem kw_1923 : Cond.code yX12_share cX12_share 8 (some .int) ∈ allW := alw9 3 rfl rfl
theorem kw_1924 : Cond.methodLink RL 116 yX12_chain ∈ allW := alw9 4 rfl rfl
theorem kw_1925 : Cond.instanceMethod yX12_chain ∈ allW := alw9 5 rfl rfl
theorem kw_1926 : Cond.selects RX12 yX12_chain yX12_chain ∈ allW := alw9 6 rfl rfl
theorem kw_1927 : Cond.code yX12_chain cX12_chain 5 (some .int) ∈ allW := alw9 7 rfl rfl
theorem kw_1928 : Cond.methodLink RL 120 yX12_rests ∈ allW := alw9 8 rfl rfl
theorem kw_1929 : Cond.instanceMethod yX12_rests ∈ allW := alw9 9 rfl rfl
theorem kw_1930 : Cond.selects RX12 yX12_rests yX12_rests ∈ allW := alw9 10 rfl rfl
theorem kw_1931 : Cond.code yX12_rests cX12_rests 1 (some .int) ∈ allW := alw9 11 rfl rfl
theorem kw_1932 : Cond.methodLink RX12 501 yX12_restAt ∈ allW := alw9 12 rfl rfl
theorem kw_1934 : Cond.instanceMethod yX12_restAt ∈ allW := alw9 14 rfl rfl
theorem kw_1935 : Cond.code yX12_restAt cX12_restAt 6 (some .int) ∈ allW := alw9 15 rfl rfl
theorem kw_1936 : Cond.methodLink RX12 495 yX12_streetHas ∈ allW := alw9 16 rfl rfl
theorem kw_1938 : Cond.instanceMethod yX12_streetHas ∈ allW := alw9 18 rfl rfl
theorem kw_1939 : Cond.code yX12_streetHas cX12_streetHas 3 (some .int) ∈ allW := alw9 19 rfl rfl
theorem kw_1940 : Cond.methodLink RX12 492 yX12_taxBy ∈ allW := alw9 20 rfl rfl
theorem kw_1942 : Cond.instanceMethod yX12_taxBy ∈ allW := alw9 22 rfl rfl
theorem kw_1943 : Cond.code yX12_taxBy cX12_taxBy 5 (some .int) ∈ allW := alw9 23 rfl rfl
theorem kw_1944 : Cond.methodLink RX12 498 yX12_readerHas ∈ allW := alw9 24 rfl rfl
theorem kw_1946 : Cond.instanceMethod yX12_readerHas ∈ allW := alw9 26 rfl rfl
theorem kw_1947 : Cond.code yX12_readerHas cX12_readerHas 3 (some .int) ∈ allW := alw9 27 rfl rfl
theorem kw_1948 : Cond.methodLink RL 124 yX12_rest ∈ allW := alw9 28 rfl rfl
theorem kw_1949 : Cond.instanceMethod yX12_rest ∈ allW := alw9 29 rfl rfl
theorem kw_1950 : Cond.selects RX12 yX12_rest yX12_rest ∈ allW := alw9 30 rfl rfl
theorem kw_1951 : Cond.code yX12_rest cX12_rest 2 (some .int) ∈ allW := alw9 31 rfl rfl
theorem kw_1952 : Cond.methodLink RL 136 yX12_enough ∈ allW := alw9 32 rfl rfl
theorem kw_1953 : Cond.instanceMethod yX12_enough ∈ allW := alw9 33 rfl rfl
theorem kw_1954 : Cond.selects RX12 yX12_enough yX12_enough ∈ allW := alw9 34 rfl rfl
theorem kw_1955 : Cond.code yX12_enough cX12_enough 6 (some .int) ∈ allW := alw9 35 rfl rfl
theorem kw_1956 : Cond.methodLink RL 140 yX12_vote ∈ allW := alw9 36 rfl rfl
theorem kw_1957 : Cond.instanceMethod yX12_vote ∈ allW := alw9 37 rfl rfl
theorem kw_1958 : Cond.selects RX12 yX12_vote yX12_vote ∈ allW := alw9 38 rfl rfl
theorem kw_1959 : Cond.code yX12_vote cX12_vote 6 (some .int) ∈ allW := alw9 39 rfl rfl
theorem kw_1960 : Cond.methodLink RL 128 yX12_first ∈ allW := alw9 40 rfl rfl
theorem kw_1961 : Cond.instanceMethod yX12_first ∈ allW := alw9 41 rfl rfl
theorem kw_1962 : Cond.selects RX12 yX12_first yX12_first ∈ allW := alw9 42 rfl rfl
theorem kw_1963 : Cond.code yX12_first cX12_first 6 (some .int) ∈ allW := alw9 43 rfl rfl
theorem kw_1964 : Cond.methodLink RL 132 yX12_farthing ∈ allW := alw9 44 rfl rfl
theorem kw_1965 : Cond.instanceMethod yX12_farthing ∈ allW := alw9 45 rfl rfl
theorem kw_1966 : Cond.selects RX12 yX12_farthing yX12_farthing ∈ allW := alw9 46 rfl rfl
theorem kw_1967 : Cond.code yX12_farthing cX12_farthing 3 (some .int) ∈ allW := alw9 47 rfl rfl
theorem kw_1968 : Cond.methodLink RL 144 yX12_whose ∈ allW := alw9 48 rfl rfl
theorem kw_1969 : Cond.instanceMethod yX12_whose ∈ allW := alw9 49 rfl rfl
theorem kw_1970 : Cond.selects RX12 yX12_whose yX12_whose ∈ allW := alw9 50 rfl rfl
theorem kw_1971 : Cond.code yX12_whose cX12_whose 5 (some .int) ∈ allW := alw9 51 rfl rfl
theorem kw_1972 : Cond.methodLink RL 160 yX12_holds ∈ allW := alw9 52 rfl rfl
theorem kw_1973 : Cond.instanceMethod yX12_holds ∈ allW := alw9 53 rfl rfl
theorem kw_1974 : Cond.selects RX12 yX12_holds yX12_holds ∈ allW := alw9 54 rfl rfl
theorem kw_1975 : Cond.code yX12_holds cX12_holds 4 (some .int) ∈ allW := alw9 55 rfl rfl
theorem kw_1976 : Cond.methodLink RL 164 yX12_hidden ∈ allW := alw9 56 rfl rfl
theorem kw_1977 : Cond.instanceMethod yX12_hidden ∈ allW := alw9 57 rfl rfl
theorem kw_1978 : Cond.selects RX12 yX12_hidden yX12_hidden ∈ allW := alw9 58 rfl rfl
theorem kw_1979 : Cond.code yX12_hidden cX12_hidden 3 (some .int) ∈ allW := alw9 59 rfl rfl
theorem kw_1980 : Cond.methodLink RL 148 yX12_debtor ∈ allW := alw9 60 rfl rfl
theorem kw_1981 : Cond.instanceMethod yX12_debtor ∈ allW := alw9 61 rfl rfl
theorem kw_1982 : Cond.selects RX12 yX12_debtor yX12_debtor ∈ allW := alw9 62 rfl rfl
theorem kw_1983 : Cond.code yX12_debtor cX12_debtor 3 (some .int) ∈ allW := alw9 63 rfl rfl
theorem kw_1984 : Cond.methodLink RL 152 yX12_nextRead ∈ allW := alw9 64 rfl rfl
theorem kw_1985 : Cond.instanceMethod yX12_nextRead ∈ allW := alw9 65 rfl rfl
theorem kw_1986 : Cond.selects RX12 yX12_nextRead yX12_nextRead ∈ allW := alw9 66 rfl rfl
theorem kw_1987 : Cond.code yX12_nextRead cX12_nextRead 3 (some .int) ∈ allW := alw9 67 rfl rfl
theorem kw_1988 : Cond.methodLink RL 156 yX12_richest ∈ allW := alw9 68 rfl rfl
theorem kw_1989 : Cond.instanceMethod yX12_richest ∈ allW := alw9 69 rfl rfl
theorem kw_1990 : Cond.selects RX12 yX12_richest yX12_richest ∈ allW := alw9 70 rfl rfl
theorem kw_1991 : Cond.code yX12_richest cX12_richest 4 (some .int) ∈ allW := alw9 71 rfl rfl
theorem kw_1992 : Cond.methodLink RL 169 yX12_find ∈ allW := alw9 72 rfl rfl
theorem kw_1993 : Cond.instanceMethod yX12_find ∈ allW := alw9 73 rfl rfl
theorem kw_1994 : Cond.selects RX12 yX12_find yX12_find ∈ allW := alw9 74 rfl rfl
theorem kw_1995 : Cond.code yX12_find cX12_find 4 (some .int) ∈ allW := alw9 75 rfl rfl
theorem kw_1996 : Cond.methodLink RX12 504 yX12_noted ∈ allW := alw9 76 rfl rfl
theorem kw_1998 : Cond.instanceMethod yX12_noted ∈ allW := alw9 78 rfl rfl
theorem kw_1999 : Cond.code yX12_noted cX12_noted 4 (some .int) ∈ allW := alw9 79 rfl rfl
theorem kw_2000 : Cond.methodLink RL 173 yX12_strike ∈ allW := alw9 80 rfl rfl
theorem kw_2001 : Cond.instanceMethod yX12_strike ∈ allW := alw9 81 rfl rfl
theorem kw_2002 : Cond.selects RX12 yX12_strike yX12_strike ∈ allW := alw9 82 rfl rfl
theorem kw_2003 : Cond.code yX12_strike cX12_strike 2 (some .int) ∈ allW := alw9 83 rfl rfl
theorem kw_2004 : Cond.methodLink RL 177 yX12_known ∈ allW := alw9 84 rfl rfl
theorem kw_2005 : Cond.instanceMethod yX12_known ∈ allW := alw9 85 rfl rfl
theorem kw_2006 : Cond.selects RX12 yX12_known yX12_known ∈ allW := alw9 86 rfl rfl
theorem kw_2007 : Cond.code yX12_known cX12_known 2 (some .boolean) ∈ allW := alw9 87 rfl rfl
theorem kw_2008 : Cond.methodLink RL 181 yX12_skills ∈ allW := alw9 88 rfl rfl
theorem kw_2009 : Cond.instanceMethod yX12_skills ∈ allW := alw9 89 rfl rfl
theorem kw_2010 : Cond.selects RX12 yX12_skills yX12_skills ∈ allW := alw9 90 rfl rfl
theorem kw_2011 : Cond.code yX12_skills cX12_skills 4 (some .int) ∈ allW := alw9 91 rfl rfl
theorem kw_2012 : Cond.methodLink RX12 507 yX12_knownBy ∈ allW := alw9 92 rfl rfl
theorem kw_2014 : Cond.instanceMethod yX12_knownBy ∈ allW := alw9 94 rfl rfl
theorem kw_2015 : Cond.code yX12_knownBy cX12_knownBy 1 (some .int) ∈ allW := alw9 95 rfl rfl
theorem kw_2016 : Cond.methodLink RX12 513 yX12_fits ∈ allW := alw9 96 rfl rfl
theorem kw_2018 : Cond.instanceMethod yX12_fits ∈ allW := alw9 98 rfl rfl
theorem kw_2019 : Cond.code yX12_fits cX12_fits 4 (some .boolean) ∈ allW := alw9 99 rfl rfl
theorem kw_2020 : Cond.methodLink RX12 510 yX12_isSo ∈ allW := alw9 100 rfl rfl
theorem kw_2022 : Cond.instanceMethod yX12_isSo ∈ allW := alw9 102 rfl rfl
theorem kw_2023 : Cond.code yX12_isSo cX12_isSo 3 (some .boolean) ∈ allW := alw9 103 rfl rfl
theorem kw_2024 : Cond.methodLink RL 185 yX12_chance ∈ allW := alw9 104 rfl rfl
theorem kw_2025 : Cond.instanceMethod yX12_chance ∈ allW := alw9 105 rfl rfl
theorem kw_2026 : Cond.selects RX12 yX12_chance yX12_chance ∈ allW := alw9 106 rfl rfl
theorem kw_2027 : Cond.code yX12_chance cX12_chance 8 (some .int) ∈ allW := alw9 107 rfl rfl
theorem kw_2028 : Cond.methodLink RL 189 yX12_tried ∈ allW := alw9 108 rfl rfl
theorem kw_2029 : Cond.instanceMethod yX12_tried ∈ allW := alw9 109 rfl rfl
theorem kw_2030 : Cond.selects RX12 yX12_tried yX12_tried ∈ allW := alw9 110 rfl rfl
theorem kw_2031 : Cond.code yX12_tried cX12_tried 5 (some .int) ∈ allW := alw9 111 rfl rfl
theorem kw_2032 : Cond.methodLink RL 193 yX12_undo ∈ allW := alw9 112 rfl rfl
theorem kw_2033 : Cond.instanceMethod yX12_undo ∈ allW := alw9 113 rfl rfl
theorem kw_2034 : Cond.selects RX12 yX12_undo yX12_undo ∈ allW := alw9 114 rfl rfl
theorem kw_2035 : Cond.code yX12_undo cX12_undo 1 (some .int) ∈ allW := alw9 115 rfl rfl
theorem kw_2036 : Cond.methodLink RX12 519 yX12_take ∈ allW := alw9 116 rfl rfl
theorem kw_2038 : Cond.instanceMethod yX12_take ∈ allW := alw9 118 rfl rfl
theorem kw_2039 : Cond.code yX12_take cX12_take 4 none ∈ allW := alw9 119 rfl rfl
theorem kw_2040 : Cond.methodLink RL 197 yX12_keep ∈ allW := alw9 120 rfl rfl
theorem kw_2041 : Cond.instanceMethod yX12_keep ∈ allW := alw9 121 rfl rfl
theorem kw_2042 : Cond.selects RX12 yX12_keep yX12_keep ∈ allW := alw9 122 rfl rfl
theorem kw_2043 : Cond.code yX12_keep cX12_keep 2 (some .int) ∈ allW := alw9 123 rfl rfl
theorem kw_2044 : Cond.methodLink RL 201 yX12_back ∈ allW := alw9 124 rfl rfl
theorem kw_2045 : Cond.instanceMethod yX12_back ∈ allW := alw9 125 rfl rfl
theorem kw_2046 : Cond.selects RX12 yX12_back yX12_back ∈ allW := alw9 126 rfl rfl
theorem kw_2047 : Cond.code yX12_back cX12_back 2 (some .int) ∈ allW := alw9 127 rfl rfl
theorem kw_2048 : Cond.methodLink RL 205 yX12_count ∈ allW := alw9 128 rfl rfl
theorem kw_2049 : Cond.instanceMethod yX12_count ∈ allW := alw9 129 rfl rfl
theorem kw_2050 : Cond.selects RX12 yX12_count yX12_count ∈ allW := alw9 130 rfl rfl
theorem kw_2051 : Cond.code yX12_count cX12_count 2 (some .int) ∈ allW := alw9 131 rfl rfl
theorem ks_X10_begin : Cond.selects RX10 yX10_begin yX10_begin ∈ allW := alwS (y := yX10_begin) (n := 17) (List.mem_append_left _ (List.mem_of_getElem? (i := 0) (by decide +kernel))) rfl
theorem ks_X6_hasRoom : Cond.selects RX6 yX6_hasRoom yX6_hasRoom ∈ allW := alwS (y := yX6_hasRoom) (n := 2) (List.mem_append_left _ (List.mem_of_getElem? (i := 1) (by decide +kernel))) rfl
theorem ks_X6_add : Cond.selects RX6 yX6_add yX6_add ∈ allW := alwS (y := yX6_add) (n := 2) (List.mem_append_left _ (List.mem_of_getElem? (i := 2) (by decide +kernel))) rfl
theorem ks_X7_tell : Cond.selects RX7 yX7_tell yX7_tell ∈ allW := alwS (y := yX7_tell) (n := 7) (List.mem_append_left _ (List.mem_of_getElem? (i := 3) (by decide +kernel))) rfl
theorem ks_X0_clear : Cond.selects RX0 yX0_clear yX0_clear ∈ allW := alwS (y := yX0_clear) (n := 18) (List.mem_append_left _ (List.mem_of_getElem? (i := 4) (by decide +kernel))) rfl
theorem ks_X5_clear : Cond.selects RX5 yX5_clear yX5_clear ∈ allW := alwS (y := yX5_clear) (n := 6) (List.mem_append_left _ (List.mem_of_getElem? (i := 5) (by decide +kernel))) rfl
theorem ks_X8_start : Cond.selects RX8 yX8_start yX8_start ∈ allW := alwS (y := yX8_start) (n := 6) (List.mem_append_left _ (List.mem_of_getElem? (i := 6) (by decide +kernel))) rfl
theorem ks_X8_advance : Cond.selects RX8 yX8_advance yX8_advance ∈ allW := alwS (y := yX8_advance) (n := 6) (List.mem_append_left _ (List.mem_of_getElem? (i := 7) (by decide +kernel))) rfl
theorem ks_X8_signAt : Cond.selects RX8 yX8_signAt yX8_signAt ∈ allW := alwS (y := yX8_signAt) (n := 6) (List.mem_append_left _ (List.mem_of_getElem? (i := 8) (by decide +kernel))) rfl
theorem ks_X8_takeWord : Cond.selects RX8 yX8_takeWord yX8_takeWord ∈ allW := alwS (y := yX8_takeWord) (n := 6) (List.mem_append_left _ (List.mem_of_getElem? (i := 9) (by decide +kernel))) rfl
theorem ks_X8_takeNumber : Cond.selects RX8 yX8_takeNumber yX8_takeNumber ∈ allW := alwS (y := yX8_takeNumber) (n := 6) (List.mem_append_left _ (List.mem_of_getElem? (i := 10) (by decide +kernel))) rfl
theorem ks_X8_takeSign : Cond.selects RX8 yX8_takeSign yX8_takeSign ∈ allW := alwS (y := yX8_takeSign) (n := 6) (List.mem_append_left _ (List.mem_of_getElem? (i := 11) (by decide +kernel))) rfl
theorem ks_X7_takeLine : Cond.selects RX7 yX7_takeLine yX7_takeLine ∈ allW := alwS (y := yX7_takeLine) (n := 7) (List.mem_append_left _ (List.mem_of_getElem? (i := 12) (by decide +kernel))) rfl
theorem ks_X7_blame : Cond.selects RX7 yX7_blame yX7_blame ∈ allW := alwS (y := yX7_blame) (n := 7) (List.mem_append_left _ (List.mem_of_getElem? (i := 13) (by decide +kernel))) rfl
theorem ks_X7_takeMan : Cond.selects RX7 yX7_takeMan yX7_takeMan ∈ allW := alwS (y := yX7_takeMan) (n := 7) (List.mem_append_left _ (List.mem_of_getElem? (i := 14) (by decide +kernel))) rfl
theorem ks_X0_manNamed : Cond.selects RX0 yX0_manNamed yX0_manNamed ∈ allW := alwS (y := yX0_manNamed) (n := 18) (List.mem_append_left _ (List.mem_of_getElem? (i := 15) (by decide +kernel))) rfl
theorem ks_X7_isNewName : Cond.selects RX7 yX7_isNewName yX7_isNewName ∈ allW := alwS (y := yX7_isNewName) (n := 7) (List.mem_append_right _ (List.mem_append_left _ (List.mem_of_getElem? (i := 0) (by decide +kernel)))) rfl
theorem ks_X7_takeNumber : Cond.selects RX7 yX7_takeNumber yX7_takeNumber ∈ allW := alwS (y := yX7_takeNumber) (n := 7) (List.mem_append_right _ (List.mem_append_left _ (List.mem_of_getElem? (i := 1) (by decide +kernel)))) rfl
theorem ks_X7_takeThought : Cond.selects RX7 yX7_takeThought yX7_takeThought ∈ allW := alwS (y := yX7_takeThought) (n := 7) (List.mem_append_right _ (List.mem_append_left _ (List.mem_of_getElem? (i := 2) (by decide +kernel)))) rfl
theorem ks_X7_takeReader : Cond.selects RX7 yX7_takeReader yX7_takeReader ∈ allW := alwS (y := yX7_takeReader) (n := 7) (List.mem_append_right _ (List.mem_append_left _ (List.mem_of_getElem? (i := 3) (by decide +kernel)))) rfl
theorem ks_X0_readerNamed : Cond.selects RX0 yX0_readerNamed yX0_readerNamed ∈ allW := alwS (y := yX0_readerNamed) (n := 18) (List.mem_append_right _ (List.mem_append_left _ (List.mem_of_getElem? (i := 4) (by decide +kernel)))) rfl
theorem ks_X7_takeRate : Cond.selects RX7 yX7_takeRate yX7_takeRate ∈ allW := alwS (y := yX7_takeRate) (n := 7) (List.mem_append_right _ (List.mem_append_left _ (List.mem_of_getElem? (i := 5) (by decide +kernel)))) rfl
theorem ks_X7_takeOnce : Cond.selects RX7 yX7_takeOnce yX7_takeOnce ∈ allW := alwS (y := yX7_takeOnce) (n := 7) (List.mem_append_right _ (List.mem_append_left _ (List.mem_of_getElem? (i := 6) (by decide +kernel)))) rfl
theorem ks_X7_takeDull : Cond.selects RX7 yX7_takeDull yX7_takeDull ∈ allW := alwS (y := yX7_takeDull) (n := 7) (List.mem_append_right _ (List.mem_append_left _ (List.mem_of_getElem? (i := 7) (by decide +kernel)))) rfl
theorem ks_X7_takeSeed : Cond.selects RX7 yX7_takeSeed yX7_takeSeed ∈ allW := alwS (y := yX7_takeSeed) (n := 7) (List.mem_append_right _ (List.mem_append_left _ (List.mem_of_getElem? (i := 8) (by decide +kernel)))) rfl
theorem ks_X7_takeLaw : Cond.selects RX7 yX7_takeLaw yX7_takeLaw ∈ allW := alwS (y := yX7_takeLaw) (n := 7) (List.mem_append_right _ (List.mem_append_left _ (List.mem_of_getElem? (i := 9) (by decide +kernel)))) rfl
theorem ks_X5_isTold : Cond.selects RX5 yX5_isTold yX5_isTold ∈ allW := alwS (y := yX5_isTold) (n := 6) (List.mem_append_right _ (List.mem_append_left _ (List.mem_of_getElem? (i := 10) (by decide +kernel)))) rfl
theorem ks_X4_read : Cond.selects RX4 yX4_read yX4_read ∈ allW := alwS (y := yX4_read) (n := 9) (List.mem_append_right _ (List.mem_append_left _ (List.mem_of_getElem? (i := 11) (by decide +kernel)))) rfl
theorem ks_X5_open : Cond.selects RX5 yX5_open yX5_open ∈ allW := alwS (y := yX5_open) (n := 6) (List.mem_append_right _ (List.mem_append_left _ (List.mem_of_getElem? (i := 12) (by decide +kernel)))) rfl
theorem ks_X4_expectOperand : Cond.selects RX4 yX4_expectOperand yX4_expectOperand ∈ allW := alwS (y := yX4_expectOperand) (n := 9) (List.mem_append_right _ (List.mem_append_left _ (List.mem_of_getElem? (i := 13) (by decide +kernel)))) rfl
theorem ks_X8_isSign : Cond.selects RX8 yX8_isSign yX8_isSign ∈ allW := alwS (y := yX8_isSign) (n := 6) (List.mem_append_right _ (List.mem_append_left _ (List.mem_of_getElem? (i := 14) (by decide +kernel)))) rfl
theorem ks_X4_release : Cond.selects RX4 yX4_release yX4_release ∈ allW := alwS (y := yX4_release) (n := 9) (List.mem_append_right _ (List.mem_append_left _ (List.mem_of_getElem? (i := 15) (by decide +kernel)))) rfl
theorem ks_X5_add : Cond.selects RX5 yX5_add yX5_add ∈ allW := alwS (y := yX5_add) (n := 6) (List.mem_append_right _ (List.mem_append_right _ (List.mem_append_left _ (List.mem_of_getElem? (i := 0) (by decide +kernel))))) rfl
theorem ks_X5_close : Cond.selects RX5 yX5_close yX5_close ∈ allW := alwS (y := yX5_close) (n := 6) (List.mem_append_right _ (List.mem_append_right _ (List.mem_append_left _ (List.mem_of_getElem? (i := 1) (by decide +kernel))))) rfl
theorem ks_X4_takeOperand : Cond.selects RX4 yX4_takeOperand yX4_takeOperand ∈ allW := alwS (y := yX4_takeOperand) (n := 9) (List.mem_append_right _ (List.mem_append_right _ (List.mem_append_left _ (List.mem_of_getElem? (i := 2) (by decide +kernel))))) rfl
theorem ks_X4_takeOpening : Cond.selects RX4 yX4_takeOpening yX4_takeOpening ∈ allW := alwS (y := yX4_takeOpening) (n := 9) (List.mem_append_right _ (List.mem_append_right _ (List.mem_append_left _ (List.mem_of_getElem? (i := 3) (by decide +kernel))))) rfl
theorem ks_X4_push : Cond.selects RX4 yX4_push yX4_push ∈ allW := alwS (y := yX4_push) (n := 9) (List.mem_append_right _ (List.mem_append_right _ (List.mem_append_left _ (List.mem_of_getElem? (i := 4) (by decide +kernel))))) rfl
theorem ks_X8_isWord : Cond.selects RX8 yX8_isWord yX8_isWord ∈ allW := alwS (y := yX8_isWord) (n := 6) (List.mem_append_right _ (List.mem_append_right _ (List.mem_append_left _ (List.mem_of_getElem? (i := 5) (by decide +kernel))))) rfl
theorem ks_X4_takeNegation : Cond.selects RX4 yX4_takeNegation yX4_takeNegation ∈ allW := alwS (y := yX4_takeNegation) (n := 9) (List.mem_append_right _ (List.mem_append_right _ (List.mem_append_left _ (List.mem_of_getElem? (i := 6) (by decide +kernel))))) rfl
theorem ks_X4_takeClosing : Cond.selects RX4 yX4_takeClosing yX4_takeClosing ∈ allW := alwS (y := yX4_takeClosing) (n := 9) (List.mem_append_right _ (List.mem_append_right _ (List.mem_append_left _ (List.mem_of_getElem? (i := 7) (by decide +kernel))))) rfl
theorem ks_X4_takeOperator : Cond.selects RX4 yX4_takeOperator yX4_takeOperator ∈ allW := alwS (y := yX4_takeOperator) (n := 9) (List.mem_append_right _ (List.mem_append_right _ (List.mem_append_left _ (List.mem_of_getElem? (i := 8) (by decide +kernel))))) rfl
theorem ks_X4_operator : Cond.selects RX4 yX4_operator yX4_operator ∈ allW := alwS (y := yX4_operator) (n := 9) (List.mem_append_right _ (List.mem_append_right _ (List.mem_append_left _ (List.mem_of_getElem? (i := 9) (by decide +kernel))))) rfl
theorem ks_X7_takeStop : Cond.selects RX7 yX7_takeStop yX7_takeStop ∈ allW := alwS (y := yX7_takeStop) (n := 7) (List.mem_append_right _ (List.mem_append_right _ (List.mem_append_left _ (List.mem_of_getElem? (i := 10) (by decide +kernel))))) rfl
theorem ks_X2_clear : Cond.selects RX2 yX2_clear yX2_clear ∈ allW := alwS (y := yX2_clear) (n := 7) (List.mem_append_right _ (List.mem_append_right _ (List.mem_append_left _ (List.mem_of_getElem? (i := 11) (by decide +kernel))))) rfl
theorem ks_X1_clear : Cond.selects RX1 yX1_clear yX1_clear ∈ allW := alwS (y := yX1_clear) (n := 4) (List.mem_append_right _ (List.mem_append_right _ (List.mem_append_left _ (List.mem_of_getElem? (i := 12) (by decide +kernel))))) rfl
theorem ks_X0_isMan : Cond.selects RX0 yX0_isMan yX0_isMan ∈ allW := alwS (y := yX0_isMan) (n := 18) (List.mem_append_right _ (List.mem_append_right _ (List.mem_append_left _ (List.mem_of_getElem? (i := 13) (by decide +kernel))))) rfl
theorem ks_X0_isReader : Cond.selects RX0 yX0_isReader yX0_isReader ∈ allW := alwS (y := yX0_isReader) (n := 18) (List.mem_append_right _ (List.mem_append_right _ (List.mem_append_left _ (List.mem_of_getElem? (i := 14) (by decide +kernel))))) rfl
theorem ks_X10_readLawNow : Cond.selects RX10 yX10_readLawNow yX10_readLawNow ∈ allW := alwS (y := yX10_readLawNow) (n := 17) (List.mem_append_right _ (List.mem_append_right _ (List.mem_append_left _ (List.mem_of_getElem? (i := 15) (by decide +kernel))))) rfl
theorem ks_X10_isHeld : Cond.selects RX10 yX10_isHeld yX10_isHeld ∈ allW := alwS (y := yX10_isHeld) (n := 17) (List.mem_append_right _ (List.mem_append_right _ (List.mem_append_right _ (List.mem_append_left _ (List.mem_of_getElem? (i := 0) (by decide +kernel)))))) rfl
theorem ks_X0_isThought : Cond.selects RX0 yX0_isThought yX0_isThought ∈ allW := alwS (y := yX0_isThought) (n := 18) (List.mem_append_right _ (List.mem_append_right _ (List.mem_append_right _ (List.mem_append_left _ (List.mem_of_getElem? (i := 1) (by decide +kernel)))))) rfl
theorem ks_X10_readerOf : Cond.selects RX10 yX10_readerOf yX10_readerOf ∈ allW := alwS (y := yX10_readerOf) (n := 17) (List.mem_append_right _ (List.mem_append_right _ (List.mem_append_right _ (List.mem_append_left _ (List.mem_of_getElem? (i := 2) (by decide +kernel)))))) rfl
theorem ks_X10_nameDoor : Cond.selects RX10 yX10_nameDoor yX10_nameDoor ∈ allW := alwS (y := yX10_nameDoor) (n := 17) (List.mem_append_right _ (List.mem_append_right _ (List.mem_append_right _ (List.mem_append_left _ (List.mem_of_getElem? (i := 3) (by decide +kernel)))))) rfl
theorem ks_X5_work : Cond.selects RX5 yX5_work yX5_work ∈ allW := alwS (y := yX5_work) (n := 6) (List.mem_append_right _ (List.mem_append_right _ (List.mem_append_right _ (List.mem_append_left _ (List.mem_of_getElem? (i := 4) (by decide +kernel)))))) rfl
theorem ks_X5_at : Cond.selects RX5 yX5_at yX5_at ∈ allW := alwS (y := yX5_at) (n := 6) (List.mem_append_right _ (List.mem_append_right _ (List.mem_append_right _ (List.mem_append_left _ (List.mem_of_getElem? (i := 5) (by decide +kernel)))))) rfl
theorem ks_X10_dueLawNow : Cond.selects RX10 yX10_dueLawNow yX10_dueLawNow ∈ allW := alwS (y := yX10_dueLawNow) (n := 17) (List.mem_append_right _ (List.mem_append_right _ (List.mem_append_right _ (List.mem_append_left _ (List.mem_of_getElem? (i := 6) (by decide +kernel)))))) rfl
theorem ks_X10_bestHeld : Cond.selects RX10 yX10_bestHeld yX10_bestHeld ∈ allW := alwS (y := yX10_bestHeld) (n := 17) (List.mem_append_right _ (List.mem_append_right _ (List.mem_append_right _ (List.mem_append_left _ (List.mem_of_getElem? (i := 7) (by decide +kernel)))))) rfl
theorem ks_X10_isHeldAt : Cond.selects RX10 yX10_isHeldAt yX10_isHeldAt ∈ allW := alwS (y := yX10_isHeldAt) (n := 17) (List.mem_append_right _ (List.mem_append_right _ (List.mem_append_right _ (List.mem_append_left _ (List.mem_of_getElem? (i := 8) (by decide +kernel)))))) rfl
theorem ks_X10_hideLawNow : Cond.selects RX10 yX10_hideLawNow yX10_hideLawNow ∈ allW := alwS (y := yX10_hideLawNow) (n := 17) (List.mem_append_right _ (List.mem_append_right _ (List.mem_append_right _ (List.mem_append_left _ (List.mem_of_getElem? (i := 9) (by decide +kernel)))))) rfl
theorem ks_X1_note : Cond.selects RX1 yX1_note yX1_note ∈ allW := alwS (y := yX1_note) (n := 4) (List.mem_append_right _ (List.mem_append_right _ (List.mem_append_right _ (List.mem_append_left _ (List.mem_of_getElem? (i := 10) (by decide +kernel)))))) rfl
theorem ks_X10_goWeeks : Cond.selects RX10 yX10_goWeeks yX10_goWeeks ∈ allW := alwS (y := yX10_goWeeks) (n := 17) (List.mem_append_right _ (List.mem_append_right _ (List.mem_append_right _ (List.mem_append_left _ (List.mem_of_getElem? (i := 11) (by decide +kernel)))))) rfl
theorem ks_X10_think : Cond.selects RX10 yX10_think yX10_think ∈ allW := alwS (y := yX10_think) (n := 17) (List.mem_append_right _ (List.mem_append_right _ (List.mem_append_right _ (List.mem_append_left _ (List.mem_of_getElem? (i := 12) (by decide +kernel)))))) rfl
theorem ks_X10_dueAt : Cond.selects RX10 yX10_dueAt yX10_dueAt ∈ allW := alwS (y := yX10_dueAt) (n := 17) (List.mem_append_right _ (List.mem_append_right _ (List.mem_append_right _ (List.mem_append_left _ (List.mem_of_getElem? (i := 13) (by decide +kernel)))))) rfl
theorem ks_X10_reads : Cond.selects RX10 yX10_reads yX10_reads ∈ allW := alwS (y := yX10_reads) (n := 17) (List.mem_append_right _ (List.mem_append_right _ (List.mem_append_right _ (List.mem_append_left _ (List.mem_of_getElem? (i := 14) (by decide +kernel)))))) rfl
theorem ks_X10_knowsTongue : Cond.selects RX10 yX10_knowsTongue yX10_knowsTongue ∈ allW := alwS (y := yX10_knowsTongue) (n := 17) (List.mem_append_right _ (List.mem_append_right _ (List.mem_append_right _ (List.mem_append_left _ (List.mem_of_getElem? (i := 15) (by decide +kernel)))))) rfl
theorem ks_X10_readOf : Cond.selects RX10 yX10_readOf yX10_readOf ∈ allW := alwS (y := yX10_readOf) (n := 17) (List.mem_append_right _ (List.mem_append_right _ (List.mem_append_right _ (List.mem_append_right _ (List.mem_append_left _ (List.mem_of_getElem? (i := 0) (by decide +kernel))))))) rfl
theorem ks_X10_draw : Cond.selects RX10 yX10_draw yX10_draw ∈ allW := alwS (y := yX10_draw) (n := 17) (List.mem_append_right _ (List.mem_append_right _ (List.mem_append_right _ (List.mem_append_right _ (List.mem_append_left _ (List.mem_of_getElem? (i := 1) (by decide +kernel))))))) rfl
theorem ks_X10_dueOf : Cond.selects RX10 yX10_dueOf yX10_dueOf ∈ allW := alwS (y := yX10_dueOf) (n := 17) (List.mem_append_right _ (List.mem_append_right _ (List.mem_append_right _ (List.mem_append_right _ (List.mem_append_left _ (List.mem_of_getElem? (i := 2) (by decide +kernel))))))) rfl
theorem ks_X10_pay : Cond.selects RX10 yX10_pay yX10_pay ∈ allW := alwS (y := yX10_pay) (n := 17) (List.mem_append_right _ (List.mem_append_right _ (List.mem_append_right _ (List.mem_append_right _ (List.mem_append_left _ (List.mem_of_getElem? (i := 3) (by decide +kernel))))))) rfl
theorem ks_X10_forget : Cond.selects RX10 yX10_forget yX10_forget ∈ allW := alwS (y := yX10_forget) (n := 17) (List.mem_append_right _ (List.mem_append_right _ (List.mem_append_right _ (List.mem_append_right _ (List.mem_append_left _ (List.mem_of_getElem? (i := 4) (by decide +kernel))))))) rfl
theorem ks_X10_hideOf : Cond.selects RX10 yX10_hideOf yX10_hideOf ∈ allW := alwS (y := yX10_hideOf) (n := 17) (List.mem_append_right _ (List.mem_append_right _ (List.mem_append_right _ (List.mem_append_right _ (List.mem_append_left _ (List.mem_of_getElem? (i := 5) (by decide +kernel))))))) rfl
theorem ks_X9_comes : Cond.selects RX9 yX9_comes yX9_comes ∈ allW := alwS (y := yX9_comes) (n := 2) (List.mem_append_right _ (List.mem_append_right _ (List.mem_append_right _ (List.mem_append_right _ (List.mem_append_left _ (List.mem_of_getElem? (i := 6) (by decide +kernel))))))) rfl
theorem ks_X10_copy : Cond.selects RX10 yX10_copy yX10_copy ∈ allW := alwS (y := yX10_copy) (n := 17) (List.mem_append_right _ (List.mem_append_right _ (List.mem_append_right _ (List.mem_append_right _ (List.mem_append_left _ (List.mem_of_getElem? (i := 7) (by decide +kernel))))))) rfl
theorem ks_X10_sum : Cond.selects RX10 yX10_sum yX10_sum ∈ allW := alwS (y := yX10_sum) (n := 17) (List.mem_append_right _ (List.mem_append_right _ (List.mem_append_right _ (List.mem_append_right _ (List.mem_append_left _ (List.mem_of_getElem? (i := 8) (by decide +kernel))))))) rfl
theorem ks_X10_countOf : Cond.selects RX10 yX10_countOf yX10_countOf ∈ allW := alwS (y := yX10_countOf) (n := 17) (List.mem_append_right _ (List.mem_append_right _ (List.mem_append_right _ (List.mem_append_right _ (List.mem_append_left _ (List.mem_of_getElem? (i := 9) (by decide +kernel))))))) rfl
theorem ks_X9_roundOfMost : Cond.selects RX9 yX9_roundOfMost yX9_roundOfMost ∈ allW := alwS (y := yX9_roundOfMost) (n := 2) (List.mem_append_right _ (List.mem_append_right _ (List.mem_append_right _ (List.mem_append_right _ (List.mem_append_left _ (List.mem_of_getElem? (i := 10) (by decide +kernel))))))) rfl
theorem ks_X9_readerOfMost : Cond.selects RX9 yX9_readerOfMost yX9_readerOfMost ∈ allW := alwS (y := yX9_readerOfMost) (n := 2) (List.mem_append_right _ (List.mem_append_right _ (List.mem_append_right _ (List.mem_append_right _ (List.mem_append_left _ (List.mem_of_getElem? (i := 11) (by decide +kernel))))))) rfl
theorem ks_X9_holderOfLeast : Cond.selects RX9 yX9_holderOfLeast yX9_holderOfLeast ∈ allW := alwS (y := yX9_holderOfLeast) (n := 2) (List.mem_append_right _ (List.mem_append_right _ (List.mem_append_right _ (List.mem_append_right _ (List.mem_append_left _ (List.mem_of_getElem? (i := 12) (by decide +kernel))))))) rfl
theorem ks_X10_tax : Cond.selects RX10 yX10_tax yX10_tax ∈ allW := alwS (y := yX10_tax) (n := 17) (List.mem_append_right _ (List.mem_append_right _ (List.mem_append_right _ (List.mem_append_right _ (List.mem_append_left _ (List.mem_of_getElem? (i := 13) (by decide +kernel))))))) rfl
theorem ks_X9_rateOfMost : Cond.selects RX9 yX9_rateOfMost yX9_rateOfMost ∈ allW := alwS (y := yX9_rateOfMost) (n := 2) (List.mem_append_right _ (List.mem_append_right _ (List.mem_append_right _ (List.mem_append_right _ (List.mem_append_left _ (List.mem_of_getElem? (i := 14) (by decide +kernel))))))) rfl
theorem ks_X9_dearThoughts : Cond.selects RX9 yX9_dearThoughts yX9_dearThoughts ∈ allW := alwS (y := yX9_dearThoughts) (n := 2) (List.mem_append_right _ (List.mem_append_right _ (List.mem_append_right _ (List.mem_append_right _ (List.mem_append_left _ (List.mem_of_getElem? (i := 15) (by decide +kernel))))))) rfl
theorem ks_X9_noteTaxes : Cond.selects RX9 yX9_noteTaxes yX9_noteTaxes ∈ allW := alwS (y := yX9_noteTaxes) (n := 2) (List.mem_append_right _ (List.mem_append_right _ (List.mem_append_right _ (List.mem_append_right _ (List.mem_append_right _ (List.mem_append_left _ (List.mem_of_getElem? (i := 0) (by decide +kernel)))))))) rfl
theorem ks_X10_taxOf : Cond.selects RX10 yX10_taxOf yX10_taxOf ∈ allW := alwS (y := yX10_taxOf) (n := 17) (List.mem_append_right _ (List.mem_append_right _ (List.mem_append_right _ (List.mem_append_right _ (List.mem_append_right _ (List.mem_append_left _ (List.mem_of_getElem? (i := 1) (by decide +kernel)))))))) rfl
theorem ks_X0_shareOf : Cond.selects RX0 yX0_shareOf yX0_shareOf ∈ allW := alwS (y := yX0_shareOf) (n := 18) (List.mem_append_right _ (List.mem_append_right _ (List.mem_append_right _ (List.mem_append_right _ (List.mem_append_right _ (List.mem_append_left _ (List.mem_of_getElem? (i := 2) (by decide +kernel)))))))) rfl
theorem ks_X10_chainOf : Cond.selects RX10 yX10_chainOf yX10_chainOf ∈ allW := alwS (y := yX10_chainOf) (n := 17) (List.mem_append_right _ (List.mem_append_right _ (List.mem_append_right _ (List.mem_append_right _ (List.mem_append_right _ (List.mem_append_left _ (List.mem_of_getElem? (i := 3) (by decide +kernel)))))))) rfl
theorem ks_X10_heldWorth : Cond.selects RX10 yX10_heldWorth yX10_heldWorth ∈ allW := alwS (y := yX10_heldWorth) (n := 17) (List.mem_append_right _ (List.mem_append_right _ (List.mem_append_right _ (List.mem_append_right _ (List.mem_append_right _ (List.mem_append_left _ (List.mem_of_getElem? (i := 4) (by decide +kernel)))))))) rfl
theorem ks_X3_play : Cond.selects RX3 yX3_play yX3_play ∈ allW := alwS (y := yX3_play) (n := 4) (List.mem_append_right _ (List.mem_append_right _ (List.mem_append_right _ (List.mem_append_right _ (List.mem_append_right _ (List.mem_append_left _ (List.mem_of_getElem? (i := 5) (by decide +kernel)))))))) rfl
theorem ks_X3_isRest : Cond.selects RX3 yX3_isRest yX3_isRest ∈ allW := alwS (y := yX3_isRest) (n := 4) (List.mem_append_right _ (List.mem_append_right _ (List.mem_append_right _ (List.mem_append_right _ (List.mem_append_right _ (List.mem_append_left _ (List.mem_of_getElem? (i := 6) (by decide +kernel)))))))) rfl
theorem ks_X3_streetHas : Cond.selects RX3 yX3_streetHas yX3_streetHas ∈ allW := alwS (y := yX3_streetHas) (n := 4) (List.mem_append_right _ (List.mem_append_right _ (List.mem_append_right _ (List.mem_append_right _ (List.mem_append_right _ (List.mem_append_left _ (List.mem_of_getElem? (i := 7) (by decide +kernel)))))))) rfl
theorem ks_X3_tax : Cond.selects RX3 yX3_tax yX3_tax ∈ allW := alwS (y := yX3_tax) (n := 4) (List.mem_append_right _ (List.mem_append_right _ (List.mem_append_right _ (List.mem_append_right _ (List.mem_append_right _ (List.mem_append_left _ (List.mem_of_getElem? (i := 8) (by decide +kernel)))))))) rfl
theorem ks_X3_readerHas : Cond.selects RX3 yX3_readerHas yX3_readerHas ∈ allW := alwS (y := yX3_readerHas) (n := 4) (List.mem_append_right _ (List.mem_append_right _ (List.mem_append_right _ (List.mem_append_right _ (List.mem_append_right _ (List.mem_append_left _ (List.mem_of_getElem? (i := 9) (by decide +kernel)))))))) rfl
theorem ks_X3_restAt : Cond.selects RX3 yX3_restAt yX3_restAt ∈ allW := alwS (y := yX3_restAt) (n := 4) (List.mem_append_right _ (List.mem_append_right _ (List.mem_append_right _ (List.mem_append_right _ (List.mem_append_right _ (List.mem_append_left _ (List.mem_of_getElem? (i := 10) (by decide +kernel)))))))) rfl
theorem ks_X10_richestDoor : Cond.selects RX10 yX10_richestDoor yX10_richestDoor ∈ allW := alwS (y := yX10_richestDoor) (n := 17) (List.mem_append_right _ (List.mem_append_right _ (List.mem_append_right _ (List.mem_append_right _ (List.mem_append_right _ (List.mem_append_left _ (List.mem_of_getElem? (i := 11) (by decide +kernel)))))))) rfl
theorem ks_X10_heldWorthAt : Cond.selects RX10 yX10_heldWorthAt yX10_heldWorthAt ∈ allW := alwS (y := yX10_heldWorthAt) (n := 17) (List.mem_append_right _ (List.mem_append_right _ (List.mem_append_right _ (List.mem_append_right _ (List.mem_append_right _ (List.mem_append_left _ (List.mem_of_getElem? (i := 12) (by decide +kernel)))))))) rfl
theorem ks_X9_dullEnough : Cond.selects RX9 yX9_dullEnough yX9_dullEnough ∈ allW := alwS (y := yX9_dullEnough) (n := 2) (List.mem_append_right _ (List.mem_append_right _ (List.mem_append_right _ (List.mem_append_right _ (List.mem_append_right _ (List.mem_append_left _ (List.mem_of_getElem? (i := 13) (by decide +kernel)))))))) rfl
theorem ks_X10_readsAny : Cond.selects RX10 yX10_readsAny yX10_readsAny ∈ allW := alwS (y := yX10_readsAny) (n := 17) (List.mem_append_right _ (List.mem_append_right _ (List.mem_append_right _ (List.mem_append_right _ (List.mem_append_right _ (List.mem_append_left _ (List.mem_of_getElem? (i := 14) (by decide +kernel)))))))) rfl
theorem ks_X9_votes : Cond.selects RX9 yX9_votes yX9_votes ∈ allW := alwS (y := yX9_votes) (n := 2) (List.mem_append_right _ (List.mem_append_right _ (List.mem_append_right _ (List.mem_append_right _ (List.mem_append_right _ (List.mem_append_left _ (List.mem_of_getElem? (i := 15) (by decide +kernel)))))))) rfl
theorem ks_X10_holdersOf : Cond.selects RX10 yX10_holdersOf yX10_holdersOf ∈ allW := alwS (y := yX10_holdersOf) (n := 17) (List.mem_append_right _ (List.mem_append_right _ (List.mem_append_right _ (List.mem_append_right _ (List.mem_append_right _ (List.mem_append_right _ (List.mem_append_left _ (List.mem_of_getElem? (i := 0) (by decide +kernel))))))))) rfl
theorem ks_X10_greatest : Cond.selects RX10 yX10_greatest yX10_greatest ∈ allW := alwS (y := yX10_greatest) (n := 17) (List.mem_append_right _ (List.mem_append_right _ (List.mem_append_right _ (List.mem_append_right _ (List.mem_append_right _ (List.mem_append_right _ (List.mem_append_left _ (List.mem_of_getElem? (i := 1) (by decide +kernel))))))))) rfl
theorem ks_X9_weeksToReading : Cond.selects RX9 yX9_weeksToReading yX9_weeksToReading ∈ allW := alwS (y := yX9_weeksToReading) (n := 2) (List.mem_append_right _ (List.mem_append_right _ (List.mem_append_right _ (List.mem_append_right _ (List.mem_append_right _ (List.mem_append_right _ (List.mem_append_left _ (List.mem_of_getElem? (i := 2) (by decide +kernel))))))))) rfl
theorem ks_X9_richestIn : Cond.selects RX9 yX9_richestIn yX9_richestIn ∈ allW := alwS (y := yX9_richestIn) (n := 2) (List.mem_append_right _ (List.mem_append_right _ (List.mem_append_right _ (List.mem_append_right _ (List.mem_append_right _ (List.mem_append_right _ (List.mem_append_left _ (List.mem_of_getElem? (i := 3) (by decide +kernel))))))))) rfl
theorem ks_X10_heldBits : Cond.selects RX10 yX10_heldBits yX10_heldBits ∈ allW := alwS (y := yX10_heldBits) (n := 17) (List.mem_append_right _ (List.mem_append_right _ (List.mem_append_right _ (List.mem_append_right _ (List.mem_append_right _ (List.mem_append_right _ (List.mem_append_left _ (List.mem_of_getElem? (i := 4) (by decide +kernel))))))))) rfl
theorem ks_X10_hiddenBits : Cond.selects RX10 yX10_hiddenBits yX10_hiddenBits ∈ allW := alwS (y := yX10_hiddenBits) (n := 17) (List.mem_append_right _ (List.mem_append_right _ (List.mem_append_right _ (List.mem_append_right _ (List.mem_append_right _ (List.mem_append_right _ (List.mem_append_left _ (List.mem_of_getElem? (i := 5) (by decide +kernel))))))))) rfl
theorem ks_X2_hasRoom : Cond.selects RX2 yX2_hasRoom yX2_hasRoom ∈ allW := alwS (y := yX2_hasRoom) (n := 7) (List.mem_append_right _ (List.mem_append_right _ (List.mem_append_right _ (List.mem_append_right _ (List.mem_append_right _ (List.mem_append_right _ (List.mem_append_left _ (List.mem_of_getElem? (i := 6) (by decide +kernel))))))))) rfl
theorem ks_X2_noteReading : Cond.selects RX2 yX2_noteReading yX2_noteReading ∈ allW := alwS (y := yX2_noteReading) (n := 7) (List.mem_append_right _ (List.mem_append_right _ (List.mem_append_right _ (List.mem_append_right _ (List.mem_append_right _ (List.mem_append_right _ (List.mem_append_left _ (List.mem_of_getElem? (i := 7) (by decide +kernel))))))))) rfl
theorem ks_X2_noteStrike : Cond.selects RX2 yX2_noteStrike yX2_noteStrike ∈ allW := alwS (y := yX2_noteStrike) (n := 7) (List.mem_append_right _ (List.mem_append_right _ (List.mem_append_right _ (List.mem_append_right _ (List.mem_append_right _ (List.mem_append_right _ (List.mem_append_left _ (List.mem_of_getElem? (i := 8) (by decide +kernel))))))))) rfl
theorem ks_X9_skillsBy : Cond.selects RX9 yX9_skillsBy yX9_skillsBy ∈ allW := alwS (y := yX9_skillsBy) (n := 2) (List.mem_append_right _ (List.mem_append_right _ (List.mem_append_right _ (List.mem_append_right _ (List.mem_append_right _ (List.mem_append_right _ (List.mem_append_left _ (List.mem_of_getElem? (i := 9) (by decide +kernel))))))))) rfl
theorem ks_X2_settle : Cond.selects RX2 yX2_settle yX2_settle ∈ allW := alwS (y := yX2_settle) (n := 7) (List.mem_append_right _ (List.mem_append_right _ (List.mem_append_right _ (List.mem_append_right _ (List.mem_append_right _ (List.mem_append_right _ (List.mem_append_left _ (List.mem_of_getElem? (i := 10) (by decide +kernel))))))))) rfl
theorem ks_X2_knownBy : Cond.selects RX2 yX2_knownBy yX2_knownBy ∈ allW := alwS (y := yX2_knownBy) (n := 7) (List.mem_append_right _ (List.mem_append_right _ (List.mem_append_right _ (List.mem_append_right _ (List.mem_append_right _ (List.mem_append_right _ (List.mem_append_left _ (List.mem_of_getElem? (i := 11) (by decide +kernel))))))))) rfl
theorem ks_X2_lastKnownWeek : Cond.selects RX2 yX2_lastKnownWeek yX2_lastKnownWeek ∈ allW := alwS (y := yX2_lastKnownWeek) (n := 7) (List.mem_append_right _ (List.mem_append_right _ (List.mem_append_right _ (List.mem_append_right _ (List.mem_append_right _ (List.mem_append_right _ (List.mem_append_left _ (List.mem_of_getElem? (i := 12) (by decide +kernel))))))))) rfl
theorem ks_X2_isKnown : Cond.selects RX2 yX2_isKnown yX2_isKnown ∈ allW := alwS (y := yX2_isKnown) (n := 7) (List.mem_append_right _ (List.mem_append_right _ (List.mem_append_right _ (List.mem_append_right _ (List.mem_append_right _ (List.mem_append_right _ (List.mem_append_left _ (List.mem_of_getElem? (i := 13) (by decide +kernel))))))))) rfl
theorem ks_X2_agrees : Cond.selects RX2 yX2_agrees yX2_agrees ∈ allW := alwS (y := yX2_agrees) (n := 7) (List.mem_append_right _ (List.mem_append_right _ (List.mem_append_right _ (List.mem_append_right _ (List.mem_append_right _ (List.mem_append_right _ (List.mem_append_left _ (List.mem_of_getElem? (i := 14) (by decide +kernel))))))))) rfl
theorem ks_X9_timesPaid : Cond.selects RX9 yX9_timesPaid yX9_timesPaid ∈ allW := alwS (y := yX9_timesPaid) (n := 2) (List.mem_append_right _ (List.mem_append_right _ (List.mem_append_right _ (List.mem_append_right _ (List.mem_append_right _ (List.mem_append_right _ (List.mem_append_left _ (List.mem_of_getElem? (i := 15) (by decide +kernel))))))))) rfl
theorem ks_X9_paidIf : Cond.selects RX9 yX9_paidIf yX9_paidIf ∈ allW := alwS (y := yX9_paidIf) (n := 2) (List.mem_append_right _ (List.mem_append_right _ (List.mem_append_right _ (List.mem_append_right _ (List.mem_append_right _ (List.mem_append_right _ (List.mem_append_right _ (List.mem_append_left _ (List.mem_of_getElem? (i := 0) (by decide +kernel)))))))))) rfl
theorem ks_X9_thinkNothing : Cond.selects RX9 yX9_thinkNothing yX9_thinkNothing ∈ allW := alwS (y := yX9_thinkNothing) (n := 2) (List.mem_append_right _ (List.mem_append_right _ (List.mem_append_right _ (List.mem_append_right _ (List.mem_append_right _ (List.mem_append_right _ (List.mem_append_right _ (List.mem_append_left _ (List.mem_of_getElem? (i := 1) (by decide +kernel)))))))))) rfl
theorem ks_X1_undoLatest : Cond.selects RX1 yX1_undoLatest yX1_undoLatest ∈ allW := alwS (y := yX1_undoLatest) (n := 4) (List.mem_append_right _ (List.mem_append_right _ (List.mem_append_right _ (List.mem_append_right _ (List.mem_append_right _ (List.mem_append_right _ (List.mem_append_right _ (List.mem_append_left _ (List.mem_of_getElem? (i := 2) (by decide +kernel)))))))))) rfl
theorem ks_X12_plain : Cond.selects RX12 yX12_plain yX12_plain ∈ allW := alwS (y := yX12_plain) (n := 81) (List.mem_append_right _ (List.mem_append_right _ (List.mem_append_right _ (List.mem_append_right _ (List.mem_append_right _ (List.mem_append_right _ (List.mem_append_right _ (List.mem_append_left _ (List.mem_of_getElem? (i := 4) (by decide +kernel)))))))))) rfl
theorem ks_X12_keepText : Cond.selects RX12 yX12_keepText yX12_keepText ∈ allW := alwS (y := yX12_keepText) (n := 81) (List.mem_append_right _ (List.mem_append_right _ (List.mem_append_right _ (List.mem_append_right _ (List.mem_append_right _ (List.mem_append_right _ (List.mem_append_right _ (List.mem_append_left _ (List.mem_of_getElem? (i := 5) (by decide +kernel)))))))))) rfl
theorem ks_X12_begin : Cond.selects RX12 yX12_begin yX12_begin ∈ allW := alwS (y := yX12_begin) (n := 81) (List.mem_append_right _ (List.mem_append_right _ (List.mem_append_right _ (List.mem_append_right _ (List.mem_append_right _ (List.mem_append_right _ (List.mem_append_right _ (List.mem_append_left _ (List.mem_of_getElem? (i := 6) (by decide +kernel)))))))))) rfl
theorem ks_X12_atFirst : Cond.selects RX12 yX12_atFirst yX12_atFirst ∈ allW := alwS (y := yX12_atFirst) (n := 81) (List.mem_append_right _ (List.mem_append_right _ (List.mem_append_right _ (List.mem_append_right _ (List.mem_append_right _ (List.mem_append_right _ (List.mem_append_right _ (List.mem_append_left _ (List.mem_of_getElem? (i := 7) (by decide +kernel)))))))))) rfl
theorem ks_X12_plainTried : Cond.selects RX12 yX12_plainTried yX12_plainTried ∈ allW := alwS (y := yX12_plainTried) (n := 81) (List.mem_append_right _ (List.mem_append_right _ (List.mem_append_right _ (List.mem_append_right _ (List.mem_append_right _ (List.mem_append_right _ (List.mem_append_right _ (List.mem_append_left _ (List.mem_of_getElem? (i := 8) (by decide +kernel)))))))))) rfl
theorem ks_X12_token : Cond.selects RX12 yX12_token yX12_token ∈ allW := alwS (y := yX12_token) (n := 81) (List.mem_append_right _ (List.mem_append_right _ (List.mem_append_right _ (List.mem_append_right _ (List.mem_append_right _ (List.mem_append_right _ (List.mem_append_right _ (List.mem_append_left _ (List.mem_of_getElem? (i := 9) (by decide +kernel)))))))))) rfl
theorem ks_X12_isSmall : Cond.selects RX12 yX12_isSmall yX12_isSmall ∈ allW := alwS (y := yX12_isSmall) (n := 81) (List.mem_append_right _ (List.mem_append_right _ (List.mem_append_right _ (List.mem_append_right _ (List.mem_append_right _ (List.mem_append_right _ (List.mem_append_right _ (List.mem_append_left _ (List.mem_of_getElem? (i := 10) (by decide +kernel)))))))))) rfl
theorem ks_X12_wordAt : Cond.selects RX12 yX12_wordAt yX12_wordAt ∈ allW := alwS (y := yX12_wordAt) (n := 81) (List.mem_append_right _ (List.mem_append_right _ (List.mem_append_right _ (List.mem_append_right _ (List.mem_append_right _ (List.mem_append_right _ (List.mem_append_right _ (List.mem_append_left _ (List.mem_of_getElem? (i := 11) (by decide +kernel)))))))))) rfl
theorem ks_X12_packed : Cond.selects RX12 yX12_packed yX12_packed ∈ allW := alwS (y := yX12_packed) (n := 81) (List.mem_append_right _ (List.mem_append_right _ (List.mem_append_right _ (List.mem_append_right _ (List.mem_append_right _ (List.mem_append_right _ (List.mem_append_right _ (List.mem_append_left _ (List.mem_of_getElem? (i := 12) (by decide +kernel)))))))))) rfl
theorem ks_X12_isDigit : Cond.selects RX12 yX12_isDigit yX12_isDigit ∈ allW := alwS (y := yX12_isDigit) (n := 81) (List.mem_append_right _ (List.mem_append_right _ (List.mem_append_right _ (List.mem_append_right _ (List.mem_append_right _ (List.mem_append_right _ (List.mem_append_right _ (List.mem_append_left _ (List.mem_of_getElem? (i := 13) (by decide +kernel)))))))))) rfl
theorem ks_X12_signToken : Cond.selects RX12 yX12_signToken yX12_signToken ∈ allW := alwS (y := yX12_signToken) (n := 81) (List.mem_append_right _ (List.mem_append_right _ (List.mem_append_right _ (List.mem_append_right _ (List.mem_append_right _ (List.mem_append_right _ (List.mem_append_right _ (List.mem_append_left _ (List.mem_of_getElem? (i := 14) (by decide +kernel)))))))))) rfl
theorem ks_X12_lineRead : Cond.selects RX12 yX12_lineRead yX12_lineRead ∈ allW := alwS (y := yX12_lineRead) (n := 81) (List.mem_append_right _ (List.mem_append_right _ (List.mem_append_right _ (List.mem_append_right _ (List.mem_append_right _ (List.mem_append_right _ (List.mem_append_right _ (List.mem_append_left _ (List.mem_of_getElem? (i := 15) (by decide +kernel)))))))))) rfl
theorem ks_X12_wrong : Cond.selects RX12 yX12_wrong yX12_wrong ∈ allW := alwS (y := yX12_wrong) (n := 81) (List.mem_append_right _ (List.mem_append_right _ (List.mem_append_right _ (List.mem_append_right _ (List.mem_append_right _ (List.mem_append_right _ (List.mem_append_right _ (List.mem_append_right _ (List.mem_append_left _ (List.mem_of_getElem? (i := 0) (by decide +kernel))))))))))) rfl
theorem ks_X12_manLine : Cond.selects RX12 yX12_manLine yX12_manLine ∈ allW := alwS (y := yX12_manLine) (n := 81) (List.mem_append_right _ (List.mem_append_right _ (List.mem_append_right _ (List.mem_append_right _ (List.mem_append_right _ (List.mem_append_right _ (List.mem_append_right _ (List.mem_append_right _ (List.mem_append_left _ (List.mem_of_getElem? (i := 1) (by decide +kernel))))))))))) rfl
theorem ks_X12_newName : Cond.selects RX12 yX12_newName yX12_newName ∈ allW := alwS (y := yX12_newName) (n := 81) (List.mem_append_right _ (List.mem_append_right _ (List.mem_append_right _ (List.mem_append_right _ (List.mem_append_right _ (List.mem_append_right _ (List.mem_append_right _ (List.mem_append_right _ (List.mem_append_left _ (List.mem_of_getElem? (i := 2) (by decide +kernel))))))))))) rfl
theorem ks_X12_number : Cond.selects RX12 yX12_number yX12_number ∈ allW := alwS (y := yX12_number) (n := 81) (List.mem_append_right _ (List.mem_append_right _ (List.mem_append_right _ (List.mem_append_right _ (List.mem_append_right _ (List.mem_append_right _ (List.mem_append_right _ (List.mem_append_right _ (List.mem_append_left _ (List.mem_of_getElem? (i := 3) (by decide +kernel))))))))))) rfl
theorem ks_X12_thoughtLine : Cond.selects RX12 yX12_thoughtLine yX12_thoughtLine ∈ allW := alwS (y := yX12_thoughtLine) (n := 81) (List.mem_append_right _ (List.mem_append_right _ (List.mem_append_right _ (List.mem_append_right _ (List.mem_append_right _ (List.mem_append_right _ (List.mem_append_right _ (List.mem_append_right _ (List.mem_append_left _ (List.mem_of_getElem? (i := 4) (by decide +kernel))))))))))) rfl
theorem ks_X12_readerLine : Cond.selects RX12 yX12_readerLine yX12_readerLine ∈ allW := alwS (y := yX12_readerLine) (n := 81) (List.mem_append_right _ (List.mem_append_right _ (List.mem_append_right _ (List.mem_append_right _ (List.mem_append_right _ (List.mem_append_right _ (List.mem_append_right _ (List.mem_append_right _ (List.mem_append_left _ (List.mem_of_getElem? (i := 5) (by decide +kernel))))))))))) rfl
theorem ks_X12_onceLine : Cond.selects RX12 yX12_onceLine yX12_onceLine ∈ allW := alwS (y := yX12_onceLine) (n := 81) (List.mem_append_right _ (List.mem_append_right _ (List.mem_append_right _ (List.mem_append_right _ (List.mem_append_right _ (List.mem_append_right _ (List.mem_append_right _ (List.mem_append_right _ (List.mem_append_left _ (List.mem_of_getElem? (i := 6) (by decide +kernel))))))))))) rfl
theorem ks_X12_sumRead : Cond.selects RX12 yX12_sumRead yX12_sumRead ∈ allW := alwS (y := yX12_sumRead) (n := 81) (List.mem_append_right _ (List.mem_append_right _ (List.mem_append_right _ (List.mem_append_right _ (List.mem_append_right _ (List.mem_append_right _ (List.mem_append_right _ (List.mem_append_right _ (List.mem_append_left _ (List.mem_of_getElem? (i := 7) (by decide +kernel))))))))))) rfl
theorem ks_X12_isSign : Cond.selects RX12 yX12_isSign yX12_isSign ∈ allW := alwS (y := yX12_isSign) (n := 81) (List.mem_append_right _ (List.mem_append_right _ (List.mem_append_right _ (List.mem_append_right _ (List.mem_append_right _ (List.mem_append_right _ (List.mem_append_right _ (List.mem_append_right _ (List.mem_append_left _ (List.mem_of_getElem? (i := 8) (by decide +kernel))))))))))) rfl
theorem ks_X12_leafRead : Cond.selects RX12 yX12_leafRead yX12_leafRead ∈ allW := alwS (y := yX12_leafRead) (n := 81) (List.mem_append_right _ (List.mem_append_right _ (List.mem_append_right _ (List.mem_append_right _ (List.mem_append_right _ (List.mem_append_right _ (List.mem_append_right _ (List.mem_append_right _ (List.mem_append_left _ (List.mem_of_getElem? (i := 9) (by decide +kernel))))))))))) rfl
theorem ks_X12_waitsFor : Cond.selects RX12 yX12_waitsFor yX12_waitsFor ∈ allW := alwS (y := yX12_waitsFor) (n := 81) (List.mem_append_right _ (List.mem_append_right _ (List.mem_append_right _ (List.mem_append_right _ (List.mem_append_right _ (List.mem_append_right _ (List.mem_append_right _ (List.mem_append_right _ (List.mem_append_left _ (List.mem_of_getElem? (i := 10) (by decide +kernel))))))))))) rfl
theorem ks_X12_isKey : Cond.selects RX12 yX12_isKey yX12_isKey ∈ allW := alwS (y := yX12_isKey) (n := 81) (List.mem_append_right _ (List.mem_append_right _ (List.mem_append_right _ (List.mem_append_right _ (List.mem_append_right _ (List.mem_append_right _ (List.mem_append_right _ (List.mem_append_right _ (List.mem_append_left _ (List.mem_of_getElem? (i := 11) (by decide +kernel))))))))))) rfl
theorem ks_X12_isCounted : Cond.selects RX12 yX12_isCounted yX12_isCounted ∈ allW := alwS (y := yX12_isCounted) (n := 81) (List.mem_append_right _ (List.mem_append_right _ (List.mem_append_right _ (List.mem_append_right _ (List.mem_append_right _ (List.mem_append_right _ (List.mem_append_right _ (List.mem_append_right _ (List.mem_append_left _ (List.mem_of_getElem? (i := 12) (by decide +kernel))))))))))) rfl
theorem ks_X12_nameMet : Cond.selects RX12 yX12_nameMet yX12_nameMet ∈ allW := alwS (y := yX12_nameMet) (n := 81) (List.mem_append_right _ (List.mem_append_right _ (List.mem_append_right _ (List.mem_append_right _ (List.mem_append_right _ (List.mem_append_right _ (List.mem_append_right _ (List.mem_append_right _ (List.mem_append_left _ (List.mem_of_getElem? (i := 13) (by decide +kernel))))))))))) rfl
theorem ks_X12_grown : Cond.selects RX12 yX12_grown yX12_grown ∈ allW := alwS (y := yX12_grown) (n := 81) (List.mem_append_right _ (List.mem_append_right _ (List.mem_append_right _ (List.mem_append_right _ (List.mem_append_right _ (List.mem_append_right _ (List.mem_append_right _ (List.mem_append_right _ (List.mem_append_left _ (List.mem_of_getElem? (i := 14) (by decide +kernel))))))))))) rfl
theorem ks_X12_signs : Cond.selects RX12 yX12_signs yX12_signs ∈ allW := alwS (y := yX12_signs) (n := 81) (List.mem_append_right _ (List.mem_append_right _ (List.mem_append_right _ (List.mem_append_right _ (List.mem_append_right _ (List.mem_append_right _ (List.mem_append_right _ (List.mem_append_right _ (List.mem_append_left _ (List.mem_of_getElem? (i := 15) (by decide +kernel))))))))))) rfl
theorem ks_X12_bind : Cond.selects RX12 yX12_bind yX12_bind ∈ allW := alwS (y := yX12_bind) (n := 81) (List.mem_append_right _ (List.mem_append_right _ (List.mem_append_right _ (List.mem_append_right _ (List.mem_append_right _ (List.mem_append_right _ (List.mem_append_right _ (List.mem_append_right _ (List.mem_append_right _ (List.mem_append_left _ (List.mem_of_getElem? (i := 0) (by decide +kernel)))))))))))) rfl
theorem ks_X12_dropHeld : Cond.selects RX12 yX12_dropHeld yX12_dropHeld ∈ allW := alwS (y := yX12_dropHeld) (n := 81) (List.mem_append_right _ (List.mem_append_right _ (List.mem_append_right _ (List.mem_append_right _ (List.mem_append_right _ (List.mem_append_right _ (List.mem_append_right _ (List.mem_append_right _ (List.mem_append_right _ (List.mem_append_left _ (List.mem_of_getElem? (i := 1) (by decide +kernel)))))))))))) rfl
theorem ks_X12_isThought : Cond.selects RX12 yX12_isThought yX12_isThought ∈ allW := alwS (y := yX12_isThought) (n := 81) (List.mem_append_right _ (List.mem_append_right _ (List.mem_append_right _ (List.mem_append_right _ (List.mem_append_right _ (List.mem_append_right _ (List.mem_append_right _ (List.mem_append_right _ (List.mem_append_right _ (List.mem_append_left _ (List.mem_of_getElem? (i := 2) (by decide +kernel)))))))))))) rfl
theorem ks_X12_fails : Cond.selects RX12 yX12_fails yX12_fails ∈ allW := alwS (y := yX12_fails) (n := 81) (List.mem_append_right _ (List.mem_append_right _ (List.mem_append_right _ (List.mem_append_right _ (List.mem_append_right _ (List.mem_append_right _ (List.mem_append_right _ (List.mem_append_right _ (List.mem_append_right _ (List.mem_append_left _ (List.mem_of_getElem? (i := 3) (by decide +kernel)))))))))))) rfl
theorem ks_X12_isMan : Cond.selects RX12 yX12_isMan yX12_isMan ∈ allW := alwS (y := yX12_isMan) (n := 81) (List.mem_append_right _ (List.mem_append_right _ (List.mem_append_right _ (List.mem_append_right _ (List.mem_append_right _ (List.mem_append_right _ (List.mem_append_right _ (List.mem_append_right _ (List.mem_append_right _ (List.mem_append_left _ (List.mem_of_getElem? (i := 4) (by decide +kernel)))))))))))) rfl
theorem ks_X12_isReader : Cond.selects RX12 yX12_isReader yX12_isReader ∈ allW := alwS (y := yX12_isReader) (n := 81) (List.mem_append_right _ (List.mem_append_right _ (List.mem_append_right _ (List.mem_append_right _ (List.mem_append_right _ (List.mem_append_right _ (List.mem_append_right _ (List.mem_append_right _ (List.mem_append_right _ (List.mem_append_left _ (List.mem_of_getElem? (i := 5) (by decide +kernel)))))))))))) rfl
theorem ks_X12_bestHeld : Cond.selects RX12 yX12_bestHeld yX12_bestHeld ∈ allW := alwS (y := yX12_bestHeld) (n := 81) (List.mem_append_right _ (List.mem_append_right _ (List.mem_append_right _ (List.mem_append_right _ (List.mem_append_right _ (List.mem_append_right _ (List.mem_append_right _ (List.mem_append_right _ (List.mem_append_right _ (List.mem_append_left _ (List.mem_of_getElem? (i := 6) (by decide +kernel)))))))))))) rfl
theorem ks_X12_skillIn : Cond.selects RX12 yX12_skillIn yX12_skillIn ∈ allW := alwS (y := yX12_skillIn) (n := 81) (List.mem_append_right _ (List.mem_append_right _ (List.mem_append_right _ (List.mem_append_right _ (List.mem_append_right _ (List.mem_append_right _ (List.mem_append_right _ (List.mem_append_right _ (List.mem_append_right _ (List.mem_append_left _ (List.mem_of_getElem? (i := 7) (by decide +kernel)))))))))))) rfl
theorem ks_X12_layNames : Cond.selects RX12 yX12_layNames yX12_layNames ∈ allW := alwS (y := yX12_layNames) (n := 81) (List.mem_append_right _ (List.mem_append_right _ (List.mem_append_right _ (List.mem_append_right _ (List.mem_append_right _ (List.mem_append_right _ (List.mem_append_right _ (List.mem_append_right _ (List.mem_append_right _ (List.mem_append_left _ (List.mem_of_getElem? (i := 8) (by decide +kernel)))))))))))) rfl
theorem ks_X12_wilesOf : Cond.selects RX12 yX12_wilesOf yX12_wilesOf ∈ allW := alwS (y := yX12_wilesOf) (n := 81) (List.mem_append_right _ (List.mem_append_right _ (List.mem_append_right _ (List.mem_append_right _ (List.mem_append_right _ (List.mem_append_right _ (List.mem_append_right _ (List.mem_append_right _ (List.mem_append_right _ (List.mem_append_left _ (List.mem_of_getElem? (i := 9) (by decide +kernel)))))))))))) rfl
theorem ks_X12_there : Cond.selects RX12 yX12_there yX12_there ∈ allW := alwS (y := yX12_there) (n := 81) (List.mem_append_right _ (List.mem_append_right _ (List.mem_append_right _ (List.mem_append_right _ (List.mem_append_right _ (List.mem_append_right _ (List.mem_append_right _ (List.mem_append_right _ (List.mem_append_right _ (List.mem_append_left _ (List.mem_of_getElem? (i := 10) (by decide +kernel)))))))))))) rfl
theorem ks_X12_lawOf : Cond.selects RX12 yX12_lawOf yX12_lawOf ∈ allW := alwS (y := yX12_lawOf) (n := 81) (List.mem_append_right _ (List.mem_append_right _ (List.mem_append_right _ (List.mem_append_right _ (List.mem_append_right _ (List.mem_append_right _ (List.mem_append_right _ (List.mem_append_right _ (List.mem_append_right _ (List.mem_append_left _ (List.mem_of_getElem? (i := 11) (by decide +kernel)))))))))))) rfl
theorem ks_X12_valueOf : Cond.selects RX12 yX12_valueOf yX12_valueOf ∈ allW := alwS (y := yX12_valueOf) (n := 81) (List.mem_append_right _ (List.mem_append_right _ (List.mem_append_right _ (List.mem_append_right _ (List.mem_append_right _ (List.mem_append_right _ (List.mem_append_right _ (List.mem_append_right _ (List.mem_append_right _ (List.mem_append_left _ (List.mem_of_getElem? (i := 12) (by decide +kernel)))))))))))) rfl
theorem ks_X12_bounded : Cond.selects RX12 yX12_bounded yX12_bounded ∈ allW := alwS (y := yX12_bounded) (n := 81) (List.mem_append_right _ (List.mem_append_right _ (List.mem_append_right _ (List.mem_append_right _ (List.mem_append_right _ (List.mem_append_right _ (List.mem_append_right _ (List.mem_append_right _ (List.mem_append_right _ (List.mem_append_left _ (List.mem_of_getElem? (i := 13) (by decide +kernel)))))))))))) rfl
theorem ks_X12_times : Cond.selects RX12 yX12_times yX12_times ∈ allW := alwS (y := yX12_times) (n := 81) (List.mem_append_right _ (List.mem_append_right _ (List.mem_append_right _ (List.mem_append_right _ (List.mem_append_right _ (List.mem_append_right _ (List.mem_append_right _ (List.mem_append_right _ (List.mem_append_right _ (List.mem_append_left _ (List.mem_of_getElem? (i := 14) (by decide +kernel)))))))))))) rfl
theorem ks_X12_remember : Cond.selects RX12 yX12_remember yX12_remember ∈ allW := alwS (y := yX12_remember) (n := 81) (List.mem_append_right _ (List.mem_append_right _ (List.mem_append_right _ (List.mem_append_right _ (List.mem_append_right _ (List.mem_append_right _ (List.mem_append_right _ (List.mem_append_right _ (List.mem_append_right _ (List.mem_append_left _ (List.mem_of_getElem? (i := 15) (by decide +kernel)))))))))))) rfl
theorem ks_X12_put : Cond.selects RX12 yX12_put yX12_put ∈ allW := alwS (y := yX12_put) (n := 81) (List.mem_append_right _ (List.mem_append_right _ (List.mem_append_right _ (List.mem_append_right _ (List.mem_append_right _ (List.mem_append_right _ (List.mem_append_right _ (List.mem_append_right _ (List.mem_append_right _ (List.mem_append_right _ (List.mem_append_left _ (List.mem_of_getElem? (i := 0) (by decide +kernel))))))))))))) rfl
theorem ks_X12_weekGoes : Cond.selects RX12 yX12_weekGoes yX12_weekGoes ∈ allW := alwS (y := yX12_weekGoes) (n := 81) (List.mem_append_right _ (List.mem_append_right _ (List.mem_append_right _ (List.mem_append_right _ (List.mem_append_right _ (List.mem_append_right _ (List.mem_append_right _ (List.mem_append_right _ (List.mem_append_right _ (List.mem_append_right _ (List.mem_append_left _ (List.mem_of_getElem? (i := 1) (by decide +kernel))))))))))))) rfl
theorem ks_X12_visits : Cond.selects RX12 yX12_visits yX12_visits ∈ allW := alwS (y := yX12_visits) (n := 81) (List.mem_append_right _ (List.mem_append_right _ (List.mem_append_right _ (List.mem_append_right _ (List.mem_append_right _ (List.mem_append_right _ (List.mem_append_right _ (List.mem_append_right _ (List.mem_append_right _ (List.mem_append_right _ (List.mem_append_left _ (List.mem_of_getElem? (i := 2) (by decide +kernel))))))))))))) rfl
theorem ks_X12_isReadAt : Cond.selects RX12 yX12_isReadAt yX12_isReadAt ∈ allW := alwS (y := yX12_isReadAt) (n := 81) (List.mem_append_right _ (List.mem_append_right _ (List.mem_append_right _ (List.mem_append_right _ (List.mem_append_right _ (List.mem_append_right _ (List.mem_append_right _ (List.mem_append_right _ (List.mem_append_right _ (List.mem_append_right _ (List.mem_append_left _ (List.mem_of_getElem? (i := 3) (by decide +kernel))))))))))))) rfl
theorem ks_X12_knows : Cond.selects RX12 yX12_knows yX12_knows ∈ allW := alwS (y := yX12_knows) (n := 81) (List.mem_append_right _ (List.mem_append_right _ (List.mem_append_right _ (List.mem_append_right _ (List.mem_append_right _ (List.mem_append_right _ (List.mem_append_right _ (List.mem_append_right _ (List.mem_append_right _ (List.mem_append_right _ (List.mem_append_left _ (List.mem_of_getElem? (i := 4) (by decide +kernel))))))))))))) rfl
theorem ks_X12_readOf : Cond.selects RX12 yX12_readOf yX12_readOf ∈ allW := alwS (y := yX12_readOf) (n := 81) (List.mem_append_right _ (List.mem_append_right _ (List.mem_append_right _ (List.mem_append_right _ (List.mem_append_right _ (List.mem_append_right _ (List.mem_append_right _ (List.mem_append_right _ (List.mem_append_right _ (List.mem_append_right _ (List.mem_append_left _ (List.mem_of_getElem? (i := 5) (by decide +kernel))))))))))))) rfl
theorem ks_X12_boundLaw : Cond.selects RX12 yX12_boundLaw yX12_boundLaw ∈ allW := alwS (y := yX12_boundLaw) (n := 81) (List.mem_append_right _ (List.mem_append_right _ (List.mem_append_right _ (List.mem_append_right _ (List.mem_append_right _ (List.mem_append_right _ (List.mem_append_right _ (List.mem_append_right _ (List.mem_append_right _ (List.mem_append_right _ (List.mem_append_left _ (List.mem_of_getElem? (i := 6) (by decide +kernel))))))))))))) rfl
theorem ks_X12_number1 : Cond.selects RX12 yX12_number1 yX12_number1 ∈ allW := alwS (y := yX12_number1) (n := 81) (List.mem_append_right _ (List.mem_append_right _ (List.mem_append_right _ (List.mem_append_right _ (List.mem_append_right _ (List.mem_append_right _ (List.mem_append_right _ (List.mem_append_right _ (List.mem_append_right _ (List.mem_append_right _ (List.mem_append_left _ (List.mem_of_getElem? (i := 7) (by decide +kernel))))))))))))) rfl
theorem ks_X12_fades : Cond.selects RX12 yX12_fades yX12_fades ∈ allW := alwS (y := yX12_fades) (n := 81) (List.mem_append_right _ (List.mem_append_right _ (List.mem_append_right _ (List.mem_append_right _ (List.mem_append_right _ (List.mem_append_right _ (List.mem_append_right _ (List.mem_append_right _ (List.mem_append_right _ (List.mem_append_right _ (List.mem_append_left _ (List.mem_of_getElem? (i := 8) (by decide +kernel))))))))))))) rfl
theorem ks_X12_layTried : Cond.selects RX12 yX12_layTried yX12_layTried ∈ allW := alwS (y := yX12_layTried) (n := 81) (List.mem_append_right _ (List.mem_append_right _ (List.mem_append_right _ (List.mem_append_right _ (List.mem_append_right _ (List.mem_append_right _ (List.mem_append_right _ (List.mem_append_right _ (List.mem_append_right _ (List.mem_append_right _ (List.mem_append_left _ (List.mem_of_getElem? (i := 9) (by decide +kernel))))))))))))) rfl
theorem ks_X12_goMany : Cond.selects RX12 yX12_goMany yX12_goMany ∈ allW := alwS (y := yX12_goMany) (n := 81) (List.mem_append_right _ (List.mem_append_right _ (List.mem_append_right _ (List.mem_append_right _ (List.mem_append_right _ (List.mem_append_right _ (List.mem_append_right _ (List.mem_append_right _ (List.mem_append_right _ (List.mem_append_right _ (List.mem_append_left _ (List.mem_of_getElem? (i := 10) (by decide +kernel))))))))))))) rfl
theorem ks_X12_paidAll : Cond.selects RX12 yX12_paidAll yX12_paidAll ∈ allW := alwS (y := yX12_paidAll) (n := 81) (List.mem_append_right _ (List.mem_append_right _ (List.mem_append_right _ (List.mem_append_right _ (List.mem_append_right _ (List.mem_append_right _ (List.mem_append_right _ (List.mem_append_right _ (List.mem_append_right _ (List.mem_append_right _ (List.mem_append_left _ (List.mem_of_getElem? (i := 11) (by decide +kernel))))))))))))) rfl
theorem ks_X12_owedAll : Cond.selects RX12 yX12_owedAll yX12_owedAll ∈ allW := alwS (y := yX12_owedAll) (n := 81) (List.mem_append_right _ (List.mem_append_right _ (List.mem_append_right _ (List.mem_append_right _ (List.mem_append_right _ (List.mem_append_right _ (List.mem_append_right _ (List.mem_append_right _ (List.mem_append_right _ (List.mem_append_right _ (List.mem_append_left _ (List.mem_of_getElem? (i := 12) (by decide +kernel))))))))))))) rfl
theorem ks_X12_are : Cond.selects RX12 yX12_are yX12_are ∈ allW := alwS (y := yX12_are) (n := 81) (List.mem_append_right _ (List.mem_append_right _ (List.mem_append_right _ (List.mem_append_right _ (List.mem_append_right _ (List.mem_append_right _ (List.mem_append_right _ (List.mem_append_right _ (List.mem_append_right _ (List.mem_append_right _ (List.mem_append_left _ (List.mem_of_getElem? (i := 13) (by decide +kernel))))))))))))) rfl
theorem ks_X12_more : Cond.selects RX12 yX12_more yX12_more ∈ allW := alwS (y := yX12_more) (n := 81) (List.mem_append_right _ (List.mem_append_right _ (List.mem_append_right _ (List.mem_append_right _ (List.mem_append_right _ (List.mem_append_right _ (List.mem_append_right _ (List.mem_append_right _ (List.mem_append_right _ (List.mem_append_right _ (List.mem_append_left _ (List.mem_of_getElem? (i := 14) (by decide +kernel))))))))))))) rfl
theorem ks_X12_moreOf : Cond.selects RX12 yX12_moreOf yX12_moreOf ∈ allW := alwS (y := yX12_moreOf) (n := 81) (List.mem_append_right _ (List.mem_append_right _ (List.mem_append_right _ (List.mem_append_right _ (List.mem_append_right _ (List.mem_append_right _ (List.mem_append_right _ (List.mem_append_right _ (List.mem_append_right _ (List.mem_append_right _ (List.mem_append_left _ (List.mem_of_getElem? (i := 15) (by decide +kernel))))))))))))) rfl
theorem ks_X12_restAt : Cond.selects RX12 yX12_restAt yX12_restAt ∈ allW := alwS (y := yX12_restAt) (n := 81) (List.mem_append_right _ (List.mem_append_right _ (List.mem_append_right _ (List.mem_append_right _ (List.mem_append_right _ (List.mem_append_right _ (List.mem_append_right _ (List.mem_append_right _ (List.mem_append_right _ (List.mem_append_right _ (List.mem_append_right _ (List.mem_of_getElem? (i := 0) (by decide +kernel))))))))))))) rfl
theorem ks_X12_streetHas : Cond.selects RX12 yX12_streetHas yX12_streetHas ∈ allW := alwS (y := yX12_streetHas) (n := 81) (List.mem_append_right _ (List.mem_append_right _ (List.mem_append_right _ (List.mem_append_right _ (List.mem_append_right _ (List.mem_append_right _ (List.mem_append_right _ (List.mem_append_right _ (List.mem_append_right _ (List.mem_append_right _ (List.mem_append_right _ (List.mem_of_getElem? (i := 1) (by decide +kernel))))))))))))) rfl
theorem ks_X12_taxBy : Cond.selects RX12 yX12_taxBy yX12_taxBy ∈ allW := alwS (y := yX12_taxBy) (n := 81) (List.mem_append_right _ (List.mem_append_right _ (List.mem_append_right _ (List.mem_append_right _ (List.mem_append_right _ (List.mem_append_right _ (List.mem_append_right _ (List.mem_append_right _ (List.mem_append_right _ (List.mem_append_right _ (List.mem_append_right _ (List.mem_of_getElem? (i := 2) (by decide +kernel))))))))))))) rfl
theorem ks_X12_readerHas : Cond.selects RX12 yX12_readerHas yX12_readerHas ∈ allW := alwS (y := yX12_readerHas) (n := 81) (List.mem_append_right _ (List.mem_append_right _ (List.mem_append_right _ (List.mem_append_right _ (List.mem_append_right _ (List.mem_append_right _ (List.mem_append_right _ (List.mem_append_right _ (List.mem_append_right _ (List.mem_append_right _ (List.mem_append_right _ (List.mem_of_getElem? (i := 3) (by decide +kernel))))))))))))) rfl
theorem ks_X12_noted : Cond.selects RX12 yX12_noted yX12_noted ∈ allW := alwS (y := yX12_noted) (n := 81) (List.mem_append_right _ (List.mem_append_right _ (List.mem_append_right _ (List.mem_append_right _ (List.mem_append_right _ (List.mem_append_right _ (List.mem_append_right _ (List.mem_append_right _ (List.mem_append_right _ (List.mem_append_right _ (List.mem_append_right _ (List.mem_of_getElem? (i := 4) (by decide +kernel))))))))))))) rfl
theorem ks_X12_knownBy : Cond.selects RX12 yX12_knownBy yX12_knownBy ∈ allW := alwS (y := yX12_knownBy) (n := 81) (List.mem_append_right _ (List.mem_append_right _ (List.mem_append_right _ (List.mem_append_right _ (List.mem_append_right _ (List.mem_append_right _ (List.mem_append_right _ (List.mem_append_right _ (List.mem_append_right _ (List.mem_append_right _ (List.mem_append_right _ (List.mem_of_getElem? (i := 5) (by decide +kernel))))))))))))) rfl
theorem ks_X12_fits : Cond.selects RX12 yX12_fits yX12_fits ∈ allW := alwS (y := yX12_fits) (n := 81) (List.mem_append_right _ (List.mem_append_right _ (List.mem_append_right _ (List.mem_append_right _ (List.mem_append_right _ (List.mem_append_right _ (List.mem_append_right _ (List.mem_append_right _ (List.mem_append_right _ (List.mem_append_right _ (List.mem_append_right _ (List.mem_of_getElem? (i := 6) (by decide +kernel))))))))))))) rfl
theorem ks_X12_isSo : Cond.selects RX12 yX12_isSo yX12_isSo ∈ allW := alwS (y := yX12_isSo) (n := 81) (List.mem_append_right _ (List.mem_append_right _ (List.mem_append_right _ (List.mem_append_right _ (List.mem_append_right _ (List.mem_append_right _ (List.mem_append_right _ (List.mem_append_right _ (List.mem_append_right _ (List.mem_append_right _ (List.mem_append_right _ (List.mem_of_getElem? (i := 7) (by decide +kernel))))))))))))) rfl
theorem ks_X12_take : Cond.selects RX12 yX12_take yX12_take ∈ allW := alwS (y := yX12_take) (n := 81) (List.mem_append_right _ (List.mem_append_right _ (List.mem_append_right _ (List.mem_append_right _ (List.mem_append_right _ (List.mem_append_right _ (List.mem_append_right _ (List.mem_append_right _ (List.mem_append_right _ (List.mem_append_right _ (List.mem_append_right _ (List.mem_of_getElem? (i := 8) (by decide +kernel))))))))))))) rfl
theorem inX0 : ∀ w ∈ wsX00, w ∈ allW := by
  intro w h
  obtain ⟨k, hk, rfl⟩ := List.mem_map.mp h
  have hk : k < 18 := List.mem_range.mp hk
  match k, hk with
  | 0, _ => exact kw_146
  | 1, _ => exact kw_148
  | 2, _ => exact kw_150
  | 3, _ => exact kw_152
  | 4, _ => exact kw_154
  | 5, _ => exact kw_156
  | 6, _ => exact kw_158
  | 7, _ => exact kw_160
  | 8, _ => exact kw_162
  | 9, _ => exact kw_164
  | 10, _ => exact kw_166
  | 11, _ => exact kw_168
  | 12, _ => exact kw_170
  | 13, _ => exact kw_172
  | 14, _ => exact kw_174
  | 15, _ => exact kw_176
  | 16, _ => exact kw_178
  | 17, _ => exact kw_180
  | k + 18, h => exact absurd h (by omega)
theorem inX1 : ∀ w ∈ wsX10, w ∈ allW := by
  intro w h
  obtain ⟨k, hk, rfl⟩ := List.mem_map.mp h
  have hk : k < 4 := List.mem_range.mp hk
  match k, hk with
  | 0, _ => exact kw_398
  | 1, _ => exact kw_400
  | 2, _ => exact kw_402
  | 3, _ => exact kw_404
  | k + 4, h => exact absurd h (by omega)
theorem inX2 : ∀ w ∈ wsX20, w ∈ allW := by
  intro w h
  obtain ⟨k, hk, rfl⟩ := List.mem_map.mp h
  have hk : k < 7 := List.mem_range.mp hk
  match k, hk with
  | 0, _ => exact kw_422
  | 1, _ => exact kw_424
  | 2, _ => exact kw_426
  | 3, _ => exact kw_428
  | 4, _ => exact kw_430
  | 5, _ => exact kw_432
  | 6, _ => exact kw_434
  | k + 7, h => exact absurd h (by omega)
theorem inX3 : ∀ w ∈ wsX30, w ∈ allW := by
  intro w h
  obtain ⟨k, hk, rfl⟩ := List.mem_map.mp h
  have hk : k < 4 := List.mem_range.mp hk
  match k, hk with
  | 0, _ => exact kw_450
  | 1, _ => exact kw_452
  | 2, _ => exact kw_454
  | 3, _ => exact kw_456
  | k + 4, h => exact absurd h (by omega)
theorem inX4 : ∀ w ∈ wsX40, w ∈ allW := by
  intro w h
  obtain ⟨k, hk, rfl⟩ := List.mem_map.mp h
  have hk : k < 9 := List.mem_range.mp hk
  match k, hk with
  | 0, _ => exact kw_234
  | 1, _ => exact kw_236
  | 2, _ => exact kw_238
  | 3, _ => exact kw_240
  | 4, _ => exact kw_242
  | 5, _ => exact kw_244
  | 6, _ => exact kw_246
  | 7, _ => exact kw_248
  | 8, _ => exact kw_250
  | k + 9, h => exact absurd h (by omega)
theorem inX5 : ∀ w ∈ wsX50, w ∈ allW := by
  intro w h
  obtain ⟨k, hk, rfl⟩ := List.mem_map.mp h
  have hk : k < 6 := List.mem_range.mp hk
  match k, hk with
  | 0, _ => exact kw_66
  | 1, _ => exact kw_68
  | 2, _ => exact kw_70
  | 3, _ => exact kw_72
  | 4, _ => exact kw_74
  | 5, _ => exact kw_76
  | k + 6, h => exact absurd h (by omega)
theorem inX6 : ∀ w ∈ wsX60, w ∈ allW := by
  intro w h
  obtain ⟨k, hk, rfl⟩ := List.mem_map.mp h
  have hk : k < 2 := List.mem_range.mp hk
  match k, hk with
  | 0, _ => exact kw_40
  | 1, _ => exact kw_42
  | k + 2, h => exact absurd h (by omega)
theorem inX7 : ∀ w ∈ wsX70, w ∈ allW := by
  intro w h
  obtain ⟨k, hk, rfl⟩ := List.mem_map.mp h
  have hk : k < 7 := List.mem_range.mp hk
  match k, hk with
  | 0, _ => exact kw_263
  | 1, _ => exact kw_265
  | 2, _ => exact kw_267
  | 3, _ => exact kw_269
  | 4, _ => exact kw_271
  | 5, _ => exact kw_273
  | 6, _ => exact kw_275
  | k + 7, h => exact absurd h (by omega)
theorem inX8 : ∀ w ∈ wsX80, w ∈ allW := by
  intro w h
  obtain ⟨k, hk, rfl⟩ := List.mem_map.mp h
  have hk : k < 6 := List.mem_range.mp hk
  match k, hk with
  | 0, _ => exact kw_206
  | 1, _ => exact kw_208
  | 2, _ => exact kw_210
  | 3, _ => exact kw_212
  | 4, _ => exact kw_214
  | 5, _ => exact kw_216
  | k + 6, h => exact absurd h (by omega)
theorem inX9 : ∀ w ∈ wsX90, w ∈ allW := by
  intro w h
  obtain ⟨k, hk, rfl⟩ := List.mem_map.mp h
  have hk : k < 2 := List.mem_range.mp hk
  match k, hk with
  | 0, _ => exact kw_382
  | 1, _ => exact kw_384
  | k + 2, h => exact absurd h (by omega)
theorem inX10 : ∀ w ∈ wsX100, w ∈ allW := by
  intro w h
  obtain ⟨k, hk, rfl⟩ := List.mem_map.mp h
  have hk : k < 17 := List.mem_range.mp hk
  match k, hk with
  | 0, _ => exact kw_337
  | 1, _ => exact kw_339
  | 2, _ => exact kw_341
  | 3, _ => exact kw_343
  | 4, _ => exact kw_345
  | 5, _ => exact kw_347
  | 6, _ => exact kw_349
  | 7, _ => exact kw_351
  | 8, _ => exact kw_353
  | 9, _ => exact kw_355
  | 10, _ => exact kw_357
  | 11, _ => exact kw_359
  | 12, _ => exact kw_361
  | 13, _ => exact kw_363
  | 14, _ => exact kw_365
  | 15, _ => exact kw_367
  | 16, _ => exact kw_369
  | k + 17, h => exact absurd h (by omega)
theorem inX11 : ∀ w ∈ wsX110, w ∈ allW := by
  intro w h
  obtain ⟨k, hk, rfl⟩ := List.mem_map.mp h
  have hk : k < 11 := List.mem_range.mp hk
  match k, hk with
  | 0, _ => exact kw_480
  | 1, _ => exact kw_482
  | 2, _ => exact kw_484
  | 3, _ => exact kw_486
  | 4, _ => exact kw_488
  | 5, _ => exact kw_490
  | 6, _ => exact kw_492
  | 7, _ => exact kw_494
  | 8, _ => exact kw_496
  | 9, _ => exact kw_498
  | 10, _ => exact kw_500
  | k + 11, h => exact absurd h (by omega)
theorem inX12 : ∀ w ∈ wsX120, w ∈ allW := by
  intro w h
  obtain ⟨k, hk, rfl⟩ := List.mem_map.mp h
  have hk : k < 81 := List.mem_range.mp hk
  match k, hk with
  | 0, _ => exact kw_1428
  | 1, _ => exact kw_1430
  | 2, _ => exact kw_1432
  | 3, _ => exact kw_1434
  | 4, _ => exact kw_1436
  | 5, _ => exact kw_1438
  | 6, _ => exact kw_1440
  | 7, _ => exact kw_1442
  | 8, _ => exact kw_1444
  | 9, _ => exact kw_1446
  | 10, _ => exact kw_1448
  | 11, _ => exact kw_1450
  | 12, _ => exact kw_1452
  | 13, _ => exact kw_1454
  | 14, _ => exact kw_1456
  | 15, _ => exact kw_1458
  | 16, _ => exact kw_1460
  | 17, _ => exact kw_1462
  | 18, _ => exact kw_1464
  | 19, _ => exact kw_1466
  | 20, _ => exact kw_1468
  | 21, _ => exact kw_1470
  | 22, _ => exact kw_1472
  | 23, _ => exact kw_1474
  | 24, _ => exact kw_1476
  | 25, _ => exact kw_1478
  | 26, _ => exact kw_1480
  | 27, _ => exact kw_1482
  | 28, _ => exact kw_1484
  | 29, _ => exact kw_1486
  | 30, _ => exact kw_1488
  | 31, _ => exact kw_1490
  | 32, _ => exact kw_1492
  | 33, _ => exact kw_1494
  | 34, _ => exact kw_1496
  | 35, _ => exact kw_1498
  | 36, _ => exact kw_1500
  | 37, _ => exact kw_1502
  | 38, _ => exact kw_1504
  | 39, _ => exact kw_1506
  | 40, _ => exact kw_1508
  | 41, _ => exact kw_1510
  | 42, _ => exact kw_1512
  | 43, _ => exact kw_1514
  | 44, _ => exact kw_1516
  | 45, _ => exact kw_1518
  | 46, _ => exact kw_1520
  | 47, _ => exact kw_1522
  | 48, _ => exact kw_1524
  | 49, _ => exact kw_1526
  | 50, _ => exact kw_1528
  | 51, _ => exact kw_1530
  | 52, _ => exact kw_1532
  | 53, _ => exact kw_1534
  | 54, _ => exact kw_1536
  | 55, _ => exact kw_1538
  | 56, _ => exact kw_1540
  | 57, _ => exact kw_1542
  | 58, _ => exact kw_1544
  | 59, _ => exact kw_1546
  | 60, _ => exact kw_1548
  | 61, _ => exact kw_1550
  | 62, _ => exact kw_1552
  | 63, _ => exact kw_1554
  | 64, _ => exact kw_1556
  | 65, _ => exact kw_1558
  | 66, _ => exact kw_1560
  | 67, _ => exact kw_1562
  | 68, _ => exact kw_1564
  | 69, _ => exact kw_1566
  | 70, _ => exact kw_1568
  | 71, _ => exact kw_1570
  | 72, _ => exact kw_1572
  | 73, _ => exact kw_1574
  | 74, _ => exact kw_1576
  | 75, _ => exact kw_1578
  | 76, _ => exact kw_1580
  | 77, _ => exact kw_1582
  | 78, _ => exact kw_1584
  | 79, _ => exact kw_1586
  | 80, _ => exact kw_1588
  | k + 81, h => exact absurd h (by omega)
