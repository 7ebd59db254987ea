theorem dX8_isLetter_0 : decode cX8_isLetter 0 = .ok (.iload_n 0, 1) := by decide +kernel
theorem dX8_isLetter_1 : decode cX8_isLetter 1 = .ok (.bipush 97, 2) := by decide +kernel
theorem dX8_isLetter_3 : decode cX8_isLetter 3 = .ok (.if_icmp .lt 13, 3) := by decide +kernel
theorem dX8_isLetter_6 : decode cX8_isLetter 6 = .ok (.iload_n 0, 1) := by decide +kernel
theorem dX8_isLetter_7 : decode cX8_isLetter 7 = .ok (.bipush 122, 2) := by decide +kernel
theorem dX8_isLetter_9 : decode cX8_isLetter 9 = .ok (.if_icmp .gt 7, 3) := by decide +kernel
theorem dX8_isLetter_12 : decode cX8_isLetter 12 = .ok (.iconst 1, 1) := by decide +kernel
theorem dX8_isLetter_13 : decode cX8_isLetter 13 = .ok (.goto 4, 3) := by decide +kernel
theorem dX8_isLetter_16 : decode cX8_isLetter 16 = .ok (.iconst 0, 1) := by decide +kernel
theorem dX8_isLetter_17 : decode cX8_isLetter 17 = .ok (.ireturn, 1) := by decide +kernel
theorem dX8_isDigit_0 : decode cX8_isDigit 0 = .ok (.iload_n 0, 1) := by decide +kernel
theorem dX8_isDigit_1 : decode cX8_isDigit 1 = .ok (.bipush 48, 2) := by decide +kernel
theorem dX8_isDigit_3 : decode cX8_isDigit 3 = .ok (.if_icmp .lt 13, 3) := by decide +kernel
theorem dX8_isDigit_6 : decode cX8_isDigit 6 = .ok (.iload_n 0, 1) := by decide +kernel
theorem dX8_isDigit_7 : decode cX8_isDigit 7 = .ok (.bipush 57, 2) := by decide +kernel
theorem dX8_isDigit_9 : decode cX8_isDigit 9 = .ok (.if_icmp .gt 7, 3) := by decide +kernel
theorem dX8_isDigit_12 : decode cX8_isDigit 12 = .ok (.iconst 1, 1) := by decide +kernel
theorem dX8_isDigit_13 : decode cX8_isDigit 13 = .ok (.goto 4, 3) := by decide +kernel
theorem dX8_isDigit_16 : decode cX8_isDigit 16 = .ok (.iconst 0, 1) := by decide +kernel
theorem dX8_isDigit_17 : decode cX8_isDigit 17 = .ok (.ireturn, 1) := by decide +kernel
theorem dX8_takeNumber_0 : decode cX8_takeNumber 0 = .ok (.aload_n 0, 1) := by decide +kernel
theorem dX8_takeNumber_1 : decode cX8_takeNumber 1 = .ok (.iconst 2, 1) := by decide +kernel
theorem dX8_takeNumber_2 : decode cX8_takeNumber 2 = .ok (.putfield 25, 3) := by decide +kernel
theorem dX8_takeNumber_5 : decode cX8_takeNumber 5 = .ok (.aload_n 0, 1) := by decide +kernel
theorem dX8_takeNumber_6 : decode cX8_takeNumber 6 = .ok (.iconst 0, 1) := by decide +kernel
theorem dX8_takeNumber_7 : decode cX8_takeNumber 7 = .ok (.putfield 28, 3) := by decide +kernel
theorem dX8_takeNumber_10 : decode cX8_takeNumber 10 = .ok (.aload_n 0, 1) := by decide +kernel
theorem dX8_takeNumber_11 : decode cX8_takeNumber 11 = .ok (.getfield 19, 3) := by decide +kernel
theorem dX8_takeNumber_14 : decode cX8_takeNumber 14 = .ok (.aload_n 0, 1) := by decide +kernel
theorem dX8_takeNumber_15 : decode cX8_takeNumber 15 = .ok (.getfield 15, 3) := by decide +kernel
theorem dX8_takeNumber_18 : decode cX8_takeNumber 18 = .ok (.if_icmp .ge 62, 3) := by decide +kernel
theorem dX8_takeNumber_21 : decode cX8_takeNumber 21 = .ok (.aload_n 0, 1) := by decide +kernel
theorem dX8_takeNumber_22 : decode cX8_takeNumber 22 = .ok (.aload_n 0, 1) := by decide +kernel
theorem dX8_takeNumber_23 : decode cX8_takeNumber 23 = .ok (.getfield 19, 3) := by decide +kernel
theorem dX8_takeNumber_26 : decode cX8_takeNumber 26 = .ok (.invokevirtual 31, 3) := by decide +kernel
theorem dX8_takeNumber_29 : decode cX8_takeNumber 29 = .ok (.invokestatic 45, 3) := by decide +kernel
theorem dX8_takeNumber_32 : decode cX8_takeNumber 32 = .ok (.ifCond .eq 48, 3) := by decide +kernel
theorem dX8_takeNumber_35 : decode cX8_takeNumber 35 = .ok (.aload_n 0, 1) := by decide +kernel
theorem dX8_takeNumber_36 : decode cX8_takeNumber 36 = .ok (.getfield 28, 3) := by decide +kernel
theorem dX8_takeNumber_39 : decode cX8_takeNumber 39 = .ok (.ldc 61, 2) := by decide +kernel
theorem dX8_takeNumber_41 : decode cX8_takeNumber 41 = .ok (.if_icmp .ge 26, 3) := by decide +kernel
theorem dX8_takeNumber_44 : decode cX8_takeNumber 44 = .ok (.aload_n 0, 1) := by decide +kernel
theorem dX8_takeNumber_45 : decode cX8_takeNumber 45 = .ok (.aload_n 0, 1) := by decide +kernel
theorem dX8_takeNumber_46 : decode cX8_takeNumber 46 = .ok (.getfield 28, 3) := by decide +kernel
theorem dX8_takeNumber_49 : decode cX8_takeNumber 49 = .ok (.bipush 10, 2) := by decide +kernel
theorem dX8_takeNumber_51 : decode cX8_takeNumber 51 = .ok (.imul, 1) := by decide +kernel
theorem dX8_takeNumber_52 : decode cX8_takeNumber 52 = .ok (.aload_n 0, 1) := by decide +kernel
theorem dX8_takeNumber_53 : decode cX8_takeNumber 53 = .ok (.aload_n 0, 1) := by decide +kernel
theorem dX8_takeNumber_54 : decode cX8_takeNumber 54 = .ok (.getfield 19, 3) := by decide +kernel
theorem dX8_takeNumber_57 : decode cX8_takeNumber 57 = .ok (.invokevirtual 31, 3) := by decide +kernel
theorem dX8_takeNumber_60 : decode cX8_takeNumber 60 = .ok (.iadd, 1) := by decide +kernel
theorem dX8_takeNumber_61 : decode cX8_takeNumber 61 = .ok (.bipush 48, 2) := by decide +kernel
theorem dX8_takeNumber_63 : decode cX8_takeNumber 63 = .ok (.isub, 1) := by decide +kernel
theorem dX8_takeNumber_64 : decode cX8_takeNumber 64 = .ok (.putfield 28, 3) := by decide +kernel
theorem dX8_takeNumber_67 : decode cX8_takeNumber 67 = .ok (.aload_n 0, 1) := by decide +kernel
theorem dX8_takeNumber_68 : decode cX8_takeNumber 68 = .ok (.dup, 1) := by decide +kernel
theorem dX8_takeNumber_69 : decode cX8_takeNumber 69 = .ok (.getfield 19, 3) := by decide +kernel
theorem dX8_takeNumber_72 : decode cX8_takeNumber 72 = .ok (.iconst 1, 1) := by decide +kernel
theorem dX8_takeNumber_73 : decode cX8_takeNumber 73 = .ok (.iadd, 1) := by decide +kernel
theorem dX8_takeNumber_74 : decode cX8_takeNumber 74 = .ok (.putfield 19, 3) := by decide +kernel
theorem dX8_takeNumber_77 : decode cX8_takeNumber 77 = .ok (.goto (-67), 3) := by decide +kernel
theorem dX8_takeNumber_80 : decode cX8_takeNumber 80 = .ok (.return_, 1) := by decide +kernel
theorem dX8_takeWord_0 : decode cX8_takeWord 0 = .ok (.lconst 0, 1) := by decide +kernel
theorem dX8_takeWord_1 : decode cX8_takeWord 1 = .ok (.lstore_n 1, 1) := by decide +kernel
theorem dX8_takeWord_2 : decode cX8_takeWord 2 = .ok (.iconst 0, 1) := by decide +kernel
theorem dX8_takeWord_3 : decode cX8_takeWord 3 = .ok (.istore_n 3, 1) := by decide +kernel
theorem dX8_takeWord_4 : decode cX8_takeWord 4 = .ok (.aload_n 0, 1) := by decide +kernel
theorem dX8_takeWord_5 : decode cX8_takeWord 5 = .ok (.getfield 19, 3) := by decide +kernel
theorem dX8_takeWord_8 : decode cX8_takeWord 8 = .ok (.aload_n 0, 1) := by decide +kernel
theorem dX8_takeWord_9 : decode cX8_takeWord 9 = .ok (.getfield 15, 3) := by decide +kernel
theorem dX8_takeWord_12 : decode cX8_takeWord 12 = .ok (.if_icmp .ge 63, 3) := by decide +kernel
theorem dX8_takeWord_15 : decode cX8_takeWord 15 = .ok (.aload_n 0, 1) := by decide +kernel
theorem dX8_takeWord_16 : decode cX8_takeWord 16 = .ok (.aload_n 0, 1) := by decide +kernel
theorem dX8_takeWord_17 : decode cX8_takeWord 17 = .ok (.getfield 19, 3) := by decide +kernel
theorem dX8_takeWord_20 : decode cX8_takeWord 20 = .ok (.invokevirtual 31, 3) := by decide +kernel
theorem dX8_takeWord_23 : decode cX8_takeWord 23 = .ok (.invokestatic 38, 3) := by decide +kernel
theorem dX8_takeWord_26 : decode cX8_takeWord 26 = .ok (.ifCond .eq 49, 3) := by decide +kernel
theorem dX8_takeWord_29 : decode cX8_takeWord 29 = .ok (.lload_n 1, 1) := by decide +kernel
theorem dX8_takeWord_30 : decode cX8_takeWord 30 = .ok (.bipush 8, 2) := by decide +kernel
theorem dX8_takeWord_32 : decode cX8_takeWord 32 = .ok (.lshl, 1) := by decide +kernel
theorem dX8_takeWord_33 : decode cX8_takeWord 33 = .ok (.aload_n 0, 1) := by decide +kernel
theorem dX8_takeWord_34 : decode cX8_takeWord 34 = .ok (.aload_n 0, 1) := by decide +kernel
theorem dX8_takeWord_35 : decode cX8_takeWord 35 = .ok (.getfield 19, 3) := by decide +kernel
theorem dX8_takeWord_38 : decode cX8_takeWord 38 = .ok (.invokevirtual 31, 3) := by decide +kernel
theorem dX8_takeWord_41 : decode cX8_takeWord 41 = .ok (.i2l, 1) := by decide +kernel
theorem dX8_takeWord_42 : decode cX8_takeWord 42 = .ok (.lor, 1) := by decide +kernel
theorem dX8_takeWord_43 : decode cX8_takeWord 43 = .ok (.lstore_n 1, 1) := by decide +kernel
theorem dX8_takeWord_44 : decode cX8_takeWord 44 = .ok (.iload_n 3, 1) := by decide +kernel
theorem dX8_takeWord_45 : decode cX8_takeWord 45 = .ok (.iconst 5, 1) := by decide +kernel
theorem dX8_takeWord_46 : decode cX8_takeWord 46 = .ok (.ishl, 1) := by decide +kernel
theorem dX8_takeWord_47 : decode cX8_takeWord 47 = .ok (.aload_n 0, 1) := by decide +kernel
theorem dX8_takeWord_48 : decode cX8_takeWord 48 = .ok (.aload_n 0, 1) := by decide +kernel
theorem dX8_takeWord_49 : decode cX8_takeWord 49 = .ok (.getfield 19, 3) := by decide +kernel
theorem dX8_takeWord_52 : decode cX8_takeWord 52 = .ok (.invokevirtual 31, 3) := by decide +kernel
theorem dX8_takeWord_55 : decode cX8_takeWord 55 = .ok (.bipush 97, 2) := by decide +kernel
theorem dX8_takeWord_57 : decode cX8_takeWord 57 = .ok (.isub, 1) := by decide +kernel
theorem dX8_takeWord_58 : decode cX8_takeWord 58 = .ok (.iconst 1, 1) := by decide +kernel
theorem dX8_takeWord_59 : decode cX8_takeWord 59 = .ok (.iadd, 1) := by decide +kernel
theorem dX8_takeWord_60 : decode cX8_takeWord 60 = .ok (.ior, 1) := by decide +kernel
theorem dX8_takeWord_61 : decode cX8_takeWord 61 = .ok (.istore_n 3, 1) := by decide +kernel
theorem dX8_takeWord_62 : decode cX8_takeWord 62 = .ok (.aload_n 0, 1) := by decide +kernel
theorem dX8_takeWord_63 : decode cX8_takeWord 63 = .ok (.dup, 1) := by decide +kernel
theorem dX8_takeWord_64 : decode cX8_takeWord 64 = .ok (.getfield 19, 3) := by decide +kernel
theorem dX8_takeWord_67 : decode cX8_takeWord 67 = .ok (.iconst 1, 1) := by decide +kernel
theorem dX8_takeWord_68 : decode cX8_takeWord 68 = .ok (.iadd, 1) := by decide +kernel
theorem dX8_takeWord_69 : decode cX8_takeWord 69 = .ok (.putfield 19, 3) := by decide +kernel
theorem dX8_takeWord_72 : decode cX8_takeWord 72 = .ok (.goto (-68), 3) := by decide +kernel
theorem dX8_takeWord_75 : decode cX8_takeWord 75 = .ok (.aload_n 0, 1) := by decide +kernel
theorem dX8_takeWord_76 : decode cX8_takeWord 76 = .ok (.getfield 19, 3) := by decide +kernel
theorem dX8_takeWord_79 : decode cX8_takeWord 79 = .ok (.aload_n 0, 1) := by decide +kernel
theorem dX8_takeWord_80 : decode cX8_takeWord 80 = .ok (.getfield 35, 3) := by decide +kernel
theorem dX8_takeWord_83 : decode cX8_takeWord 83 = .ok (.isub, 1) := by decide +kernel
theorem dX8_takeWord_84 : decode cX8_takeWord 84 = .ok (.istore 4, 2) := by decide +kernel
theorem dX8_takeWord_86 : decode cX8_takeWord 86 = .ok (.iload 4, 2) := by decide +kernel
theorem dX8_takeWord_88 : decode cX8_takeWord 88 = .ok (.bipush 7, 2) := by decide +kernel
theorem dX8_takeWord_90 : decode cX8_takeWord 90 = .ok (.if_icmp .gt 10, 3) := by decide +kernel
theorem dX8_takeWord_93 : decode cX8_takeWord 93 = .ok (.lload_n 1, 1) := by decide +kernel
theorem dX8_takeWord_94 : decode cX8_takeWord 94 = .ok (.invokestatic 62, 3) := by decide +kernel
theorem dX8_takeWord_97 : decode cX8_takeWord 97 = .ok (.goto 4, 3) := by decide +kernel
theorem dX8_takeWord_100 : decode cX8_takeWord 100 = .ok (.iconst (-1), 1) := by decide +kernel
theorem dX8_takeWord_101 : decode cX8_takeWord 101 = .ok (.istore 5, 2) := by decide +kernel
theorem dX8_takeWord_103 : decode cX8_takeWord 103 = .ok (.iload 5, 2) := by decide +kernel
theorem dX8_takeWord_105 : decode cX8_takeWord 105 = .ok (.iconst (-1), 1) := by decide +kernel
theorem dX8_takeWord_106 : decode cX8_takeWord 106 = .ok (.if_icmp .eq 17, 3) := by decide +kernel
theorem dX8_takeWord_109 : decode cX8_takeWord 109 = .ok (.aload_n 0, 1) := by decide +kernel
theorem dX8_takeWord_110 : decode cX8_takeWord 110 = .ok (.iconst 4, 1) := by decide +kernel
theorem dX8_takeWord_111 : decode cX8_takeWord 111 = .ok (.putfield 25, 3) := by decide +kernel
theorem dX8_takeWord_114 : decode cX8_takeWord 114 = .ok (.aload_n 0, 1) := by decide +kernel
theorem dX8_takeWord_115 : decode cX8_takeWord 115 = .ok (.iload 5, 2) := by decide +kernel
theorem dX8_takeWord_117 : decode cX8_takeWord 117 = .ok (.putfield 28, 3) := by decide +kernel
theorem dX8_takeWord_120 : decode cX8_takeWord 120 = .ok (.goto 36, 3) := by decide +kernel
theorem dX8_takeWord_123 : decode cX8_takeWord 123 = .ok (.iload 4, 2) := by decide +kernel
theorem dX8_takeWord_125 : decode cX8_takeWord 125 = .ok (.bipush 6, 2) := by decide +kernel
theorem dX8_takeWord_127 : decode cX8_takeWord 127 = .ok (.if_icmp .gt 24, 3) := by decide +kernel
theorem dX8_takeWord_130 : decode cX8_takeWord 130 = .ok (.aload_n 0, 1) := by decide +kernel
theorem dX8_takeWord_131 : decode cX8_takeWord 131 = .ok (.iconst 3, 1) := by decide +kernel
theorem dX8_takeWord_132 : decode cX8_takeWord 132 = .ok (.putfield 25, 3) := by decide +kernel
theorem dX8_takeWord_135 : decode cX8_takeWord 135 = .ok (.aload_n 0, 1) := by decide +kernel
theorem dX8_takeWord_136 : decode cX8_takeWord 136 = .ok (.iload_n 3, 1) := by decide +kernel
theorem dX8_takeWord_137 : decode cX8_takeWord 137 = .ok (.iconst 5, 1) := by decide +kernel
theorem dX8_takeWord_138 : decode cX8_takeWord 138 = .ok (.bipush 6, 2) := by decide +kernel
theorem dX8_takeWord_140 : decode cX8_takeWord 140 = .ok (.iload 4, 2) := by decide +kernel
theorem dX8_takeWord_142 : decode cX8_takeWord 142 = .ok (.isub, 1) := by decide +kernel
theorem dX8_takeWord_143 : decode cX8_takeWord 143 = .ok (.imul, 1) := by decide +kernel
theorem dX8_takeWord_144 : decode cX8_takeWord 144 = .ok (.ishl, 1) := by decide +kernel
theorem dX8_takeWord_145 : decode cX8_takeWord 145 = .ok (.putfield 28, 3) := by decide +kernel
theorem dX8_takeWord_148 : decode cX8_takeWord 148 = .ok (.goto 8, 3) := by decide +kernel
theorem dX8_takeWord_151 : decode cX8_takeWord 151 = .ok (.aload_n 0, 1) := by decide +kernel
theorem dX8_takeWord_152 : decode cX8_takeWord 152 = .ok (.iconst 1, 1) := by decide +kernel
theorem dX8_takeWord_153 : decode cX8_takeWord 153 = .ok (.putfield 25, 3) := by decide +kernel
theorem dX8_takeWord_156 : decode cX8_takeWord 156 = .ok (.return_, 1) := by decide +kernel
theorem dX8_wordOf_0 : decode cX8_wordOf 0 = .ok (.iconst 0, 1) := by decide +kernel
theorem dX8_wordOf_1 : decode cX8_wordOf 1 = .ok (.istore_n 2, 1) := by decide +kernel
theorem dX8_wordOf_2 : decode cX8_wordOf 2 = .ok (.iload_n 2, 1) := by decide +kernel
theorem dX8_wordOf_3 : decode cX8_wordOf 3 = .ok (.getstatic 66, 3) := by decide +kernel
theorem dX8_wordOf_6 : decode cX8_wordOf 6 = .ok (.arraylength, 1) := by decide +kernel
theorem dX8_wordOf_7 : decode cX8_wordOf 7 = .ok (.if_icmp .ge 21, 3) := by decide +kernel
theorem dX8_wordOf_10 : decode cX8_wordOf 10 = .ok (.getstatic 66, 3) := by decide +kernel
theorem dX8_wordOf_13 : decode cX8_wordOf 13 = .ok (.iload_n 2, 1) := by decide +kernel
theorem dX8_wordOf_14 : decode cX8_wordOf 14 = .ok (.laload, 1) := by decide +kernel
theorem dX8_wordOf_15 : decode cX8_wordOf 15 = .ok (.lload_n 0, 1) := by decide +kernel
theorem dX8_wordOf_16 : decode cX8_wordOf 16 = .ok (.lcmp, 1) := by decide +kernel
theorem dX8_wordOf_17 : decode cX8_wordOf 17 = .ok (.ifCond .ne 5, 3) := by decide +kernel
theorem dX8_wordOf_20 : decode cX8_wordOf 20 = .ok (.iload_n 2, 1) := by decide +kernel
theorem dX8_wordOf_21 : decode cX8_wordOf 21 = .ok (.ireturn, 1) := by decide +kernel
theorem dX8_wordOf_22 : decode cX8_wordOf 22 = .ok (.iinc 2 1, 3) := by decide +kernel
theorem dX8_wordOf_25 : decode cX8_wordOf 25 = .ok (.goto (-23), 3) := by decide +kernel
theorem dX8_wordOf_28 : decode cX8_wordOf 28 = .ok (.iconst (-1), 1) := by decide +kernel
theorem dX8_wordOf_29 : decode cX8_wordOf 29 = .ok (.ireturn, 1) := by decide +kernel
theorem dX8_takeSign_0 : decode cX8_takeSign 0 = .ok (.aload_n 0, 1) := by decide +kernel
theorem dX8_takeSign_1 : decode cX8_takeSign 1 = .ok (.aload_n 0, 1) := by decide +kernel
theorem dX8_takeSign_2 : decode cX8_takeSign 2 = .ok (.getfield 19, 3) := by decide +kernel
theorem dX8_takeSign_5 : decode cX8_takeSign 5 = .ok (.iconst 1, 1) := by decide +kernel
theorem dX8_takeSign_6 : decode cX8_takeSign 6 = .ok (.iadd, 1) := by decide +kernel
theorem dX8_takeSign_7 : decode cX8_takeSign 7 = .ok (.invokevirtual 31, 3) := by decide +kernel
theorem dX8_takeSign_10 : decode cX8_takeSign 10 = .ok (.istore_n 2, 1) := by decide +kernel
theorem dX8_takeSign_11 : decode cX8_takeSign 11 = .ok (.aload_n 0, 1) := by decide +kernel
theorem dX8_takeSign_12 : decode cX8_takeSign 12 = .ok (.iconst 5, 1) := by decide +kernel
theorem dX8_takeSign_13 : decode cX8_takeSign 13 = .ok (.putfield 25, 3) := by decide +kernel
theorem dX8_takeSign_16 : decode cX8_takeSign 16 = .ok (.aload_n 0, 1) := by decide +kernel
theorem dX8_takeSign_17 : decode cX8_takeSign 17 = .ok (.dup, 1) := by decide +kernel
theorem dX8_takeSign_18 : decode cX8_takeSign 18 = .ok (.getfield 19, 3) := by decide +kernel
theorem dX8_takeSign_21 : decode cX8_takeSign 21 = .ok (.iconst 1, 1) := by decide +kernel
theorem dX8_takeSign_22 : decode cX8_takeSign 22 = .ok (.iadd, 1) := by decide +kernel
theorem dX8_takeSign_23 : decode cX8_takeSign 23 = .ok (.putfield 19, 3) := by decide +kernel
theorem dX8_takeSign_26 : decode cX8_takeSign 26 = .ok (.iload_n 1, 1) := by decide +kernel
theorem dX8_takeSign_27 : decode cX8_takeSign 27 = .ok (.tableswitch 227 40 62 #[114, 123, 150, 132, 227, 141, 227, 159, 227, 227, 227, 227, 227, 227, 227, 227, 227, 227, 227, 105, 177, 168, 207], 105) := by decide +kernel
theorem dX8_takeSign_132 : decode cX8_takeSign 132 = .ok (.aload_n 0, 1) := by decide +kernel
theorem dX8_takeSign_133 : decode cX8_takeSign 133 = .ok (.bipush 17, 2) := by decide +kernel
theorem dX8_takeSign_135 : decode cX8_takeSign 135 = .ok (.putfield 28, 3) := by decide +kernel
theorem dX8_takeSign_138 : decode cX8_takeSign 138 = .ok (.goto 121, 3) := by decide +kernel
theorem dX8_takeSign_141 : decode cX8_takeSign 141 = .ok (.aload_n 0, 1) := by decide +kernel
theorem dX8_takeSign_142 : decode cX8_takeSign 142 = .ok (.bipush 15, 2) := by decide +kernel
theorem dX8_takeSign_144 : decode cX8_takeSign 144 = .ok (.putfield 28, 3) := by decide +kernel
theorem dX8_takeSign_147 : decode cX8_takeSign 147 = .ok (.goto 112, 3) := by decide +kernel
theorem dX8_takeSign_150 : decode cX8_takeSign 150 = .ok (.aload_n 0, 1) := by decide +kernel
theorem dX8_takeSign_151 : decode cX8_takeSign 151 = .ok (.bipush 16, 2) := by decide +kernel
theorem dX8_takeSign_153 : decode cX8_takeSign 153 = .ok (.putfield 28, 3) := by decide +kernel
theorem dX8_takeSign_156 : decode cX8_takeSign 156 = .ok (.goto 103, 3) := by decide +kernel
theorem dX8_takeSign_159 : decode cX8_takeSign 159 = .ok (.aload_n 0, 1) := by decide +kernel
theorem dX8_takeSign_160 : decode cX8_takeSign 160 = .ok (.bipush 11, 2) := by decide +kernel
theorem dX8_takeSign_162 : decode cX8_takeSign 162 = .ok (.putfield 28, 3) := by decide +kernel
theorem dX8_takeSign_165 : decode cX8_takeSign 165 = .ok (.goto 94, 3) := by decide +kernel
theorem dX8_takeSign_168 : decode cX8_takeSign 168 = .ok (.aload_n 0, 1) := by decide +kernel
theorem dX8_takeSign_169 : decode cX8_takeSign 169 = .ok (.bipush 12, 2) := by decide +kernel
theorem dX8_takeSign_171 : decode cX8_takeSign 171 = .ok (.putfield 28, 3) := by decide +kernel
theorem dX8_takeSign_174 : decode cX8_takeSign 174 = .ok (.goto 85, 3) := by decide +kernel
theorem dX8_takeSign_177 : decode cX8_takeSign 177 = .ok (.aload_n 0, 1) := by decide +kernel
theorem dX8_takeSign_178 : decode cX8_takeSign 178 = .ok (.bipush 13, 2) := by decide +kernel
theorem dX8_takeSign_180 : decode cX8_takeSign 180 = .ok (.putfield 28, 3) := by decide +kernel
theorem dX8_takeSign_183 : decode cX8_takeSign 183 = .ok (.goto 76, 3) := by decide +kernel
theorem dX8_takeSign_186 : decode cX8_takeSign 186 = .ok (.aload_n 0, 1) := by decide +kernel
theorem dX8_takeSign_187 : decode cX8_takeSign 187 = .ok (.bipush 14, 2) := by decide +kernel
theorem dX8_takeSign_189 : decode cX8_takeSign 189 = .ok (.putfield 28, 3) := by decide +kernel
theorem dX8_takeSign_192 : decode cX8_takeSign 192 = .ok (.goto 67, 3) := by decide +kernel
theorem dX8_takeSign_195 : decode cX8_takeSign 195 = .ok (.aload_n 0, 1) := by decide +kernel
theorem dX8_takeSign_196 : decode cX8_takeSign 196 = .ok (.bipush 7, 2) := by decide +kernel
theorem dX8_takeSign_198 : decode cX8_takeSign 198 = .ok (.putfield 28, 3) := by decide +kernel
theorem dX8_takeSign_201 : decode cX8_takeSign 201 = .ok (.goto 58, 3) := by decide +kernel
theorem dX8_takeSign_204 : decode cX8_takeSign 204 = .ok (.aload_n 0, 1) := by decide +kernel
theorem dX8_takeSign_205 : decode cX8_takeSign 205 = .ok (.iload_n 2, 1) := by decide +kernel
theorem dX8_takeSign_206 : decode cX8_takeSign 206 = .ok (.bipush 61, 2) := by decide +kernel
theorem dX8_takeSign_208 : decode cX8_takeSign 208 = .ok (.if_icmp .ne 8, 3) := by decide +kernel
theorem dX8_takeSign_211 : decode cX8_takeSign 211 = .ok (.bipush 6, 2) := by decide +kernel
theorem dX8_takeSign_213 : decode cX8_takeSign 213 = .ok (.goto 15, 3) := by decide +kernel
theorem dX8_takeSign_216 : decode cX8_takeSign 216 = .ok (.iload_n 2, 1) := by decide +kernel
theorem dX8_takeSign_217 : decode cX8_takeSign 217 = .ok (.bipush 62, 2) := by decide +kernel
theorem dX8_takeSign_219 : decode cX8_takeSign 219 = .ok (.if_icmp .ne 8, 3) := by decide +kernel
theorem dX8_takeSign_222 : decode cX8_takeSign 222 = .ok (.bipush 8, 2) := by decide +kernel
theorem dX8_takeSign_224 : decode cX8_takeSign 224 = .ok (.goto 4, 3) := by decide +kernel
theorem dX8_takeSign_227 : decode cX8_takeSign 227 = .ok (.iconst 5, 1) := by decide +kernel
theorem dX8_takeSign_228 : decode cX8_takeSign 228 = .ok (.putfield 28, 3) := by decide +kernel
theorem dX8_takeSign_231 : decode cX8_takeSign 231 = .ok (.goto 28, 3) := by decide +kernel
theorem dX8_takeSign_234 : decode cX8_takeSign 234 = .ok (.aload_n 0, 1) := by decide +kernel
theorem dX8_takeSign_235 : decode cX8_takeSign 235 = .ok (.iload_n 2, 1) := by decide +kernel
theorem dX8_takeSign_236 : decode cX8_takeSign 236 = .ok (.bipush 61, 2) := by decide +kernel
theorem dX8_takeSign_238 : decode cX8_takeSign 238 = .ok (.if_icmp .ne 8, 3) := by decide +kernel
theorem dX8_takeSign_241 : decode cX8_takeSign 241 = .ok (.bipush 9, 2) := by decide +kernel
theorem dX8_takeSign_243 : decode cX8_takeSign 243 = .ok (.goto 5, 3) := by decide +kernel
theorem dX8_takeSign_246 : decode cX8_takeSign 246 = .ok (.bipush 10, 2) := by decide +kernel
theorem dX8_takeSign_248 : decode cX8_takeSign 248 = .ok (.putfield 28, 3) := by decide +kernel
theorem dX8_takeSign_251 : decode cX8_takeSign 251 = .ok (.goto 8, 3) := by decide +kernel
theorem dX8_takeSign_254 : decode cX8_takeSign 254 = .ok (.aload_n 0, 1) := by decide +kernel
theorem dX8_takeSign_255 : decode cX8_takeSign 255 = .ok (.iconst 1, 1) := by decide +kernel
theorem dX8_takeSign_256 : decode cX8_takeSign 256 = .ok (.putfield 25, 3) := by decide +kernel
theorem dX8_takeSign_259 : decode cX8_takeSign 259 = .ok (.aload_n 0, 1) := by decide +kernel
theorem dX8_takeSign_260 : decode cX8_takeSign 260 = .ok (.getfield 25, 3) := by decide +kernel
theorem dX8_takeSign_263 : decode cX8_takeSign 263 = .ok (.iconst 5, 1) := by decide +kernel
theorem dX8_takeSign_264 : decode cX8_takeSign 264 = .ok (.if_icmp .ne 40, 3) := by decide +kernel
theorem dX8_takeSign_267 : decode cX8_takeSign 267 = .ok (.aload_n 0, 1) := by decide +kernel
theorem dX8_takeSign_268 : decode cX8_takeSign 268 = .ok (.getfield 28, 3) := by decide +kernel
theorem dX8_takeSign_271 : decode cX8_takeSign 271 = .ok (.bipush 6, 2) := by decide +kernel
theorem dX8_takeSign_273 : decode cX8_takeSign 273 = .ok (.if_icmp .eq 21, 3) := by decide +kernel
theorem dX8_takeSign_276 : decode cX8_takeSign 276 = .ok (.aload_n 0, 1) := by decide +kernel
theorem dX8_takeSign_277 : decode cX8_takeSign 277 = .ok (.getfield 28, 3) := by decide +kernel
theorem dX8_takeSign_280 : decode cX8_takeSign 280 = .ok (.bipush 8, 2) := by decide +kernel
theorem dX8_takeSign_282 : decode cX8_takeSign 282 = .ok (.if_icmp .eq 12, 3) := by decide +kernel
theorem dX8_takeSign_285 : decode cX8_takeSign 285 = .ok (.aload_n 0, 1) := by decide +kernel
theorem dX8_takeSign_286 : decode cX8_takeSign 286 = .ok (.getfield 28, 3) := by decide +kernel
theorem dX8_takeSign_289 : decode cX8_takeSign 289 = .ok (.bipush 9, 2) := by decide +kernel
theorem dX8_takeSign_291 : decode cX8_takeSign 291 = .ok (.if_icmp .ne 13, 3) := by decide +kernel
theorem dX8_takeSign_294 : decode cX8_takeSign 294 = .ok (.aload_n 0, 1) := by decide +kernel
theorem dX8_takeSign_295 : decode cX8_takeSign 295 = .ok (.dup, 1) := by decide +kernel
theorem dX8_takeSign_296 : decode cX8_takeSign 296 = .ok (.getfield 19, 3) := by decide +kernel
theorem dX8_takeSign_299 : decode cX8_takeSign 299 = .ok (.iconst 1, 1) := by decide +kernel
theorem dX8_takeSign_300 : decode cX8_takeSign 300 = .ok (.iadd, 1) := by decide +kernel
theorem dX8_takeSign_301 : decode cX8_takeSign 301 = .ok (.putfield 19, 3) := by decide +kernel
theorem dX8_takeSign_304 : decode cX8_takeSign 304 = .ok (.return_, 1) := by decide +kernel
theorem dX9_init_0 : decode cX9_init 0 = .ok (.aload_n 0, 1) := by decide +kernel
theorem dX9_init_1 : decode cX9_init 1 = .ok (.invokespecial 3, 3) := by decide +kernel
theorem dX9_init_4 : decode cX9_init 4 = .ok (.aload_n 0, 1) := by decide +kernel
theorem dX9_init_5 : decode cX9_init 5 = .ok (.bipush 6, 2) := by decide +kernel
theorem dX9_init_7 : decode cX9_init 7 = .ok (.newarray .int, 2) := by decide +kernel
theorem dX9_init_9 : decode cX9_init 9 = .ok (.putfield 9, 3) := by decide +kernel
theorem dX9_init_12 : decode cX9_init 12 = .ok (.aload_n 0, 1) := by decide +kernel
theorem dX9_init_13 : decode cX9_init 13 = .ok (.new 15, 3) := by decide +kernel
theorem dX9_init_16 : decode cX9_init 16 = .ok (.dup, 1) := by decide +kernel
theorem dX9_init_17 : decode cX9_init 17 = .ok (.aload_n 1, 1) := by decide +kernel
theorem dX9_init_18 : decode cX9_init 18 = .ok (.invokespecial 17, 3) := by decide +kernel
theorem dX9_init_21 : decode cX9_init 21 = .ok (.putfield 20, 3) := by decide +kernel
theorem dX9_init_24 : decode cX9_init 24 = .ok (.return_, 1) := by decide +kernel
theorem dX9_comes_0 : decode cX9_comes 0 = .ok (.aload_n 0, 1) := by decide +kernel
theorem dX9_comes_1 : decode cX9_comes 1 = .ok (.getfield 20, 3) := by decide +kernel
theorem dX9_comes_4 : decode cX9_comes 4 = .ok (.aload_n 1, 1) := by decide +kernel
theorem dX9_comes_5 : decode cX9_comes 5 = .ok (.invokevirtual 24, 3) := by decide +kernel
theorem dX9_comes_8 : decode cX9_comes 8 = .ok (.aload_n 0, 1) := by decide +kernel
theorem dX9_comes_9 : decode cX9_comes 9 = .ok (.getfield 20, 3) := by decide +kernel
theorem dX9_comes_12 : decode cX9_comes 12 = .ok (.iload_n 2, 1) := by decide +kernel
theorem dX9_comes_13 : decode cX9_comes 13 = .ok (.iconst 0, 1) := by decide +kernel
theorem dX9_comes_14 : decode cX9_comes 14 = .ok (.invokevirtual 28, 3) := by decide +kernel
theorem dX9_comes_17 : decode cX9_comes 17 = .ok (.iload_n 3, 1) := by decide +kernel
theorem dX9_comes_18 : decode cX9_comes 18 = .ok (.tableswitch 89 0 2 #[26, 50, 74], 26) := by decide +kernel
theorem dX9_comes_44 : decode cX9_comes 44 = .ok (.aload_n 0, 1) := by decide +kernel
theorem dX9_comes_45 : decode cX9_comes 45 = .ok (.getfield 20, 3) := by decide +kernel
theorem dX9_comes_48 : decode cX9_comes 48 = .ok (.aload_n 0, 1) := by decide +kernel
theorem dX9_comes_49 : decode cX9_comes 49 = .ok (.getfield 20, 3) := by decide +kernel
theorem dX9_comes_52 : decode cX9_comes 52 = .ok (.getfield 32, 3) := by decide +kernel
theorem dX9_comes_55 : decode cX9_comes 55 = .ok (.invokevirtual 35, 3) := by decide +kernel
theorem dX9_comes_58 : decode cX9_comes 58 = .ok (.aload_n 1, 1) := by decide +kernel
theorem dX9_comes_59 : decode cX9_comes 59 = .ok (.aload_n 1, 1) := by decide +kernel
theorem dX9_comes_60 : decode cX9_comes 60 = .ok (.getfield 32, 3) := by decide +kernel
theorem dX9_comes_63 : decode cX9_comes 63 = .ok (.invokevirtual 35, 3) := by decide +kernel
theorem dX9_comes_66 : decode cX9_comes 66 = .ok (.isub, 1) := by decide +kernel
theorem dX9_comes_67 : decode cX9_comes 67 = .ok (.ireturn, 1) := by decide +kernel
theorem dX9_comes_68 : decode cX9_comes 68 = .ok (.aload_n 0, 1) := by decide +kernel
theorem dX9_comes_69 : decode cX9_comes 69 = .ok (.getfield 20, 3) := by decide +kernel
theorem dX9_comes_72 : decode cX9_comes 72 = .ok (.aload_n 0, 1) := by decide +kernel
theorem dX9_comes_73 : decode cX9_comes 73 = .ok (.getfield 20, 3) := by decide +kernel
theorem dX9_comes_76 : decode cX9_comes 76 = .ok (.getfield 39, 3) := by decide +kernel
theorem dX9_comes_79 : decode cX9_comes 79 = .ok (.invokevirtual 35, 3) := by decide +kernel
theorem dX9_comes_82 : decode cX9_comes 82 = .ok (.aload_n 1, 1) := by decide +kernel
theorem dX9_comes_83 : decode cX9_comes 83 = .ok (.aload_n 1, 1) := by decide +kernel
theorem dX9_comes_84 : decode cX9_comes 84 = .ok (.getfield 39, 3) := by decide +kernel
theorem dX9_comes_87 : decode cX9_comes 87 = .ok (.invokevirtual 35, 3) := by decide +kernel
theorem dX9_comes_90 : decode cX9_comes 90 = .ok (.isub, 1) := by decide +kernel
theorem dX9_comes_91 : decode cX9_comes 91 = .ok (.ireturn, 1) := by decide +kernel
theorem dX9_comes_92 : decode cX9_comes 92 = .ok (.aload_n 0, 1) := by decide +kernel
theorem dX9_comes_93 : decode cX9_comes 93 = .ok (.getfield 20, 3) := by decide +kernel
theorem dX9_comes_96 : decode cX9_comes 96 = .ok (.iconst 2, 1) := by decide +kernel
theorem dX9_comes_97 : decode cX9_comes 97 = .ok (.invokevirtual 42, 3) := by decide +kernel
theorem dX9_comes_100 : decode cX9_comes 100 = .ok (.aload_n 1, 1) := by decide +kernel
theorem dX9_comes_101 : decode cX9_comes 101 = .ok (.iconst 2, 1) := by decide +kernel
theorem dX9_comes_102 : decode cX9_comes 102 = .ok (.invokevirtual 42, 3) := by decide +kernel
theorem dX9_comes_105 : decode cX9_comes 105 = .ok (.isub, 1) := by decide +kernel
theorem dX9_comes_106 : decode cX9_comes 106 = .ok (.ireturn, 1) := by decide +kernel
theorem dX9_comes_107 : decode cX9_comes 107 = .ok (.aload_n 0, 1) := by decide +kernel
theorem dX9_comes_108 : decode cX9_comes 108 = .ok (.getfield 20, 3) := by decide +kernel
theorem dX9_comes_111 : decode cX9_comes 111 = .ok (.iconst 1, 1) := by decide +kernel
theorem dX9_comes_112 : decode cX9_comes 112 = .ok (.invokevirtual 42, 3) := by decide +kernel
theorem dX9_comes_115 : decode cX9_comes 115 = .ok (.ireturn, 1) := by decide +kernel
theorem dX9_roundOfMost_0 : decode cX9_roundOfMost 0 = .ok (.aload_n 0, 1) := by decide +kernel
theorem dX9_roundOfMost_1 : decode cX9_roundOfMost 1 = .ok (.getfield 20, 3) := by decide +kernel
theorem dX9_roundOfMost_4 : decode cX9_roundOfMost 4 = .ok (.aload_n 1, 1) := by decide +kernel
theorem dX9_roundOfMost_5 : decode cX9_roundOfMost 5 = .ok (.invokevirtual 24, 3) := by decide +kernel
theorem dX9_roundOfMost_8 : decode cX9_roundOfMost 8 = .ok (.aload_n 0, 1) := by decide +kernel
theorem dX9_roundOfMost_9 : decode cX9_roundOfMost 9 = .ok (.getfield 20, 3) := by decide +kernel
theorem dX9_roundOfMost_12 : decode cX9_roundOfMost 12 = .ok (.invokevirtual 46, 3) := by decide +kernel
theorem dX9_roundOfMost_15 : decode cX9_roundOfMost 15 = .ok (.iconst 0, 1) := by decide +kernel
theorem dX9_roundOfMost_16 : decode cX9_roundOfMost 16 = .ok (.istore_n 3, 1) := by decide +kernel
theorem dX9_roundOfMost_17 : decode cX9_roundOfMost 17 = .ok (.iconst 0, 1) := by decide +kernel
theorem dX9_roundOfMost_18 : decode cX9_roundOfMost 18 = .ok (.istore 4, 2) := by decide +kernel
theorem dX9_roundOfMost_20 : decode cX9_roundOfMost 20 = .ok (.iload 4, 2) := by decide +kernel
theorem dX9_roundOfMost_22 : decode cX9_roundOfMost 22 = .ok (.aload_n 1, 1) := by decide +kernel
theorem dX9_roundOfMost_23 : decode cX9_roundOfMost 23 = .ok (.getfield 49, 3) := by decide +kernel
theorem dX9_roundOfMost_26 : decode cX9_roundOfMost 26 = .ok (.getfield 53, 3) := by decide +kernel
theorem dX9_roundOfMost_29 : decode cX9_roundOfMost 29 = .ok (.if_icmp .ge 69, 3) := by decide +kernel
theorem dX9_roundOfMost_32 : decode cX9_roundOfMost 32 = .ok (.iload 4, 2) := by decide +kernel
theorem dX9_roundOfMost_34 : decode cX9_roundOfMost 34 = .ok (.bipush 6, 2) := by decide +kernel
theorem dX9_roundOfMost_36 : decode cX9_roundOfMost 36 = .ok (.if_icmp .ge 62, 3) := by decide +kernel
theorem dX9_roundOfMost_39 : decode cX9_roundOfMost 39 = .ok (.iload 4, 2) := by decide +kernel
theorem dX9_roundOfMost_41 : decode cX9_roundOfMost 41 = .ok (.iconst 4, 1) := by decide +kernel
theorem dX9_roundOfMost_42 : decode cX9_roundOfMost 42 = .ok (.if_icmp .ge 12, 3) := by decide +kernel
theorem dX9_roundOfMost_45 : decode cX9_roundOfMost 45 = .ok (.aload_n 0, 1) := by decide +kernel
theorem dX9_roundOfMost_46 : decode cX9_roundOfMost 46 = .ok (.iload 4, 2) := by decide +kernel
theorem dX9_roundOfMost_48 : decode cX9_roundOfMost 48 = .ok (.invokevirtual 59, 3) := by decide +kernel
theorem dX9_roundOfMost_51 : decode cX9_roundOfMost 51 = .ok (.goto 10, 3) := by decide +kernel
theorem dX9_roundOfMost_54 : decode cX9_roundOfMost 54 = .ok (.aload_n 1, 1) := by decide +kernel
theorem dX9_roundOfMost_55 : decode cX9_roundOfMost 55 = .ok (.getfield 62, 3) := by decide +kernel
theorem dX9_roundOfMost_58 : decode cX9_roundOfMost 58 = .ok (.iload 4, 2) := by decide +kernel
theorem dX9_roundOfMost_60 : decode cX9_roundOfMost 60 = .ok (.iaload, 1) := by decide +kernel
theorem dX9_roundOfMost_61 : decode cX9_roundOfMost 61 = .ok (.istore 5, 2) := by decide +kernel
theorem dX9_roundOfMost_63 : decode cX9_roundOfMost 63 = .ok (.iload 4, 2) := by decide +kernel
theorem dX9_roundOfMost_65 : decode cX9_roundOfMost 65 = .ok (.iload_n 2, 1) := by decide +kernel
theorem dX9_roundOfMost_66 : decode cX9_roundOfMost 66 = .ok (.if_icmp .ne 11, 3) := by decide +kernel
theorem dX9_roundOfMost_69 : decode cX9_roundOfMost 69 = .ok (.iload_n 2, 1) := by decide +kernel
theorem dX9_roundOfMost_70 : decode cX9_roundOfMost 70 = .ok (.iconst 4, 1) := by decide +kernel
theorem dX9_roundOfMost_71 : decode cX9_roundOfMost 71 = .ok (.if_icmp .ge 6, 3) := by decide +kernel
theorem dX9_roundOfMost_74 : decode cX9_roundOfMost 74 = .ok (.iload 5, 2) := by decide +kernel
theorem dX9_roundOfMost_76 : decode cX9_roundOfMost 76 = .ok (.ireturn, 1) := by decide +kernel
theorem dX9_roundOfMost_77 : decode cX9_roundOfMost 77 = .ok (.iload_n 3, 1) := by decide +kernel
theorem dX9_roundOfMost_78 : decode cX9_roundOfMost 78 = .ok (.aload_n 0, 1) := by decide +kernel
theorem dX9_roundOfMost_79 : decode cX9_roundOfMost 79 = .ok (.getfield 20, 3) := by decide +kernel
theorem dX9_roundOfMost_82 : decode cX9_roundOfMost 82 = .ok (.iload 4, 2) := by decide +kernel
theorem dX9_roundOfMost_84 : decode cX9_roundOfMost 84 = .ok (.iload 5, 2) := by decide +kernel
theorem dX9_roundOfMost_86 : decode cX9_roundOfMost 86 = .ok (.iconst 0, 1) := by decide +kernel
theorem dX9_roundOfMost_87 : decode cX9_roundOfMost 87 = .ok (.invokevirtual 65, 3) := by decide +kernel
theorem dX9_roundOfMost_90 : decode cX9_roundOfMost 90 = .ok (.iadd, 1) := by decide +kernel
theorem dX9_roundOfMost_91 : decode cX9_roundOfMost 91 = .ok (.istore_n 3, 1) := by decide +kernel
theorem dX9_roundOfMost_92 : decode cX9_roundOfMost 92 = .ok (.iinc 4 1, 3) := by decide +kernel
theorem dX9_roundOfMost_95 : decode cX9_roundOfMost 95 = .ok (.goto (-75), 3) := by decide +kernel
theorem dX9_roundOfMost_98 : decode cX9_roundOfMost 98 = .ok (.iload_n 3, 1) := by decide +kernel
theorem dX9_roundOfMost_99 : decode cX9_roundOfMost 99 = .ok (.ireturn, 1) := by decide +kernel
theorem dX9_readerOfMost_0 : decode cX9_readerOfMost 0 = .ok (.iconst 0, 1) := by decide +kernel
theorem dX9_readerOfMost_1 : decode cX9_readerOfMost 1 = .ok (.istore_n 2, 1) := by decide +kernel
theorem dX9_readerOfMost_2 : decode cX9_readerOfMost 2 = .ok (.iconst (-1), 1) := by decide +kernel
theorem dX9_readerOfMost_3 : decode cX9_readerOfMost 3 = .ok (.istore_n 3, 1) := by decide +kernel
theorem dX9_readerOfMost_4 : decode cX9_readerOfMost 4 = .ok (.iconst 0, 1) := by decide +kernel
theorem dX9_readerOfMost_5 : decode cX9_readerOfMost 5 = .ok (.istore 4, 2) := by decide +kernel
theorem dX9_readerOfMost_7 : decode cX9_readerOfMost 7 = .ok (.iload 4, 2) := by decide +kernel
theorem dX9_readerOfMost_9 : decode cX9_readerOfMost 9 = .ok (.aload_n 0, 1) := by decide +kernel
theorem dX9_readerOfMost_10 : decode cX9_readerOfMost 10 = .ok (.getfield 20, 3) := by decide +kernel
theorem dX9_readerOfMost_13 : decode cX9_readerOfMost 13 = .ok (.getfield 49, 3) := by decide +kernel
theorem dX9_readerOfMost_16 : decode cX9_readerOfMost 16 = .ok (.getfield 69, 3) := by decide +kernel
theorem dX9_readerOfMost_19 : decode cX9_readerOfMost 19 = .ok (.if_icmp .ge 40, 3) := by decide +kernel
theorem dX9_readerOfMost_22 : decode cX9_readerOfMost 22 = .ok (.iload 4, 2) := by decide +kernel
theorem dX9_readerOfMost_24 : decode cX9_readerOfMost 24 = .ok (.iconst 4, 1) := by decide +kernel
theorem dX9_readerOfMost_25 : decode cX9_readerOfMost 25 = .ok (.if_icmp .ge 34, 3) := by decide +kernel
theorem dX9_readerOfMost_28 : decode cX9_readerOfMost 28 = .ok (.aload_n 0, 1) := by decide +kernel
theorem dX9_readerOfMost_29 : decode cX9_readerOfMost 29 = .ok (.getfield 20, 3) := by decide +kernel
theorem dX9_readerOfMost_32 : decode cX9_readerOfMost 32 = .ok (.iload_n 1, 1) := by decide +kernel
theorem dX9_readerOfMost_33 : decode cX9_readerOfMost 33 = .ok (.iload 4, 2) := by decide +kernel
theorem dX9_readerOfMost_35 : decode cX9_readerOfMost 35 = .ok (.iconst 0, 1) := by decide +kernel
theorem dX9_readerOfMost_36 : decode cX9_readerOfMost 36 = .ok (.invokevirtual 65, 3) := by decide +kernel
theorem dX9_readerOfMost_39 : decode cX9_readerOfMost 39 = .ok (.istore 5, 2) := by decide +kernel
theorem dX9_readerOfMost_41 : decode cX9_readerOfMost 41 = .ok (.iload 5, 2) := by decide +kernel
theorem dX9_readerOfMost_43 : decode cX9_readerOfMost 43 = .ok (.iload_n 3, 1) := by decide +kernel
theorem dX9_readerOfMost_44 : decode cX9_readerOfMost 44 = .ok (.if_icmp .le 9, 3) := by decide +kernel
theorem dX9_readerOfMost_47 : decode cX9_readerOfMost 47 = .ok (.iload 5, 2) := by decide +kernel
theorem dX9_readerOfMost_49 : decode cX9_readerOfMost 49 = .ok (.istore_n 3, 1) := by decide +kernel
theorem dX9_readerOfMost_50 : decode cX9_readerOfMost 50 = .ok (.iload 4, 2) := by decide +kernel
theorem dX9_readerOfMost_52 : decode cX9_readerOfMost 52 = .ok (.istore_n 2, 1) := by decide +kernel
theorem dX9_readerOfMost_53 : decode cX9_readerOfMost 53 = .ok (.iinc 4 1, 3) := by decide +kernel
theorem dX9_readerOfMost_56 : decode cX9_readerOfMost 56 = .ok (.goto (-49), 3) := by decide +kernel
theorem dX9_readerOfMost_59 : decode cX9_readerOfMost 59 = .ok (.iload_n 2, 1) := by decide +kernel
theorem dX9_readerOfMost_60 : decode cX9_readerOfMost 60 = .ok (.ireturn, 1) := by decide +kernel
theorem dX9_holderOfLeast_0 : decode cX9_holderOfLeast 0 = .ok (.iconst (-1), 1) := by decide +kernel
theorem dX9_holderOfLeast_1 : decode cX9_holderOfLeast 1 = .ok (.istore 4, 2) := by decide +kernel
theorem dX9_holderOfLeast_3 : decode cX9_holderOfLeast 3 = .ok (.iconst 0, 1) := by decide +kernel
theorem dX9_holderOfLeast_4 : decode cX9_holderOfLeast 4 = .ok (.istore 5, 2) := by decide +kernel
theorem dX9_holderOfLeast_6 : decode cX9_holderOfLeast 6 = .ok (.iconst 0, 1) := by decide +kernel
theorem dX9_holderOfLeast_7 : decode cX9_holderOfLeast 7 = .ok (.istore 6, 2) := by decide +kernel
theorem dX9_holderOfLeast_9 : decode cX9_holderOfLeast 9 = .ok (.iload 6, 2) := by decide +kernel
theorem dX9_holderOfLeast_11 : decode cX9_holderOfLeast 11 = .ok (.aload_n 1, 1) := by decide +kernel
theorem dX9_holderOfLeast_12 : decode cX9_holderOfLeast 12 = .ok (.getfield 49, 3) := by decide +kernel
theorem dX9_holderOfLeast_15 : decode cX9_holderOfLeast 15 = .ok (.getfield 53, 3) := by decide +kernel
theorem dX9_holderOfLeast_18 : decode cX9_holderOfLeast 18 = .ok (.if_icmp .ge 88, 3) := by decide +kernel
theorem dX9_holderOfLeast_21 : decode cX9_holderOfLeast 21 = .ok (.iload 6, 2) := by decide +kernel
theorem dX9_holderOfLeast_23 : decode cX9_holderOfLeast 23 = .ok (.bipush 6, 2) := by decide +kernel
theorem dX9_holderOfLeast_25 : decode cX9_holderOfLeast 25 = .ok (.if_icmp .ge 81, 3) := by decide +kernel
theorem dX9_holderOfLeast_28 : decode cX9_holderOfLeast 28 = .ok (.aload_n 1, 1) := by decide +kernel
theorem dX9_holderOfLeast_29 : decode cX9_holderOfLeast 29 = .ok (.iload_n 2, 1) := by decide +kernel
theorem dX9_holderOfLeast_30 : decode cX9_holderOfLeast 30 = .ok (.invokevirtual 72, 3) := by decide +kernel
theorem dX9_holderOfLeast_33 : decode cX9_holderOfLeast 33 = .ok (.ifCond .eq 73, 3) := by decide +kernel
theorem dX9_holderOfLeast_36 : decode cX9_holderOfLeast 36 = .ok (.aload_n 0, 1) := by decide +kernel
theorem dX9_holderOfLeast_37 : decode cX9_holderOfLeast 37 = .ok (.getfield 20, 3) := by decide +kernel
theorem dX9_holderOfLeast_40 : decode cX9_holderOfLeast 40 = .ok (.aload_n 1, 1) := by decide +kernel
theorem dX9_holderOfLeast_41 : decode cX9_holderOfLeast 41 = .ok (.invokevirtual 24, 3) := by decide +kernel
theorem dX9_holderOfLeast_44 : decode cX9_holderOfLeast 44 = .ok (.aload_n 0, 1) := by decide +kernel
theorem dX9_holderOfLeast_45 : decode cX9_holderOfLeast 45 = .ok (.getfield 20, 3) := by decide +kernel
theorem dX9_holderOfLeast_48 : decode cX9_holderOfLeast 48 = .ok (.getfield 76, 3) := by decide +kernel
theorem dX9_holderOfLeast_51 : decode cX9_holderOfLeast 51 = .ok (.iload_n 2, 1) := by decide +kernel
theorem dX9_holderOfLeast_52 : decode cX9_holderOfLeast 52 = .ok (.iload 6, 2) := by decide +kernel
theorem dX9_holderOfLeast_54 : decode cX9_holderOfLeast 54 = .ok (.iastore, 1) := by decide +kernel
theorem dX9_holderOfLeast_55 : decode cX9_holderOfLeast 55 = .ok (.aload_n 0, 1) := by decide +kernel
theorem dX9_holderOfLeast_56 : decode cX9_holderOfLeast 56 = .ok (.getfield 20, 3) := by decide +kernel
theorem dX9_holderOfLeast_59 : decode cX9_holderOfLeast 59 = .ok (.bipush 12, 2) := by decide +kernel
theorem dX9_holderOfLeast_61 : decode cX9_holderOfLeast 61 = .ok (.iconst 0, 1) := by decide +kernel
theorem dX9_holderOfLeast_62 : decode cX9_holderOfLeast 62 = .ok (.invokevirtual 28, 3) := by decide +kernel
theorem dX9_holderOfLeast_65 : decode cX9_holderOfLeast 65 = .ok (.aload_n 0, 1) := by decide +kernel
theorem dX9_holderOfLeast_66 : decode cX9_holderOfLeast 66 = .ok (.getfield 20, 3) := by decide +kernel
theorem dX9_holderOfLeast_69 : decode cX9_holderOfLeast 69 = .ok (.invokevirtual 79, 3) := by decide +kernel
theorem dX9_holderOfLeast_72 : decode cX9_holderOfLeast 72 = .ok (.aload_n 1, 1) := by decide +kernel
theorem dX9_holderOfLeast_73 : decode cX9_holderOfLeast 73 = .ok (.invokevirtual 79, 3) := by decide +kernel
theorem dX9_holderOfLeast_76 : decode cX9_holderOfLeast 76 = .ok (.isub, 1) := by decide +kernel
theorem dX9_holderOfLeast_77 : decode cX9_holderOfLeast 77 = .ok (.istore 7, 2) := by decide +kernel
theorem dX9_holderOfLeast_79 : decode cX9_holderOfLeast 79 = .ok (.iload 4, 2) := by decide +kernel
theorem dX9_holderOfLeast_81 : decode cX9_holderOfLeast 81 = .ok (.iconst (-1), 1) := by decide +kernel
theorem dX9_holderOfLeast_82 : decode cX9_holderOfLeast 82 = .ok (.if_icmp .eq 10, 3) := by decide +kernel
theorem dX9_holderOfLeast_85 : decode cX9_holderOfLeast 85 = .ok (.iload 7, 2) := by decide +kernel
theorem dX9_holderOfLeast_87 : decode cX9_holderOfLeast 87 = .ok (.iload 5, 2) := by decide +kernel
theorem dX9_holderOfLeast_89 : decode cX9_holderOfLeast 89 = .ok (.if_icmp .ge 11, 3) := by decide +kernel
theorem dX9_holderOfLeast_92 : decode cX9_holderOfLeast 92 = .ok (.iload 6, 2) := by decide +kernel
theorem dX9_holderOfLeast_94 : decode cX9_holderOfLeast 94 = .ok (.istore 4, 2) := by decide +kernel
theorem dX9_holderOfLeast_96 : decode cX9_holderOfLeast 96 = .ok (.iload 7, 2) := by decide +kernel
theorem dX9_holderOfLeast_98 : decode cX9_holderOfLeast 98 = .ok (.istore 5, 2) := by decide +kernel
theorem dX9_holderOfLeast_100 : decode cX9_holderOfLeast 100 = .ok (.iinc 6 1, 3) := by decide +kernel
theorem dX9_holderOfLeast_103 : decode cX9_holderOfLeast 103 = .ok (.goto (-94), 3) := by decide +kernel
theorem dX9_holderOfLeast_106 : decode cX9_holderOfLeast 106 = .ok (.iload_n 3, 1) := by decide +kernel
theorem dX9_holderOfLeast_107 : decode cX9_holderOfLeast 107 = .ok (.ifCond .ne 8, 3) := by decide +kernel
theorem dX9_holderOfLeast_110 : decode cX9_holderOfLeast 110 = .ok (.iload 4, 2) := by decide +kernel
theorem dX9_holderOfLeast_112 : decode cX9_holderOfLeast 112 = .ok (.goto 5, 3) := by decide +kernel
theorem dX9_holderOfLeast_115 : decode cX9_holderOfLeast 115 = .ok (.iload 5, 2) := by decide +kernel
theorem dX9_holderOfLeast_117 : decode cX9_holderOfLeast 117 = .ok (.ireturn, 1) := by decide +kernel
theorem dX9_rateOfMost_0 : decode cX9_rateOfMost 0 = .ok (.iconst 0, 1) := by decide +kernel
theorem dX9_rateOfMost_1 : decode cX9_rateOfMost 1 = .ok (.istore 4, 2) := by decide +kernel
theorem dX9_rateOfMost_3 : decode cX9_rateOfMost 3 = .ok (.iconst (-1), 1) := by decide +kernel
theorem dX9_rateOfMost_4 : decode cX9_rateOfMost 4 = .ok (.istore 5, 2) := by decide +kernel
theorem dX9_rateOfMost_6 : decode cX9_rateOfMost 6 = .ok (.iconst 0, 1) := by decide +kernel
theorem dX9_rateOfMost_7 : decode cX9_rateOfMost 7 = .ok (.istore 6, 2) := by decide +kernel
theorem dX9_rateOfMost_9 : decode cX9_rateOfMost 9 = .ok (.iload 6, 2) := by decide +kernel
theorem dX9_rateOfMost_11 : decode cX9_rateOfMost 11 = .ok (.bipush 100, 2) := by decide +kernel
theorem dX9_rateOfMost_13 : decode cX9_rateOfMost 13 = .ok (.if_icmp .gt 96, 3) := by decide +kernel
theorem dX9_rateOfMost_16 : decode cX9_rateOfMost 16 = .ok (.aload_n 0, 1) := by decide +kernel
theorem dX9_rateOfMost_17 : decode cX9_rateOfMost 17 = .ok (.getfield 20, 3) := by decide +kernel
theorem dX9_rateOfMost_20 : decode cX9_rateOfMost 20 = .ok (.aload_n 1, 1) := by decide +kernel
theorem dX9_rateOfMost_21 : decode cX9_rateOfMost 21 = .ok (.invokevirtual 24, 3) := by decide +kernel
theorem dX9_rateOfMost_24 : decode cX9_rateOfMost 24 = .ok (.aload_n 0, 1) := by decide +kernel
theorem dX9_rateOfMost_25 : decode cX9_rateOfMost 25 = .ok (.getfield 20, 3) := by decide +kernel
theorem dX9_rateOfMost_28 : decode cX9_rateOfMost 28 = .ok (.iload 6, 2) := by decide +kernel
theorem dX9_rateOfMost_30 : decode cX9_rateOfMost 30 = .ok (.putfield 83, 3) := by decide +kernel
theorem dX9_rateOfMost_33 : decode cX9_rateOfMost 33 = .ok (.aload_n 0, 1) := by decide +kernel
theorem dX9_rateOfMost_34 : decode cX9_rateOfMost 34 = .ok (.getfield 20, 3) := by decide +kernel
theorem dX9_rateOfMost_37 : decode cX9_rateOfMost 37 = .ok (.iconst 0, 1) := by decide +kernel
theorem dX9_rateOfMost_38 : decode cX9_rateOfMost 38 = .ok (.putfield 86, 3) := by decide +kernel
theorem dX9_rateOfMost_41 : decode cX9_rateOfMost 41 = .ok (.aload_n 0, 1) := by decide +kernel
theorem dX9_rateOfMost_42 : decode cX9_rateOfMost 42 = .ok (.getfield 20, 3) := by decide +kernel
theorem dX9_rateOfMost_45 : decode cX9_rateOfMost 45 = .ok (.iload_n 2, 1) := by decide +kernel
theorem dX9_rateOfMost_46 : decode cX9_rateOfMost 46 = .ok (.iconst 0, 1) := by decide +kernel
theorem dX9_rateOfMost_47 : decode cX9_rateOfMost 47 = .ok (.invokevirtual 28, 3) := by decide +kernel
theorem dX9_rateOfMost_50 : decode cX9_rateOfMost 50 = .ok (.aload_n 0, 1) := by decide +kernel
theorem dX9_rateOfMost_51 : decode cX9_rateOfMost 51 = .ok (.getfield 20, 3) := by decide +kernel
theorem dX9_rateOfMost_54 : decode cX9_rateOfMost 54 = .ok (.aload_n 0, 1) := by decide +kernel
theorem dX9_rateOfMost_55 : decode cX9_rateOfMost 55 = .ok (.getfield 20, 3) := by decide +kernel
theorem dX9_rateOfMost_58 : decode cX9_rateOfMost 58 = .ok (.getfield 32, 3) := by decide +kernel
theorem dX9_rateOfMost_61 : decode cX9_rateOfMost 61 = .ok (.invokevirtual 35, 3) := by decide +kernel
theorem dX9_rateOfMost_64 : decode cX9_rateOfMost 64 = .ok (.aload_n 1, 1) := by decide +kernel
theorem dX9_rateOfMost_65 : decode cX9_rateOfMost 65 = .ok (.aload_n 1, 1) := by decide +kernel
theorem dX9_rateOfMost_66 : decode cX9_rateOfMost 66 = .ok (.getfield 32, 3) := by decide +kernel
theorem dX9_rateOfMost_69 : decode cX9_rateOfMost 69 = .ok (.invokevirtual 35, 3) := by decide +kernel
theorem dX9_rateOfMost_72 : decode cX9_rateOfMost 72 = .ok (.isub, 1) := by decide +kernel
theorem dX9_rateOfMost_73 : decode cX9_rateOfMost 73 = .ok (.istore 7, 2) := by decide +kernel
theorem dX9_rateOfMost_75 : decode cX9_rateOfMost 75 = .ok (.iload 7, 2) := by decide +kernel
theorem dX9_rateOfMost_77 : decode cX9_rateOfMost 77 = .ok (.iload 5, 2) := by decide +kernel
theorem dX9_rateOfMost_79 : decode cX9_rateOfMost 79 = .ok (.if_icmp .le 11, 3) := by decide +kernel
theorem dX9_rateOfMost_82 : decode cX9_rateOfMost 82 = .ok (.iload 6, 2) := by decide +kernel
theorem dX9_rateOfMost_84 : decode cX9_rateOfMost 84 = .ok (.istore 4, 2) := by decide +kernel
theorem dX9_rateOfMost_86 : decode cX9_rateOfMost 86 = .ok (.iload 7, 2) := by decide +kernel
theorem dX9_rateOfMost_88 : decode cX9_rateOfMost 88 = .ok (.istore 5, 2) := by decide +kernel
theorem dX9_rateOfMost_90 : decode cX9_rateOfMost 90 = .ok (.aload_n 0, 1) := by decide +kernel
theorem dX9_rateOfMost_91 : decode cX9_rateOfMost 91 = .ok (.getfield 20, 3) := by decide +kernel
theorem dX9_rateOfMost_94 : decode cX9_rateOfMost 94 = .ok (.getfield 86, 3) := by decide +kernel
theorem dX9_rateOfMost_97 : decode cX9_rateOfMost 97 = .ok (.ifCond .ne 6, 3) := by decide +kernel
theorem dX9_rateOfMost_100 : decode cX9_rateOfMost 100 = .ok (.goto 9, 3) := by decide +kernel
theorem dX9_rateOfMost_103 : decode cX9_rateOfMost 103 = .ok (.iinc 6 1, 3) := by decide +kernel
theorem dX9_rateOfMost_106 : decode cX9_rateOfMost 106 = .ok (.goto (-97), 3) := by decide +kernel
theorem dX9_rateOfMost_109 : decode cX9_rateOfMost 109 = .ok (.iload_n 3, 1) := by decide +kernel
theorem dX9_rateOfMost_110 : decode cX9_rateOfMost 110 = .ok (.ifCond .ne 8, 3) := by decide +kernel
theorem dX9_rateOfMost_113 : decode cX9_rateOfMost 113 = .ok (.iload 4, 2) := by decide +kernel
theorem dX9_rateOfMost_115 : decode cX9_rateOfMost 115 = .ok (.goto 5, 3) := by decide +kernel
theorem dX9_rateOfMost_118 : decode cX9_rateOfMost 118 = .ok (.iload 5, 2) := by decide +kernel
theorem dX9_rateOfMost_120 : decode cX9_rateOfMost 120 = .ok (.ireturn, 1) := by decide +kernel
theorem dX9_dearThoughts_0 : decode cX9_dearThoughts 0 = .ok (.aload_n 0, 1) := by decide +kernel
theorem dX9_dearThoughts_1 : decode cX9_dearThoughts 1 = .ok (.getfield 20, 3) := by decide +kernel
theorem dX9_dearThoughts_4 : decode cX9_dearThoughts 4 = .ok (.aload_n 1, 1) := by decide +kernel
theorem dX9_dearThoughts_5 : decode cX9_dearThoughts 5 = .ok (.invokevirtual 24, 3) := by decide +kernel
theorem dX9_dearThoughts_8 : decode cX9_dearThoughts 8 = .ok (.aload_n 0, 1) := by decide +kernel
theorem dX9_dearThoughts_9 : decode cX9_dearThoughts 9 = .ok (.getfield 20, 3) := by decide +kernel
theorem dX9_dearThoughts_12 : decode cX9_dearThoughts 12 = .ok (.bipush 20, 2) := by decide +kernel
theorem dX9_dearThoughts_14 : decode cX9_dearThoughts 14 = .ok (.iconst 0, 1) := by decide +kernel
theorem dX9_dearThoughts_15 : decode cX9_dearThoughts 15 = .ok (.invokevirtual 28, 3) := by decide +kernel
theorem dX9_dearThoughts_18 : decode cX9_dearThoughts 18 = .ok (.aload_n 0, 1) := by decide +kernel
theorem dX9_dearThoughts_19 : decode cX9_dearThoughts 19 = .ok (.invokevirtual 90, 3) := by decide +kernel
theorem dX9_dearThoughts_22 : decode cX9_dearThoughts 22 = .ok (.iconst 0, 1) := by decide +kernel
theorem dX9_dearThoughts_23 : decode cX9_dearThoughts 23 = .ok (.istore_n 2, 1) := by decide +kernel
theorem dX9_dearThoughts_24 : decode cX9_dearThoughts 24 = .ok (.iconst 0, 1) := by decide +kernel
theorem dX9_dearThoughts_25 : decode cX9_dearThoughts 25 = .ok (.istore_n 3, 1) := by decide +kernel
theorem dX9_dearThoughts_26 : decode cX9_dearThoughts 26 = .ok (.iload_n 3, 1) := by decide +kernel
theorem dX9_dearThoughts_27 : decode cX9_dearThoughts 27 = .ok (.aload_n 1, 1) := by decide +kernel
theorem dX9_dearThoughts_28 : decode cX9_dearThoughts 28 = .ok (.getfield 49, 3) := by decide +kernel
theorem dX9_dearThoughts_31 : decode cX9_dearThoughts 31 = .ok (.getfield 93, 3) := by decide +kernel
theorem dX9_dearThoughts_34 : decode cX9_dearThoughts 34 = .ok (.if_icmp .ge 104, 3) := by decide +kernel
theorem dX9_dearThoughts_37 : decode cX9_dearThoughts 37 = .ok (.iload_n 3, 1) := by decide +kernel
theorem dX9_dearThoughts_38 : decode cX9_dearThoughts 38 = .ok (.bipush 12, 2) := by decide +kernel
theorem dX9_dearThoughts_40 : decode cX9_dearThoughts 40 = .ok (.if_icmp .ge 98, 3) := by decide +kernel
theorem dX9_dearThoughts_43 : decode cX9_dearThoughts 43 = .ok (.aload_n 1, 1) := by decide +kernel
theorem dX9_dearThoughts_44 : decode cX9_dearThoughts 44 = .ok (.getfield 49, 3) := by decide +kernel
theorem dX9_dearThoughts_47 : decode cX9_dearThoughts 47 = .ok (.getfield 96, 3) := by decide +kernel
theorem dX9_dearThoughts_50 : decode cX9_dearThoughts 50 = .ok (.iload_n 3, 1) := by decide +kernel
theorem dX9_dearThoughts_51 : decode cX9_dearThoughts 51 = .ok (.iaload, 1) := by decide +kernel
theorem dX9_dearThoughts_52 : decode cX9_dearThoughts 52 = .ok (.istore 4, 2) := by decide +kernel
theorem dX9_dearThoughts_54 : decode cX9_dearThoughts 54 = .ok (.aload_n 1, 1) := by decide +kernel
theorem dX9_dearThoughts_55 : decode cX9_dearThoughts 55 = .ok (.getfield 99, 3) := by decide +kernel
theorem dX9_dearThoughts_58 : decode cX9_dearThoughts 58 = .ok (.iload_n 3, 1) := by decide +kernel
theorem dX9_dearThoughts_59 : decode cX9_dearThoughts 59 = .ok (.iaload, 1) := by decide +kernel
theorem dX9_dearThoughts_60 : decode cX9_dearThoughts 60 = .ok (.ifCond .ne 72, 3) := by decide +kernel
theorem dX9_dearThoughts_63 : decode cX9_dearThoughts 63 = .ok (.aload_n 1, 1) := by decide +kernel
theorem dX9_dearThoughts_64 : decode cX9_dearThoughts 64 = .ok (.getfield 49, 3) := by decide +kernel
theorem dX9_dearThoughts_67 : decode cX9_dearThoughts 67 = .ok (.iload 4, 2) := by decide +kernel
theorem dX9_dearThoughts_69 : decode cX9_dearThoughts 69 = .ok (.invokevirtual 102, 3) := by decide +kernel
theorem dX9_dearThoughts_72 : decode cX9_dearThoughts 72 = .ok (.ifCond .eq 60, 3) := by decide +kernel
theorem dX9_dearThoughts_75 : decode cX9_dearThoughts 75 = .ok (.aload_n 0, 1) := by decide +kernel
theorem dX9_dearThoughts_76 : decode cX9_dearThoughts 76 = .ok (.getfield 20, 3) := by decide +kernel
theorem dX9_dearThoughts_79 : decode cX9_dearThoughts 79 = .ok (.aload_n 1, 1) := by decide +kernel
theorem dX9_dearThoughts_80 : decode cX9_dearThoughts 80 = .ok (.invokevirtual 24, 3) := by decide +kernel
theorem dX9_dearThoughts_83 : decode cX9_dearThoughts 83 = .ok (.aload_n 0, 1) := by decide +kernel
theorem dX9_dearThoughts_84 : decode cX9_dearThoughts 84 = .ok (.getfield 20, 3) := by decide +kernel
theorem dX9_dearThoughts_87 : decode cX9_dearThoughts 87 = .ok (.getfield 99, 3) := by decide +kernel
theorem dX9_dearThoughts_90 : decode cX9_dearThoughts 90 = .ok (.iload_n 3, 1) := by decide +kernel
theorem dX9_dearThoughts_91 : decode cX9_dearThoughts 91 = .ok (.iconst 2, 1) := by decide +kernel
theorem dX9_dearThoughts_92 : decode cX9_dearThoughts 92 = .ok (.iastore, 1) := by decide +kernel
theorem dX9_dearThoughts_93 : decode cX9_dearThoughts 93 = .ok (.aload_n 0, 1) := by decide +kernel
theorem dX9_dearThoughts_94 : decode cX9_dearThoughts 94 = .ok (.getfield 20, 3) := by decide +kernel
theorem dX9_dearThoughts_97 : decode cX9_dearThoughts 97 = .ok (.bipush 20, 2) := by decide +kernel
theorem dX9_dearThoughts_99 : decode cX9_dearThoughts 99 = .ok (.iconst 0, 1) := by decide +kernel
theorem dX9_dearThoughts_100 : decode cX9_dearThoughts 100 = .ok (.invokevirtual 28, 3) := by decide +kernel
theorem dX9_dearThoughts_103 : decode cX9_dearThoughts 103 = .ok (.iload_n 2, 1) := by decide +kernel
theorem dX9_dearThoughts_104 : decode cX9_dearThoughts 104 = .ok (.aload_n 0, 1) := by decide +kernel
theorem dX9_dearThoughts_105 : decode cX9_dearThoughts 105 = .ok (.getfield 20, 3) := by decide +kernel
theorem dX9_dearThoughts_108 : decode cX9_dearThoughts 108 = .ok (.iload 4, 2) := by decide +kernel
theorem dX9_dearThoughts_110 : decode cX9_dearThoughts 110 = .ok (.invokevirtual 105, 3) := by decide +kernel
theorem dX9_dearThoughts_113 : decode cX9_dearThoughts 113 = .ok (.aload_n 0, 1) := by decide +kernel
theorem dX9_dearThoughts_114 : decode cX9_dearThoughts 114 = .ok (.getfield 9, 3) := by decide +kernel
theorem dX9_dearThoughts_117 : decode cX9_dearThoughts 117 = .ok (.iload 4, 2) := by decide +kernel
theorem dX9_dearThoughts_119 : decode cX9_dearThoughts 119 = .ok (.iaload, 1) := by decide +kernel
theorem dX9_dearThoughts_120 : decode cX9_dearThoughts 120 = .ok (.if_icmp .ge 9, 3) := by decide +kernel
theorem dX9_dearThoughts_123 : decode cX9_dearThoughts 123 = .ok (.iconst 1, 1) := by decide +kernel
theorem dX9_dearThoughts_124 : decode cX9_dearThoughts 124 = .ok (.iload_n 3, 1) := by decide +kernel
theorem dX9_dearThoughts_125 : decode cX9_dearThoughts 125 = .ok (.ishl, 1) := by decide +kernel
theorem dX9_dearThoughts_126 : decode cX9_dearThoughts 126 = .ok (.goto 4, 3) := by decide +kernel
theorem dX9_dearThoughts_129 : decode cX9_dearThoughts 129 = .ok (.iconst 0, 1) := by decide +kernel
theorem dX9_dearThoughts_130 : decode cX9_dearThoughts 130 = .ok (.ior, 1) := by decide +kernel
theorem dX9_dearThoughts_131 : decode cX9_dearThoughts 131 = .ok (.istore_n 2, 1) := by decide +kernel
theorem dX9_dearThoughts_132 : decode cX9_dearThoughts 132 = .ok (.iinc 3 1, 3) := by decide +kernel
theorem dX9_dearThoughts_135 : decode cX9_dearThoughts 135 = .ok (.goto (-109), 3) := by decide +kernel
theorem dX9_dearThoughts_138 : decode cX9_dearThoughts 138 = .ok (.iload_n 2, 1) := by decide +kernel
theorem dX9_dearThoughts_139 : decode cX9_dearThoughts 139 = .ok (.ireturn, 1) := by decide +kernel
theorem dX9_noteTaxes_0 : decode cX9_noteTaxes 0 = .ok (.iconst 0, 1) := by decide +kernel
theorem dX9_noteTaxes_1 : decode cX9_noteTaxes 1 = .ok (.istore_n 1, 1) := by decide +kernel
theorem dX9_noteTaxes_2 : decode cX9_noteTaxes 2 = .ok (.iload_n 1, 1) := by decide +kernel
theorem dX9_noteTaxes_3 : decode cX9_noteTaxes 3 = .ok (.aload_n 0, 1) := by decide +kernel
theorem dX9_noteTaxes_4 : decode cX9_noteTaxes 4 = .ok (.getfield 20, 3) := by decide +kernel
theorem dX9_noteTaxes_7 : decode cX9_noteTaxes 7 = .ok (.getfield 49, 3) := by decide +kernel
theorem dX9_noteTaxes_10 : decode cX9_noteTaxes 10 = .ok (.getfield 53, 3) := by decide +kernel
theorem dX9_noteTaxes_13 : decode cX9_noteTaxes 13 = .ok (.if_icmp .ge 29, 3) := by decide +kernel
theorem dX9_noteTaxes_16 : decode cX9_noteTaxes 16 = .ok (.iload_n 1, 1) := by decide +kernel
theorem dX9_noteTaxes_17 : decode cX9_noteTaxes 17 = .ok (.bipush 6, 2) := by decide +kernel
theorem dX9_noteTaxes_19 : decode cX9_noteTaxes 19 = .ok (.if_icmp .ge 23, 3) := by decide +kernel
theorem dX9_noteTaxes_22 : decode cX9_noteTaxes 22 = .ok (.aload_n 0, 1) := by decide +kernel
theorem dX9_noteTaxes_23 : decode cX9_noteTaxes 23 = .ok (.getfield 9, 3) := by decide +kernel
theorem dX9_noteTaxes_26 : decode cX9_noteTaxes 26 = .ok (.iload_n 1, 1) := by decide +kernel
theorem dX9_noteTaxes_27 : decode cX9_noteTaxes 27 = .ok (.aload_n 0, 1) := by decide +kernel
theorem dX9_noteTaxes_28 : decode cX9_noteTaxes 28 = .ok (.getfield 20, 3) := by decide +kernel
theorem dX9_noteTaxes_31 : decode cX9_noteTaxes 31 = .ok (.iload_n 1, 1) := by decide +kernel
theorem dX9_noteTaxes_32 : decode cX9_noteTaxes 32 = .ok (.invokevirtual 105, 3) := by decide +kernel
theorem dX9_noteTaxes_35 : decode cX9_noteTaxes 35 = .ok (.iastore, 1) := by decide +kernel
theorem dX9_noteTaxes_36 : decode cX9_noteTaxes 36 = .ok (.iinc 1 1, 3) := by decide +kernel
theorem dX9_noteTaxes_39 : decode cX9_noteTaxes 39 = .ok (.goto (-37), 3) := by decide +kernel
theorem dX9_noteTaxes_42 : decode cX9_noteTaxes 42 = .ok (.return_, 1) := by decide +kernel
theorem dX9_votes_0 : decode cX9_votes 0 = .ok (.aload_n 0, 1) := by decide +kernel
theorem dX9_votes_1 : decode cX9_votes 1 = .ok (.getfield 20, 3) := by decide +kernel
theorem dX9_votes_4 : decode cX9_votes 4 = .ok (.aload_n 1, 1) := by decide +kernel
theorem dX9_votes_5 : decode cX9_votes 5 = .ok (.invokevirtual 24, 3) := by decide +kernel
theorem dX9_votes_8 : decode cX9_votes 8 = .ok (.aload_n 0, 1) := by decide +kernel
theorem dX9_votes_9 : decode cX9_votes 9 = .ok (.getfield 20, 3) := by decide +kernel
theorem dX9_votes_12 : decode cX9_votes 12 = .ok (.iload_n 2, 1) := by decide +kernel
theorem dX9_votes_13 : decode cX9_votes 13 = .ok (.iconst 0, 1) := by decide +kernel
theorem dX9_votes_14 : decode cX9_votes 14 = .ok (.invokevirtual 28, 3) := by decide +kernel
theorem dX9_votes_17 : decode cX9_votes 17 = .ok (.aload_n 0, 1) := by decide +kernel
theorem dX9_votes_18 : decode cX9_votes 18 = .ok (.invokevirtual 90, 3) := by decide +kernel
theorem dX9_votes_21 : decode cX9_votes 21 = .ok (.aload_n 0, 1) := by decide +kernel
theorem dX9_votes_22 : decode cX9_votes 22 = .ok (.getfield 20, 3) := by decide +kernel
theorem dX9_votes_25 : decode cX9_votes 25 = .ok (.aload_n 1, 1) := by decide +kernel
theorem dX9_votes_26 : decode cX9_votes 26 = .ok (.invokevirtual 24, 3) := by decide +kernel
theorem dX9_votes_29 : decode cX9_votes 29 = .ok (.aload_n 0, 1) := by decide +kernel
theorem dX9_votes_30 : decode cX9_votes 30 = .ok (.getfield 20, 3) := by decide +kernel
theorem dX9_votes_33 : decode cX9_votes 33 = .ok (.iload_n 3, 1) := by decide +kernel
theorem dX9_votes_34 : decode cX9_votes 34 = .ok (.putfield 83, 3) := by decide +kernel
theorem dX9_votes_37 : decode cX9_votes 37 = .ok (.aload_n 0, 1) := by decide +kernel
theorem dX9_votes_38 : decode cX9_votes 38 = .ok (.getfield 20, 3) := by decide +kernel
theorem dX9_votes_41 : decode cX9_votes 41 = .ok (.iload_n 2, 1) := by decide +kernel
theorem dX9_votes_42 : decode cX9_votes 42 = .ok (.iconst 0, 1) := by decide +kernel
theorem dX9_votes_43 : decode cX9_votes 43 = .ok (.invokevirtual 28, 3) := by decide +kernel
theorem dX9_votes_46 : decode cX9_votes 46 = .ok (.iconst 0, 1) := by decide +kernel
theorem dX9_votes_47 : decode cX9_votes 47 = .ok (.istore 5, 2) := by decide +kernel
theorem dX9_votes_49 : decode cX9_votes 49 = .ok (.iconst 0, 1) := by decide +kernel
theorem dX9_votes_50 : decode cX9_votes 50 = .ok (.istore 6, 2) := by decide +kernel
theorem dX9_votes_52 : decode cX9_votes 52 = .ok (.iload 6, 2) := by decide +kernel
theorem dX9_votes_54 : decode cX9_votes 54 = .ok (.aload_n 1, 1) := by decide +kernel
theorem dX9_votes_55 : decode cX9_votes 55 = .ok (.getfield 49, 3) := by decide +kernel
theorem dX9_votes_58 : decode cX9_votes 58 = .ok (.getfield 53, 3) := by decide +kernel
theorem dX9_votes_61 : decode cX9_votes 61 = .ok (.if_icmp .ge 69, 3) := by decide +kernel
theorem dX9_votes_64 : decode cX9_votes 64 = .ok (.iload 6, 2) := by decide +kernel
theorem dX9_votes_66 : decode cX9_votes 66 = .ok (.bipush 6, 2) := by decide +kernel
theorem dX9_votes_68 : decode cX9_votes 68 = .ok (.if_icmp .ge 62, 3) := by decide +kernel
theorem dX9_votes_71 : decode cX9_votes 71 = .ok (.aload_n 0, 1) := by decide +kernel
theorem dX9_votes_72 : decode cX9_votes 72 = .ok (.getfield 20, 3) := by decide +kernel
theorem dX9_votes_75 : decode cX9_votes 75 = .ok (.iload 6, 2) := by decide +kernel
theorem dX9_votes_77 : decode cX9_votes 77 = .ok (.invokevirtual 105, 3) := by decide +kernel
theorem dX9_votes_80 : decode cX9_votes 80 = .ok (.istore 7, 2) := by decide +kernel
theorem dX9_votes_82 : decode cX9_votes 82 = .ok (.iload 5, 2) := by decide +kernel
theorem dX9_votes_84 : decode cX9_votes 84 = .ok (.iload 4, 2) := by decide +kernel
theorem dX9_votes_86 : decode cX9_votes 86 = .ok (.ifCond .ne 18, 3) := by decide +kernel
theorem dX9_votes_89 : decode cX9_votes 89 = .ok (.iload 7, 2) := by decide +kernel
theorem dX9_votes_91 : decode cX9_votes 91 = .ok (.aload_n 0, 1) := by decide +kernel
theorem dX9_votes_92 : decode cX9_votes 92 = .ok (.getfield 9, 3) := by decide +kernel
theorem dX9_votes_95 : decode cX9_votes 95 = .ok (.iload 6, 2) := by decide +kernel
theorem dX9_votes_97 : decode cX9_votes 97 = .ok (.iaload, 1) := by decide +kernel
theorem dX9_votes_98 : decode cX9_votes 98 = .ok (.if_icmp .ge 22, 3) := by decide +kernel
theorem dX9_votes_101 : decode cX9_votes 101 = .ok (.goto 15, 3) := by decide +kernel
theorem dX9_votes_104 : decode cX9_votes 104 = .ok (.iload 7, 2) := by decide +kernel
theorem dX9_votes_106 : decode cX9_votes 106 = .ok (.aload_n 0, 1) := by decide +kernel
theorem dX9_votes_107 : decode cX9_votes 107 = .ok (.getfield 9, 3) := by decide +kernel
theorem dX9_votes_110 : decode cX9_votes 110 = .ok (.iload 6, 2) := by decide +kernel
theorem dX9_votes_112 : decode cX9_votes 112 = .ok (.iaload, 1) := by decide +kernel
theorem dX9_votes_113 : decode cX9_votes 113 = .ok (.if_icmp .le 7, 3) := by decide +kernel
theorem dX9_votes_116 : decode cX9_votes 116 = .ok (.iconst 1, 1) := by decide +kernel
theorem dX9_votes_117 : decode cX9_votes 117 = .ok (.goto 4, 3) := by decide +kernel
theorem dX9_votes_120 : decode cX9_votes 120 = .ok (.iconst 0, 1) := by decide +kernel
theorem dX9_votes_121 : decode cX9_votes 121 = .ok (.iadd, 1) := by decide +kernel
theorem dX9_votes_122 : decode cX9_votes 122 = .ok (.istore 5, 2) := by decide +kernel
theorem dX9_votes_124 : decode cX9_votes 124 = .ok (.iinc 6 1, 3) := by decide +kernel
theorem dX9_votes_127 : decode cX9_votes 127 = .ok (.goto (-75), 3) := by decide +kernel
theorem dX9_votes_130 : decode cX9_votes 130 = .ok (.iload 5, 2) := by decide +kernel
theorem dX9_votes_132 : decode cX9_votes 132 = .ok (.ireturn, 1) := by decide +kernel
theorem dX9_dullEnough_0 : decode cX9_dullEnough 0 = .ok (.aload_n 1, 1) := by decide +kernel
theorem dX9_dullEnough_1 : decode cX9_dullEnough 1 = .ok (.getfield 49, 3) := by decide +kernel
theorem dX9_dullEnough_4 : decode cX9_dullEnough 4 = .ok (.iload_n 2, 1) := by decide +kernel
theorem dX9_dullEnough_5 : decode cX9_dullEnough 5 = .ok (.invokevirtual 102, 3) := by decide +kernel
theorem dX9_dullEnough_8 : decode cX9_dullEnough 8 = .ok (.ifCond .ne 5, 3) := by decide +kernel
theorem dX9_dullEnough_11 : decode cX9_dullEnough 11 = .ok (.iconst (-1), 1) := by decide +kernel
theorem dX9_dullEnough_12 : decode cX9_dullEnough 12 = .ok (.ireturn, 1) := by decide +kernel
theorem dX9_dullEnough_13 : decode cX9_dullEnough 13 = .ok (.aload_n 0, 1) := by decide +kernel
theorem dX9_dullEnough_14 : decode cX9_dullEnough 14 = .ok (.getfield 20, 3) := by decide +kernel
theorem dX9_dullEnough_17 : decode cX9_dullEnough 17 = .ok (.aload_n 1, 1) := by decide +kernel
theorem dX9_dullEnough_18 : decode cX9_dullEnough 18 = .ok (.invokevirtual 24, 3) := by decide +kernel
theorem dX9_dullEnough_21 : decode cX9_dullEnough 21 = .ok (.iconst 0, 1) := by decide +kernel
theorem dX9_dullEnough_22 : decode cX9_dullEnough 22 = .ok (.istore_n 3, 1) := by decide +kernel
theorem dX9_dullEnough_23 : decode cX9_dullEnough 23 = .ok (.iload_n 3, 1) := by decide +kernel
theorem dX9_dullEnough_24 : decode cX9_dullEnough 24 = .ok (.bipush 9, 2) := by decide +kernel
theorem dX9_dullEnough_26 : decode cX9_dullEnough 26 = .ok (.aload_n 1, 1) := by decide +kernel
theorem dX9_dullEnough_27 : decode cX9_dullEnough 27 = .ok (.getfield 108, 3) := by decide +kernel
theorem dX9_dullEnough_30 : decode cX9_dullEnough 30 = .ok (.iload_n 2, 1) := by decide +kernel
theorem dX9_dullEnough_31 : decode cX9_dullEnough 31 = .ok (.iaload, 1) := by decide +kernel
theorem dX9_dullEnough_32 : decode cX9_dullEnough 32 = .ok (.isub, 1) := by decide +kernel
theorem dX9_dullEnough_33 : decode cX9_dullEnough 33 = .ok (.if_icmp .gt 45, 3) := by decide +kernel
theorem dX9_dullEnough_36 : decode cX9_dullEnough 36 = .ok (.aload_n 0, 1) := by decide +kernel
theorem dX9_dullEnough_37 : decode cX9_dullEnough 37 = .ok (.getfield 20, 3) := by decide +kernel
theorem dX9_dullEnough_40 : decode cX9_dullEnough 40 = .ok (.getfield 108, 3) := by decide +kernel
theorem dX9_dullEnough_43 : decode cX9_dullEnough 43 = .ok (.iload_n 2, 1) := by decide +kernel
theorem dX9_dullEnough_44 : decode cX9_dullEnough 44 = .ok (.aload_n 1, 1) := by decide +kernel
theorem dX9_dullEnough_45 : decode cX9_dullEnough 45 = .ok (.getfield 108, 3) := by decide +kernel
theorem dX9_dullEnough_48 : decode cX9_dullEnough 48 = .ok (.iload_n 2, 1) := by decide +kernel
theorem dX9_dullEnough_49 : decode cX9_dullEnough 49 = .ok (.iaload, 1) := by decide +kernel
theorem dX9_dullEnough_50 : decode cX9_dullEnough 50 = .ok (.iload_n 3, 1) := by decide +kernel
theorem dX9_dullEnough_51 : decode cX9_dullEnough 51 = .ok (.iadd, 1) := by decide +kernel
theorem dX9_dullEnough_52 : decode cX9_dullEnough 52 = .ok (.iastore, 1) := by decide +kernel
theorem dX9_dullEnough_53 : decode cX9_dullEnough 53 = .ok (.aload_n 0, 1) := by decide +kernel
theorem dX9_dullEnough_54 : decode cX9_dullEnough 54 = .ok (.getfield 20, 3) := by decide +kernel
theorem dX9_dullEnough_57 : decode cX9_dullEnough 57 = .ok (.iload_n 2, 1) := by decide +kernel
theorem dX9_dullEnough_58 : decode cX9_dullEnough 58 = .ok (.aload_n 1, 1) := by decide +kernel
theorem dX9_dullEnough_59 : decode cX9_dullEnough 59 = .ok (.getfield 62, 3) := by decide +kernel
theorem dX9_dullEnough_62 : decode cX9_dullEnough 62 = .ok (.iload_n 2, 1) := by decide +kernel
theorem dX9_dullEnough_63 : decode cX9_dullEnough 63 = .ok (.iaload, 1) := by decide +kernel
theorem dX9_dullEnough_64 : decode cX9_dullEnough 64 = .ok (.invokevirtual 111, 3) := by decide +kernel
theorem dX9_dullEnough_67 : decode cX9_dullEnough 67 = .ok (.ifCond .ne 5, 3) := by decide +kernel
theorem dX9_dullEnough_70 : decode cX9_dullEnough 70 = .ok (.iload_n 3, 1) := by decide +kernel
theorem dX9_dullEnough_71 : decode cX9_dullEnough 71 = .ok (.ireturn, 1) := by decide +kernel
theorem dX9_dullEnough_72 : decode cX9_dullEnough 72 = .ok (.iinc 3 1, 3) := by decide +kernel
theorem dX9_dullEnough_75 : decode cX9_dullEnough 75 = .ok (.goto (-52), 3) := by decide +kernel
theorem dX9_dullEnough_78 : decode cX9_dullEnough 78 = .ok (.bipush (-2), 2) := by decide +kernel
theorem dX9_dullEnough_80 : decode cX9_dullEnough 80 = .ok (.ireturn, 1) := by decide +kernel
theorem dX9_weeksToReading_0 : decode cX9_weeksToReading 0 = .ok (.aload_n 1, 1) := by decide +kernel
theorem dX9_weeksToReading_1 : decode cX9_weeksToReading 1 = .ok (.getfield 49, 3) := by decide +kernel
theorem dX9_weeksToReading_4 : decode cX9_weeksToReading 4 = .ok (.iload_n 2, 1) := by decide +kernel
theorem dX9_weeksToReading_5 : decode cX9_weeksToReading 5 = .ok (.invokevirtual 115, 3) := by decide +kernel
theorem dX9_weeksToReading_8 : decode cX9_weeksToReading 8 = .ok (.ifCond .ne 5, 3) := by decide +kernel
theorem dX9_weeksToReading_11 : decode cX9_weeksToReading 11 = .ok (.iconst (-1), 1) := by decide +kernel
theorem dX9_weeksToReading_12 : decode cX9_weeksToReading 12 = .ok (.ireturn, 1) := by decide +kernel
theorem dX9_weeksToReading_13 : decode cX9_weeksToReading 13 = .ok (.aload_n 0, 1) := by decide +kernel
theorem dX9_weeksToReading_14 : decode cX9_weeksToReading 14 = .ok (.getfield 20, 3) := by decide +kernel
theorem dX9_weeksToReading_17 : decode cX9_weeksToReading 17 = .ok (.aload_n 1, 1) := by decide +kernel
theorem dX9_weeksToReading_18 : decode cX9_weeksToReading 18 = .ok (.invokevirtual 24, 3) := by decide +kernel
theorem dX9_weeksToReading_21 : decode cX9_weeksToReading 21 = .ok (.aload_n 0, 1) := by decide +kernel
theorem dX9_weeksToReading_22 : decode cX9_weeksToReading 22 = .ok (.getfield 20, 3) := by decide +kernel
theorem dX9_weeksToReading_25 : decode cX9_weeksToReading 25 = .ok (.getfield 118, 3) := by decide +kernel
theorem dX9_weeksToReading_28 : decode cX9_weeksToReading 28 = .ok (.iload_n 2, 1) := by decide +kernel
theorem dX9_weeksToReading_29 : decode cX9_weeksToReading 29 = .ok (.iconst 0, 1) := by decide +kernel
theorem dX9_weeksToReading_30 : decode cX9_weeksToReading 30 = .ok (.iastore, 1) := by decide +kernel
theorem dX9_weeksToReading_31 : decode cX9_weeksToReading 31 = .ok (.iconst 1, 1) := by decide +kernel
theorem dX9_weeksToReading_32 : decode cX9_weeksToReading 32 = .ok (.istore_n 3, 1) := by decide +kernel
theorem dX9_weeksToReading_33 : decode cX9_weeksToReading 33 = .ok (.iload_n 3, 1) := by decide +kernel
theorem dX9_weeksToReading_34 : decode cX9_weeksToReading 34 = .ok (.bipush 99, 2) := by decide +kernel
theorem dX9_weeksToReading_36 : decode cX9_weeksToReading 36 = .ok (.if_icmp .gt 33, 3) := by decide +kernel
theorem dX9_weeksToReading_39 : decode cX9_weeksToReading 39 = .ok (.aload_n 0, 1) := by decide +kernel
theorem dX9_weeksToReading_40 : decode cX9_weeksToReading 40 = .ok (.getfield 20, 3) := by decide +kernel
theorem dX9_weeksToReading_43 : decode cX9_weeksToReading 43 = .ok (.iconst 1, 1) := by decide +kernel
theorem dX9_weeksToReading_44 : decode cX9_weeksToReading 44 = .ok (.iconst 0, 1) := by decide +kernel
theorem dX9_weeksToReading_45 : decode cX9_weeksToReading 45 = .ok (.invokevirtual 28, 3) := by decide +kernel
theorem dX9_weeksToReading_48 : decode cX9_weeksToReading 48 = .ok (.aload_n 0, 1) := by decide +kernel
theorem dX9_weeksToReading_49 : decode cX9_weeksToReading 49 = .ok (.getfield 20, 3) := by decide +kernel
theorem dX9_weeksToReading_52 : decode cX9_weeksToReading 52 = .ok (.getfield 118, 3) := by decide +kernel
theorem dX9_weeksToReading_55 : decode cX9_weeksToReading 55 = .ok (.iload_n 2, 1) := by decide +kernel
theorem dX9_weeksToReading_56 : decode cX9_weeksToReading 56 = .ok (.iaload, 1) := by decide +kernel
theorem dX9_weeksToReading_57 : decode cX9_weeksToReading 57 = .ok (.iconst 1, 1) := by decide +kernel
theorem dX9_weeksToReading_58 : decode cX9_weeksToReading 58 = .ok (.if_icmp .ne 5, 3) := by decide +kernel
theorem dX9_weeksToReading_61 : decode cX9_weeksToReading 61 = .ok (.iload_n 3, 1) := by decide +kernel
theorem dX9_weeksToReading_62 : decode cX9_weeksToReading 62 = .ok (.ireturn, 1) := by decide +kernel
theorem dX9_weeksToReading_63 : decode cX9_weeksToReading 63 = .ok (.iinc 3 1, 3) := by decide +kernel
theorem dX9_weeksToReading_66 : decode cX9_weeksToReading 66 = .ok (.goto (-33), 3) := by decide +kernel
theorem dX9_weeksToReading_69 : decode cX9_weeksToReading 69 = .ok (.bipush (-2), 2) := by decide +kernel
theorem dX9_weeksToReading_71 : decode cX9_weeksToReading 71 = .ok (.ireturn, 1) := by decide +kernel
theorem dX9_richestIn_0 : decode cX9_richestIn 0 = .ok (.aload_n 0, 1) := by decide +kernel
theorem dX9_richestIn_1 : decode cX9_richestIn 1 = .ok (.getfield 20, 3) := by decide +kernel
theorem dX9_richestIn_4 : decode cX9_richestIn 4 = .ok (.aload_n 1, 1) := by decide +kernel
theorem dX9_richestIn_5 : decode cX9_richestIn 5 = .ok (.invokevirtual 24, 3) := by decide +kernel
theorem dX9_richestIn_8 : decode cX9_richestIn 8 = .ok (.aload_n 0, 1) := by decide +kernel
theorem dX9_richestIn_9 : decode cX9_richestIn 9 = .ok (.getfield 20, 3) := by decide +kernel
theorem dX9_richestIn_12 : decode cX9_richestIn 12 = .ok (.iload_n 2, 1) := by decide +kernel
theorem dX9_richestIn_13 : decode cX9_richestIn 13 = .ok (.iconst 0, 1) := by decide +kernel
theorem dX9_richestIn_14 : decode cX9_richestIn 14 = .ok (.invokevirtual 28, 3) := by decide +kernel
theorem dX9_richestIn_17 : decode cX9_richestIn 17 = .ok (.aload_n 0, 1) := by decide +kernel
theorem dX9_richestIn_18 : decode cX9_richestIn 18 = .ok (.getfield 20, 3) := by decide +kernel
theorem dX9_richestIn_21 : decode cX9_richestIn 21 = .ok (.aload_n 0, 1) := by decide +kernel
theorem dX9_richestIn_22 : decode cX9_richestIn 22 = .ok (.getfield 20, 3) := by decide +kernel
theorem dX9_richestIn_25 : decode cX9_richestIn 25 = .ok (.getfield 121, 3) := by decide +kernel
theorem dX9_richestIn_28 : decode cX9_richestIn 28 = .ok (.invokevirtual 124, 3) := by decide +kernel
theorem dX9_richestIn_31 : decode cX9_richestIn 31 = .ok (.ireturn, 1) := by decide +kernel
theorem dX9_skillsBy_0 : decode cX9_skillsBy 0 = .ok (.aload_n 1, 1) := by decide +kernel
theorem dX9_skillsBy_1 : decode cX9_skillsBy 1 = .ok (.invokevirtual 127, 3) := by decide +kernel
theorem dX9_skillsBy_4 : decode cX9_skillsBy 4 = .ok (.aload_n 1, 1) := by decide +kernel
theorem dX9_skillsBy_5 : decode cX9_skillsBy 5 = .ok (.invokevirtual 132, 3) := by decide +kernel
theorem dX9_skillsBy_8 : decode cX9_skillsBy 8 = .ok (.istore 4, 2) := by decide +kernel
theorem dX9_skillsBy_10 : decode cX9_skillsBy 10 = .ok (.iconst 0, 1) := by decide +kernel
theorem dX9_skillsBy_11 : decode cX9_skillsBy 11 = .ok (.istore 5, 2) := by decide +kernel
theorem dX9_skillsBy_13 : decode cX9_skillsBy 13 = .ok (.iconst 0, 1) := by decide +kernel
theorem dX9_skillsBy_14 : decode cX9_skillsBy 14 = .ok (.istore 6, 2) := by decide +kernel
theorem dX9_skillsBy_16 : decode cX9_skillsBy 16 = .ok (.iload 6, 2) := by decide +kernel
theorem dX9_skillsBy_18 : decode cX9_skillsBy 18 = .ok (.bipush 9, 2) := by decide +kernel
theorem dX9_skillsBy_20 : decode cX9_skillsBy 20 = .ok (.if_icmp .gt 99, 3) := by decide +kernel
theorem dX9_skillsBy_23 : decode cX9_skillsBy 23 = .ok (.aload_n 2, 1) := by decide +kernel
theorem dX9_skillsBy_24 : decode cX9_skillsBy 24 = .ok (.iload_n 3, 1) := by decide +kernel
theorem dX9_skillsBy_25 : decode cX9_skillsBy 25 = .ok (.invokevirtual 135, 3) := by decide +kernel
theorem dX9_skillsBy_28 : decode cX9_skillsBy 28 = .ok (.ifCond .eq 91, 3) := by decide +kernel
theorem dX9_skillsBy_31 : decode cX9_skillsBy 31 = .ok (.aload_n 0, 1) := by decide +kernel
theorem dX9_skillsBy_32 : decode cX9_skillsBy 32 = .ok (.getfield 20, 3) := by decide +kernel
theorem dX9_skillsBy_35 : decode cX9_skillsBy 35 = .ok (.aload_n 2, 1) := by decide +kernel
theorem dX9_skillsBy_36 : decode cX9_skillsBy 36 = .ok (.invokevirtual 138, 3) := by decide +kernel
theorem dX9_skillsBy_39 : decode cX9_skillsBy 39 = .ok (.aload_n 0, 1) := by decide +kernel
theorem dX9_skillsBy_40 : decode cX9_skillsBy 40 = .ok (.getfield 20, 3) := by decide +kernel
theorem dX9_skillsBy_43 : decode cX9_skillsBy 43 = .ok (.getfield 141, 3) := by decide +kernel
theorem dX9_skillsBy_46 : decode cX9_skillsBy 46 = .ok (.iload_n 3, 1) := by decide +kernel
theorem dX9_skillsBy_47 : decode cX9_skillsBy 47 = .ok (.iload 6, 2) := by decide +kernel
theorem dX9_skillsBy_49 : decode cX9_skillsBy 49 = .ok (.iastore, 1) := by decide +kernel
theorem dX9_skillsBy_50 : decode cX9_skillsBy 50 = .ok (.iconst 1, 1) := by decide +kernel
theorem dX9_skillsBy_51 : decode cX9_skillsBy 51 = .ok (.istore 7, 2) := by decide +kernel
theorem dX9_skillsBy_53 : decode cX9_skillsBy 53 = .ok (.iconst 1, 1) := by decide +kernel
theorem dX9_skillsBy_54 : decode cX9_skillsBy 54 = .ok (.istore 8, 2) := by decide +kernel
theorem dX9_skillsBy_56 : decode cX9_skillsBy 56 = .ok (.iload 8, 2) := by decide +kernel
theorem dX9_skillsBy_58 : decode cX9_skillsBy 58 = .ok (.iload 4, 2) := by decide +kernel
theorem dX9_skillsBy_60 : decode cX9_skillsBy 60 = .ok (.if_icmp .gt 35, 3) := by decide +kernel
theorem dX9_skillsBy_63 : decode cX9_skillsBy 63 = .ok (.iload 7, 2) := by decide +kernel
theorem dX9_skillsBy_65 : decode cX9_skillsBy 65 = .ok (.ifCond .eq 30, 3) := by decide +kernel
theorem dX9_skillsBy_68 : decode cX9_skillsBy 68 = .ok (.aload_n 0, 1) := by decide +kernel
theorem dX9_skillsBy_69 : decode cX9_skillsBy 69 = .ok (.getfield 20, 3) := by decide +kernel
theorem dX9_skillsBy_72 : decode cX9_skillsBy 72 = .ok (.iconst 1, 1) := by decide +kernel
theorem dX9_skillsBy_73 : decode cX9_skillsBy 73 = .ok (.iconst 0, 1) := by decide +kernel
theorem dX9_skillsBy_74 : decode cX9_skillsBy 74 = .ok (.invokevirtual 28, 3) := by decide +kernel
theorem dX9_skillsBy_77 : decode cX9_skillsBy 77 = .ok (.aload_n 1, 1) := by decide +kernel
theorem dX9_skillsBy_78 : decode cX9_skillsBy 78 = .ok (.aload_n 0, 1) := by decide +kernel
theorem dX9_skillsBy_79 : decode cX9_skillsBy 79 = .ok (.getfield 20, 3) := by decide +kernel
theorem dX9_skillsBy_82 : decode cX9_skillsBy 82 = .ok (.iload 8, 2) := by decide +kernel
theorem dX9_skillsBy_84 : decode cX9_skillsBy 84 = .ok (.invokevirtual 144, 3) := by decide +kernel
theorem dX9_skillsBy_87 : decode cX9_skillsBy 87 = .ok (.istore 7, 2) := by decide +kernel
theorem dX9_skillsBy_89 : decode cX9_skillsBy 89 = .ok (.iinc 8 1, 3) := by decide +kernel
theorem dX9_skillsBy_92 : decode cX9_skillsBy 92 = .ok (.goto (-36), 3) := by decide +kernel
theorem dX9_skillsBy_95 : decode cX9_skillsBy 95 = .ok (.iload 5, 2) := by decide +kernel
theorem dX9_skillsBy_97 : decode cX9_skillsBy 97 = .ok (.iload 7, 2) := by decide +kernel
theorem dX9_skillsBy_99 : decode cX9_skillsBy 99 = .ok (.ifCond .eq 10, 3) := by decide +kernel
theorem dX9_skillsBy_102 : decode cX9_skillsBy 102 = .ok (.iconst 1, 1) := by decide +kernel
theorem dX9_skillsBy_103 : decode cX9_skillsBy 103 = .ok (.iload 6, 2) := by decide +kernel
theorem dX9_skillsBy_105 : decode cX9_skillsBy 105 = .ok (.ishl, 1) := by decide +kernel
theorem dX9_skillsBy_106 : decode cX9_skillsBy 106 = .ok (.goto 4, 3) := by decide +kernel
theorem dX9_skillsBy_109 : decode cX9_skillsBy 109 = .ok (.iconst 0, 1) := by decide +kernel
theorem dX9_skillsBy_110 : decode cX9_skillsBy 110 = .ok (.ior, 1) := by decide +kernel
theorem dX9_skillsBy_111 : decode cX9_skillsBy 111 = .ok (.istore 5, 2) := by decide +kernel
theorem dX9_skillsBy_113 : decode cX9_skillsBy 113 = .ok (.iinc 6 1, 3) := by decide +kernel
theorem dX9_skillsBy_116 : decode cX9_skillsBy 116 = .ok (.goto (-100), 3) := by decide +kernel
theorem dX9_skillsBy_119 : decode cX9_skillsBy 119 = .ok (.iload 5, 2) := by decide +kernel
theorem dX9_skillsBy_121 : decode cX9_skillsBy 121 = .ok (.ireturn, 1) := by decide +kernel
theorem dX9_timesPaid_0 : decode cX9_timesPaid 0 = .ok (.iconst 0, 1) := by decide +kernel
theorem dX9_timesPaid_1 : decode cX9_timesPaid 1 = .ok (.istore 5, 2) := by decide +kernel
theorem dX9_timesPaid_3 : decode cX9_timesPaid 3 = .ok (.iload_n 2, 1) := by decide +kernel
theorem dX9_timesPaid_4 : decode cX9_timesPaid 4 = .ok (.istore 6, 2) := by decide +kernel
theorem dX9_timesPaid_6 : decode cX9_timesPaid 6 = .ok (.iconst 0, 1) := by decide +kernel
theorem dX9_timesPaid_7 : decode cX9_timesPaid 7 = .ok (.istore 7, 2) := by decide +kernel
theorem dX9_timesPaid_9 : decode cX9_timesPaid 9 = .ok (.iload 7, 2) := by decide +kernel
theorem dX9_timesPaid_11 : decode cX9_timesPaid 11 = .ok (.bipush 10, 2) := by decide +kernel
theorem dX9_timesPaid_13 : decode cX9_timesPaid 13 = .ok (.if_icmp .ge 82, 3) := by decide +kernel
theorem dX9_timesPaid_16 : decode cX9_timesPaid 16 = .ok (.aload_n 0, 1) := by decide +kernel
theorem dX9_timesPaid_17 : decode cX9_timesPaid 17 = .ok (.getfield 20, 3) := by decide +kernel
theorem dX9_timesPaid_20 : decode cX9_timesPaid 20 = .ok (.aload_n 1, 1) := by decide +kernel
theorem dX9_timesPaid_21 : decode cX9_timesPaid 21 = .ok (.invokevirtual 24, 3) := by decide +kernel
theorem dX9_timesPaid_24 : decode cX9_timesPaid 24 = .ok (.aload_n 0, 1) := by decide +kernel
theorem dX9_timesPaid_25 : decode cX9_timesPaid 25 = .ok (.getfield 20, 3) := by decide +kernel
theorem dX9_timesPaid_28 : decode cX9_timesPaid 28 = .ok (.iload 6, 2) := by decide +kernel
theorem dX9_timesPaid_30 : decode cX9_timesPaid 30 = .ok (.putfield 148, 3) := by decide +kernel
theorem dX9_timesPaid_33 : decode cX9_timesPaid 33 = .ok (.aload_n 0, 1) := by decide +kernel
theorem dX9_timesPaid_34 : decode cX9_timesPaid 34 = .ok (.getfield 20, 3) := by decide +kernel
theorem dX9_timesPaid_37 : decode cX9_timesPaid 37 = .ok (.iload_n 3, 1) := by decide +kernel
theorem dX9_timesPaid_38 : decode cX9_timesPaid 38 = .ok (.iconst 1, 1) := by decide +kernel
theorem dX9_timesPaid_39 : decode cX9_timesPaid 39 = .ok (.invokevirtual 28, 3) := by decide +kernel
theorem dX9_timesPaid_42 : decode cX9_timesPaid 42 = .ok (.aload_n 0, 1) := by decide +kernel
theorem dX9_timesPaid_43 : decode cX9_timesPaid 43 = .ok (.getfield 20, 3) := by decide +kernel
theorem dX9_timesPaid_46 : decode cX9_timesPaid 46 = .ok (.getfield 148, 3) := by decide +kernel
theorem dX9_timesPaid_49 : decode cX9_timesPaid 49 = .ok (.istore 6, 2) := by decide +kernel
theorem dX9_timesPaid_51 : decode cX9_timesPaid 51 = .ok (.iload 5, 2) := by decide +kernel
theorem dX9_timesPaid_53 : decode cX9_timesPaid 53 = .ok (.aload_n 0, 1) := by decide +kernel
theorem dX9_timesPaid_54 : decode cX9_timesPaid 54 = .ok (.getfield 20, 3) := by decide +kernel
theorem dX9_timesPaid_57 : decode cX9_timesPaid 57 = .ok (.aload_n 0, 1) := by decide +kernel
theorem dX9_timesPaid_58 : decode cX9_timesPaid 58 = .ok (.getfield 20, 3) := by decide +kernel
theorem dX9_timesPaid_61 : decode cX9_timesPaid 61 = .ok (.getfield 32, 3) := by decide +kernel
theorem dX9_timesPaid_64 : decode cX9_timesPaid 64 = .ok (.invokevirtual 35, 3) := by decide +kernel
theorem dX9_timesPaid_67 : decode cX9_timesPaid 67 = .ok (.aload_n 1, 1) := by decide +kernel
theorem dX9_timesPaid_68 : decode cX9_timesPaid 68 = .ok (.aload_n 1, 1) := by decide +kernel
theorem dX9_timesPaid_69 : decode cX9_timesPaid 69 = .ok (.getfield 32, 3) := by decide +kernel
theorem dX9_timesPaid_72 : decode cX9_timesPaid 72 = .ok (.invokevirtual 35, 3) := by decide +kernel
theorem dX9_timesPaid_75 : decode cX9_timesPaid 75 = .ok (.isub, 1) := by decide +kernel
theorem dX9_timesPaid_76 : decode cX9_timesPaid 76 = .ok (.iload 4, 2) := by decide +kernel
theorem dX9_timesPaid_78 : decode cX9_timesPaid 78 = .ok (.if_icmp .lt 7, 3) := by decide +kernel
theorem dX9_timesPaid_81 : decode cX9_timesPaid 81 = .ok (.iconst 1, 1) := by decide +kernel
theorem dX9_timesPaid_82 : decode cX9_timesPaid 82 = .ok (.goto 4, 3) := by decide +kernel
theorem dX9_timesPaid_85 : decode cX9_timesPaid 85 = .ok (.iconst 0, 1) := by decide +kernel
theorem dX9_timesPaid_86 : decode cX9_timesPaid 86 = .ok (.iadd, 1) := by decide +kernel
theorem dX9_timesPaid_87 : decode cX9_timesPaid 87 = .ok (.istore 5, 2) := by decide +kernel
theorem dX9_timesPaid_89 : decode cX9_timesPaid 89 = .ok (.iinc 7 1, 3) := by decide +kernel
theorem dX9_timesPaid_92 : decode cX9_timesPaid 92 = .ok (.goto (-83), 3) := by decide +kernel
theorem dX9_timesPaid_95 : decode cX9_timesPaid 95 = .ok (.iload 5, 2) := by decide +kernel
theorem dX9_timesPaid_97 : decode cX9_timesPaid 97 = .ok (.ireturn, 1) := by decide +kernel
theorem dX9_paidIf_0 : decode cX9_paidIf 0 = .ok (.aload_n 0, 1) := by decide +kernel
theorem dX9_paidIf_1 : decode cX9_paidIf 1 = .ok (.getfield 20, 3) := by decide +kernel
theorem dX9_paidIf_4 : decode cX9_paidIf 4 = .ok (.aload_n 1, 1) := by decide +kernel
theorem dX9_paidIf_5 : decode cX9_paidIf 5 = .ok (.invokevirtual 24, 3) := by decide +kernel
theorem dX9_paidIf_8 : decode cX9_paidIf 8 = .ok (.iload_n 2, 1) := by decide +kernel
theorem dX9_paidIf_9 : decode cX9_paidIf 9 = .ok (.tableswitch 82 0 3 #[31, 45, 59, 67], 31) := by decide +kernel
theorem dX9_paidIf_40 : decode cX9_paidIf 40 = .ok (.aload_n 0, 1) := by decide +kernel
theorem dX9_paidIf_41 : decode cX9_paidIf 41 = .ok (.getfield 20, 3) := by decide +kernel
theorem dX9_paidIf_44 : decode cX9_paidIf 44 = .ok (.getfield 151, 3) := by decide +kernel
theorem dX9_paidIf_47 : decode cX9_paidIf 47 = .ok (.iconst 0, 1) := by decide +kernel
theorem dX9_paidIf_48 : decode cX9_paidIf 48 = .ok (.invokestatic 154, 3) := by decide +kernel
theorem dX9_paidIf_51 : decode cX9_paidIf 51 = .ok (.goto 52, 3) := by decide +kernel
theorem dX9_paidIf_54 : decode cX9_paidIf 54 = .ok (.aload_n 0, 1) := by decide +kernel
theorem dX9_paidIf_55 : decode cX9_paidIf 55 = .ok (.getfield 20, 3) := by decide +kernel
theorem dX9_paidIf_58 : decode cX9_paidIf 58 = .ok (.getfield 108, 3) := by decide +kernel
theorem dX9_paidIf_61 : decode cX9_paidIf 61 = .ok (.iconst 0, 1) := by decide +kernel
theorem dX9_paidIf_62 : decode cX9_paidIf 62 = .ok (.invokestatic 154, 3) := by decide +kernel
theorem dX9_paidIf_65 : decode cX9_paidIf 65 = .ok (.goto 38, 3) := by decide +kernel
theorem dX9_paidIf_68 : decode cX9_paidIf 68 = .ok (.aload_n 0, 1) := by decide +kernel
theorem dX9_paidIf_69 : decode cX9_paidIf 69 = .ok (.iload_n 3, 1) := by decide +kernel
theorem dX9_paidIf_70 : decode cX9_paidIf 70 = .ok (.invokevirtual 160, 3) := by decide +kernel
theorem dX9_paidIf_73 : decode cX9_paidIf 73 = .ok (.goto 30, 3) := by decide +kernel
theorem dX9_paidIf_76 : decode cX9_paidIf 76 = .ok (.aload_n 0, 1) := by decide +kernel
theorem dX9_paidIf_77 : decode cX9_paidIf 77 = .ok (.getfield 20, 3) := by decide +kernel
theorem dX9_paidIf_80 : decode cX9_paidIf 80 = .ok (.getfield 164, 3) := by decide +kernel
theorem dX9_paidIf_83 : decode cX9_paidIf 83 = .ok (.bipush 15, 2) := by decide +kernel
theorem dX9_paidIf_85 : decode cX9_paidIf 85 = .ok (.invokestatic 154, 3) := by decide +kernel
theorem dX9_paidIf_88 : decode cX9_paidIf 88 = .ok (.goto 15, 3) := by decide +kernel
theorem dX9_paidIf_91 : decode cX9_paidIf 91 = .ok (.aload_n 0, 1) := by decide +kernel
theorem dX9_paidIf_92 : decode cX9_paidIf 92 = .ok (.getfield 20, 3) := by decide +kernel
theorem dX9_paidIf_95 : decode cX9_paidIf 95 = .ok (.getfield 141, 3) := by decide +kernel
theorem dX9_paidIf_98 : decode cX9_paidIf 98 = .ok (.bipush 9, 2) := by decide +kernel
theorem dX9_paidIf_100 : decode cX9_paidIf 100 = .ok (.invokestatic 154, 3) := by decide +kernel
theorem dX9_paidIf_103 : decode cX9_paidIf 103 = .ok (.aload_n 0, 1) := by decide +kernel
theorem dX9_paidIf_104 : decode cX9_paidIf 104 = .ok (.getfield 20, 3) := by decide +kernel
theorem dX9_paidIf_107 : decode cX9_paidIf 107 = .ok (.iload 4, 2) := by decide +kernel
theorem dX9_paidIf_109 : decode cX9_paidIf 109 = .ok (.iconst 0, 1) := by decide +kernel
theorem dX9_paidIf_110 : decode cX9_paidIf 110 = .ok (.invokevirtual 28, 3) := by decide +kernel
theorem dX9_paidIf_113 : decode cX9_paidIf 113 = .ok (.aload_n 0, 1) := by decide +kernel
theorem dX9_paidIf_114 : decode cX9_paidIf 114 = .ok (.getfield 20, 3) := by decide +kernel
theorem dX9_paidIf_117 : decode cX9_paidIf 117 = .ok (.aload_n 0, 1) := by decide +kernel
theorem dX9_paidIf_118 : decode cX9_paidIf 118 = .ok (.getfield 20, 3) := by decide +kernel
theorem dX9_paidIf_121 : decode cX9_paidIf 121 = .ok (.getfield 32, 3) := by decide +kernel
theorem dX9_paidIf_124 : decode cX9_paidIf 124 = .ok (.invokevirtual 35, 3) := by decide +kernel
theorem dX9_paidIf_127 : decode cX9_paidIf 127 = .ok (.aload_n 1, 1) := by decide +kernel
theorem dX9_paidIf_128 : decode cX9_paidIf 128 = .ok (.aload_n 1, 1) := by decide +kernel
theorem dX9_paidIf_129 : decode cX9_paidIf 129 = .ok (.getfield 32, 3) := by decide +kernel
theorem dX9_paidIf_132 : decode cX9_paidIf 132 = .ok (.invokevirtual 35, 3) := by decide +kernel
theorem dX9_paidIf_135 : decode cX9_paidIf 135 = .ok (.isub, 1) := by decide +kernel
theorem dX9_paidIf_136 : decode cX9_paidIf 136 = .ok (.ireturn, 1) := by decide +kernel
theorem dX9_thinkNothing_0 : decode cX9_thinkNothing 0 = .ok (.iconst 0, 1) := by decide +kernel
theorem dX9_thinkNothing_1 : decode cX9_thinkNothing 1 = .ok (.istore_n 2, 1) := by decide +kernel
theorem dX9_thinkNothing_2 : decode cX9_thinkNothing 2 = .ok (.iload_n 2, 1) := by decide +kernel
theorem dX9_thinkNothing_3 : decode cX9_thinkNothing 3 = .ok (.aload_n 0, 1) := by decide +kernel
theorem dX9_thinkNothing_4 : decode cX9_thinkNothing 4 = .ok (.getfield 20, 3) := by decide +kernel
theorem dX9_thinkNothing_7 : decode cX9_thinkNothing 7 = .ok (.getfield 49, 3) := by decide +kernel
theorem dX9_thinkNothing_10 : decode cX9_thinkNothing 10 = .ok (.getfield 93, 3) := by decide +kernel
theorem dX9_thinkNothing_13 : decode cX9_thinkNothing 13 = .ok (.if_icmp .ge 53, 3) := by decide +kernel
theorem dX9_thinkNothing_16 : decode cX9_thinkNothing 16 = .ok (.iload_n 2, 1) := by decide +kernel
theorem dX9_thinkNothing_17 : decode cX9_thinkNothing 17 = .ok (.bipush 12, 2) := by decide +kernel
theorem dX9_thinkNothing_19 : decode cX9_thinkNothing 19 = .ok (.if_icmp .ge 47, 3) := by decide +kernel
theorem dX9_thinkNothing_22 : decode cX9_thinkNothing 22 = .ok (.aload_n 0, 1) := by decide +kernel
theorem dX9_thinkNothing_23 : decode cX9_thinkNothing 23 = .ok (.getfield 20, 3) := by decide +kernel
theorem dX9_thinkNothing_26 : decode cX9_thinkNothing 26 = .ok (.getfield 99, 3) := by decide +kernel
theorem dX9_thinkNothing_29 : decode cX9_thinkNothing 29 = .ok (.iload_n 2, 1) := by decide +kernel
theorem dX9_thinkNothing_30 : decode cX9_thinkNothing 30 = .ok (.iaload, 1) := by decide +kernel
theorem dX9_thinkNothing_31 : decode cX9_thinkNothing 31 = .ok (.ifCond .ne 29, 3) := by decide +kernel
theorem dX9_thinkNothing_34 : decode cX9_thinkNothing 34 = .ok (.aload_n 0, 1) := by decide +kernel
theorem dX9_thinkNothing_35 : decode cX9_thinkNothing 35 = .ok (.getfield 20, 3) := by decide +kernel
theorem dX9_thinkNothing_38 : decode cX9_thinkNothing 38 = .ok (.getfield 49, 3) := by decide +kernel
theorem dX9_thinkNothing_41 : decode cX9_thinkNothing 41 = .ok (.getfield 96, 3) := by decide +kernel
theorem dX9_thinkNothing_44 : decode cX9_thinkNothing 44 = .ok (.iload_n 2, 1) := by decide +kernel
theorem dX9_thinkNothing_45 : decode cX9_thinkNothing 45 = .ok (.iaload, 1) := by decide +kernel
theorem dX9_thinkNothing_46 : decode cX9_thinkNothing 46 = .ok (.iload_n 1, 1) := by decide +kernel
theorem dX9_thinkNothing_47 : decode cX9_thinkNothing 47 = .ok (.if_icmp .ne 13, 3) := by decide +kernel
theorem dX9_thinkNothing_50 : decode cX9_thinkNothing 50 = .ok (.aload_n 0, 1) := by decide +kernel
theorem dX9_thinkNothing_51 : decode cX9_thinkNothing 51 = .ok (.getfield 20, 3) := by decide +kernel
theorem dX9_thinkNothing_54 : decode cX9_thinkNothing 54 = .ok (.getfield 99, 3) := by decide +kernel
theorem dX9_thinkNothing_57 : decode cX9_thinkNothing 57 = .ok (.iload_n 2, 1) := by decide +kernel
theorem dX9_thinkNothing_58 : decode cX9_thinkNothing 58 = .ok (.iconst 2, 1) := by decide +kernel
theorem dX9_thinkNothing_59 : decode cX9_thinkNothing 59 = .ok (.iastore, 1) := by decide +kernel
theorem dX9_thinkNothing_60 : decode cX9_thinkNothing 60 = .ok (.iinc 2 1, 3) := by decide +kernel
theorem dX9_thinkNothing_63 : decode cX9_thinkNothing 63 = .ok (.goto (-61), 3) := by decide +kernel
theorem dX9_thinkNothing_66 : decode cX9_thinkNothing 66 = .ok (.return_, 1) := by decide +kernel
theorem dX10_init_0 : decode cX10_init 0 = .ok (.aload_n 0, 1) := by decide +kernel
theorem dX10_init_1 : decode cX10_init 1 = .ok (.invokespecial 3, 3) := by decide +kernel
theorem dX10_init_4 : decode cX10_init 4 = .ok (.aload_n 0, 1) := by decide +kernel
theorem dX10_init_5 : decode cX10_init 5 = .ok (.bipush 6, 2) := by decide +kernel
theorem dX10_init_7 : decode cX10_init 7 = .ok (.newarray .int, 2) := by decide +kernel
theorem dX10_init_9 : decode cX10_init 9 = .ok (.putfield 9, 3) := by decide +kernel
theorem dX10_init_12 : decode cX10_init 12 = .ok (.aload_n 0, 1) := by decide +kernel
theorem dX10_init_13 : decode cX10_init 13 = .ok (.bipush 6, 2) := by decide +kernel
theorem dX10_init_15 : decode cX10_init 15 = .ok (.newarray .int, 2) := by decide +kernel
theorem dX10_init_17 : decode cX10_init 17 = .ok (.putfield 15, 3) := by decide +kernel
theorem dX10_init_20 : decode cX10_init 20 = .ok (.aload_n 0, 1) := by decide +kernel
theorem dX10_init_21 : decode cX10_init 21 = .ok (.bipush 6, 2) := by decide +kernel
theorem dX10_init_23 : decode cX10_init 23 = .ok (.newarray .int, 2) := by decide +kernel
theorem dX10_init_25 : decode cX10_init 25 = .ok (.putfield 18, 3) := by decide +kernel
theorem dX10_init_28 : decode cX10_init 28 = .ok (.aload_n 0, 1) := by decide +kernel
theorem dX10_init_29 : decode cX10_init 29 = .ok (.bipush 6, 2) := by decide +kernel
theorem dX10_init_31 : decode cX10_init 31 = .ok (.newarray .int, 2) := by decide +kernel
theorem dX10_init_33 : decode cX10_init 33 = .ok (.putfield 21, 3) := by decide +kernel
theorem dX10_init_36 : decode cX10_init 36 = .ok (.aload_n 0, 1) := by decide +kernel
theorem dX10_init_37 : decode cX10_init 37 = .ok (.bipush 6, 2) := by decide +kernel
theorem dX10_init_39 : decode cX10_init 39 = .ok (.newarray .int, 2) := by decide +kernel
theorem dX10_init_41 : decode cX10_init 41 = .ok (.putfield 24, 3) := by decide +kernel
theorem dX10_init_44 : decode cX10_init 44 = .ok (.aload_n 0, 1) := by decide +kernel
theorem dX10_init_45 : decode cX10_init 45 = .ok (.bipush 6, 2) := by decide +kernel
theorem dX10_init_47 : decode cX10_init 47 = .ok (.newarray .int, 2) := by decide +kernel
theorem dX10_init_49 : decode cX10_init 49 = .ok (.putfield 27, 3) := by decide +kernel
theorem dX10_init_52 : decode cX10_init 52 = .ok (.aload_n 0, 1) := by decide +kernel
theorem dX10_init_53 : decode cX10_init 53 = .ok (.bipush 12, 2) := by decide +kernel
theorem dX10_init_55 : decode cX10_init 55 = .ok (.newarray .int, 2) := by decide +kernel
theorem dX10_init_57 : decode cX10_init 57 = .ok (.putfield 30, 3) := by decide +kernel
theorem dX10_init_60 : decode cX10_init 60 = .ok (.aload_n 0, 1) := by decide +kernel
theorem dX10_init_61 : decode cX10_init 61 = .ok (.bipush 12, 2) := by decide +kernel
theorem dX10_init_63 : decode cX10_init 63 = .ok (.newarray .int, 2) := by decide +kernel
theorem dX10_init_65 : decode cX10_init 65 = .ok (.putfield 33, 3) := by decide +kernel
theorem dX10_init_68 : decode cX10_init 68 = .ok (.aload_n 0, 1) := by decide +kernel
theorem dX10_init_69 : decode cX10_init 69 = .ok (.bipush 12, 2) := by decide +kernel
theorem dX10_init_71 : decode cX10_init 71 = .ok (.newarray .int, 2) := by decide +kernel
theorem dX10_init_73 : decode cX10_init 73 = .ok (.putfield 36, 3) := by decide +kernel
theorem dX10_init_76 : decode cX10_init 76 = .ok (.aload_n 0, 1) := by decide +kernel
theorem dX10_init_77 : decode cX10_init 77 = .ok (.iconst 4, 1) := by decide +kernel
theorem dX10_init_78 : decode cX10_init 78 = .ok (.newarray .int, 2) := by decide +kernel
theorem dX10_init_80 : decode cX10_init 80 = .ok (.putfield 39, 3) := by decide +kernel
theorem dX10_init_83 : decode cX10_init 83 = .ok (.aload_n 0, 1) := by decide +kernel
theorem dX10_init_84 : decode cX10_init 84 = .ok (.iconst 4, 1) := by decide +kernel
theorem dX10_init_85 : decode cX10_init 85 = .ok (.newarray .int, 2) := by decide +kernel
theorem dX10_init_87 : decode cX10_init 87 = .ok (.putfield 42, 3) := by decide +kernel
theorem dX10_init_90 : decode cX10_init 90 = .ok (.aload_n 0, 1) := by decide +kernel
theorem dX10_init_91 : decode cX10_init 91 = .ok (.bipush 7, 2) := by decide +kernel
theorem dX10_init_93 : decode cX10_init 93 = .ok (.newarray .long, 2) := by decide +kernel
theorem dX10_init_95 : decode cX10_init 95 = .ok (.putfield 45, 3) := by decide +kernel
theorem dX10_init_98 : decode cX10_init 98 = .ok (.aload_n 0, 1) := by decide +kernel
theorem dX10_init_99 : decode cX10_init 99 = .ok (.aload_n 1, 1) := by decide +kernel
theorem dX10_init_100 : decode cX10_init 100 = .ok (.putfield 49, 3) := by decide +kernel
theorem dX10_init_103 : decode cX10_init 103 = .ok (.return_, 1) := by decide +kernel
theorem dX10_begin_0 : decode cX10_begin 0 = .ok (.aload_n 0, 1) := by decide +kernel
theorem dX10_begin_1 : decode cX10_begin 1 = .ok (.aload_n 1, 1) := by decide +kernel
theorem dX10_begin_2 : decode cX10_begin 2 = .ok (.putfield 49, 3) := by decide +kernel
theorem dX10_begin_5 : decode cX10_begin 5 = .ok (.aload_n 0, 1) := by decide +kernel
theorem dX10_begin_6 : decode cX10_begin 6 = .ok (.iconst 0, 1) := by decide +kernel
theorem dX10_begin_7 : decode cX10_begin 7 = .ok (.putfield 53, 3) := by decide +kernel
theorem dX10_begin_10 : decode cX10_begin 10 = .ok (.aload_n 0, 1) := by decide +kernel
theorem dX10_begin_11 : decode cX10_begin 11 = .ok (.aload_n 1, 1) := by decide +kernel
theorem dX10_begin_12 : decode cX10_begin 12 = .ok (.getfield 57, 3) := by decide +kernel
theorem dX10_begin_15 : decode cX10_begin 15 = .ok (.putfield 62, 3) := by decide +kernel
theorem dX10_begin_18 : decode cX10_begin 18 = .ok (.aload_n 0, 1) := by decide +kernel
theorem dX10_begin_19 : decode cX10_begin 19 = .ok (.aload_n 1, 1) := by decide +kernel
theorem dX10_begin_20 : decode cX10_begin 20 = .ok (.getfield 63, 3) := by decide +kernel
theorem dX10_begin_23 : decode cX10_begin 23 = .ok (.putfield 66, 3) := by decide +kernel
theorem dX10_begin_26 : decode cX10_begin 26 = .ok (.aload_n 1, 1) := by decide +kernel
theorem dX10_begin_27 : decode cX10_begin 27 = .ok (.getfield 69, 3) := by decide +kernel
theorem dX10_begin_30 : decode cX10_begin 30 = .ok (.iconst 0, 1) := by decide +kernel
theorem dX10_begin_31 : decode cX10_begin 31 = .ok (.aload_n 0, 1) := by decide +kernel
theorem dX10_begin_32 : decode cX10_begin 32 = .ok (.getfield 9, 3) := by decide +kernel
theorem dX10_begin_35 : decode cX10_begin 35 = .ok (.iconst 0, 1) := by decide +kernel
theorem dX10_begin_36 : decode cX10_begin 36 = .ok (.bipush 6, 2) := by decide +kernel
theorem dX10_begin_38 : decode cX10_begin 38 = .ok (.invokestatic 70, 3) := by decide +kernel
theorem dX10_begin_41 : decode cX10_begin 41 = .ok (.aload_n 1, 1) := by decide +kernel
theorem dX10_begin_42 : decode cX10_begin 42 = .ok (.getfield 76, 3) := by decide +kernel
theorem dX10_begin_45 : decode cX10_begin 45 = .ok (.iconst 0, 1) := by decide +kernel
theorem dX10_begin_46 : decode cX10_begin 46 = .ok (.aload_n 0, 1) := by decide +kernel
theorem dX10_begin_47 : decode cX10_begin 47 = .ok (.getfield 15, 3) := by decide +kernel
theorem dX10_begin_50 : decode cX10_begin 50 = .ok (.iconst 0, 1) := by decide +kernel
theorem dX10_begin_51 : decode cX10_begin 51 = .ok (.bipush 6, 2) := by decide +kernel
theorem dX10_begin_53 : decode cX10_begin 53 = .ok (.invokestatic 70, 3) := by decide +kernel
theorem dX10_begin_56 : decode cX10_begin 56 = .ok (.aload_n 0, 1) := by decide +kernel
theorem dX10_begin_57 : decode cX10_begin 57 = .ok (.getfield 18, 3) := by decide +kernel
theorem dX10_begin_60 : decode cX10_begin 60 = .ok (.iconst 0, 1) := by decide +kernel
theorem dX10_begin_61 : decode cX10_begin 61 = .ok (.invokestatic 77, 3) := by decide +kernel
theorem dX10_begin_64 : decode cX10_begin 64 = .ok (.aload_n 0, 1) := by decide +kernel
theorem dX10_begin_65 : decode cX10_begin 65 = .ok (.getfield 21, 3) := by decide +kernel
theorem dX10_begin_68 : decode cX10_begin 68 = .ok (.iconst 0, 1) := by decide +kernel
theorem dX10_begin_69 : decode cX10_begin 69 = .ok (.invokestatic 77, 3) := by decide +kernel
theorem dX10_begin_72 : decode cX10_begin 72 = .ok (.aload_n 0, 1) := by decide +kernel
theorem dX10_begin_73 : decode cX10_begin 73 = .ok (.getfield 24, 3) := by decide +kernel
theorem dX10_begin_76 : decode cX10_begin 76 = .ok (.iconst 0, 1) := by decide +kernel
theorem dX10_begin_77 : decode cX10_begin 77 = .ok (.invokestatic 77, 3) := by decide +kernel
theorem dX10_begin_80 : decode cX10_begin 80 = .ok (.iconst 0, 1) := by decide +kernel
theorem dX10_begin_81 : decode cX10_begin 81 = .ok (.istore_n 2, 1) := by decide +kernel
theorem dX10_begin_82 : decode cX10_begin 82 = .ok (.iload_n 2, 1) := by decide +kernel
theorem dX10_begin_83 : decode cX10_begin 83 = .ok (.bipush 6, 2) := by decide +kernel
theorem dX10_begin_85 : decode cX10_begin 85 = .ok (.if_icmp .ge 32, 3) := by decide +kernel
theorem dX10_begin_88 : decode cX10_begin 88 = .ok (.aload_n 0, 1) := by decide +kernel
theorem dX10_begin_89 : decode cX10_begin 89 = .ok (.getfield 27, 3) := by decide +kernel
theorem dX10_begin_92 : decode cX10_begin 92 = .ok (.iload_n 2, 1) := by decide +kernel
theorem dX10_begin_93 : decode cX10_begin 93 = .ok (.aload_n 1, 1) := by decide +kernel
theorem dX10_begin_94 : decode cX10_begin 94 = .ok (.getfield 83, 3) := by decide +kernel
theorem dX10_begin_97 : decode cX10_begin 97 = .ok (.ifCond .le 12, 3) := by decide +kernel
theorem dX10_begin_100 : decode cX10_begin 100 = .ok (.iload_n 2, 1) := by decide +kernel
theorem dX10_begin_101 : decode cX10_begin 101 = .ok (.aload_n 1, 1) := by decide +kernel
theorem dX10_begin_102 : decode cX10_begin 102 = .ok (.getfield 83, 3) := by decide +kernel
theorem dX10_begin_105 : decode cX10_begin 105 = .ok (.irem, 1) := by decide +kernel
theorem dX10_begin_106 : decode cX10_begin 106 = .ok (.goto 4, 3) := by decide +kernel
theorem dX10_begin_109 : decode cX10_begin 109 = .ok (.iconst (-1), 1) := by decide +kernel
theorem dX10_begin_110 : decode cX10_begin 110 = .ok (.iastore, 1) := by decide +kernel
theorem dX10_begin_111 : decode cX10_begin 111 = .ok (.iinc 2 1, 3) := by decide +kernel
theorem dX10_begin_114 : decode cX10_begin 114 = .ok (.goto (-32), 3) := by decide +kernel
theorem dX10_begin_117 : decode cX10_begin 117 = .ok (.aload_n 0, 1) := by decide +kernel
theorem dX10_begin_118 : decode cX10_begin 118 = .ok (.getfield 30, 3) := by decide +kernel
theorem dX10_begin_121 : decode cX10_begin 121 = .ok (.iconst 0, 1) := by decide +kernel
theorem dX10_begin_122 : decode cX10_begin 122 = .ok (.invokestatic 77, 3) := by decide +kernel
theorem dX10_begin_125 : decode cX10_begin 125 = .ok (.aload_n 0, 1) := by decide +kernel
theorem dX10_begin_126 : decode cX10_begin 126 = .ok (.getfield 33, 3) := by decide +kernel
theorem dX10_begin_129 : decode cX10_begin 129 = .ok (.iconst (-1), 1) := by decide +kernel
theorem dX10_begin_130 : decode cX10_begin 130 = .ok (.invokestatic 77, 3) := by decide +kernel
theorem dX10_begin_133 : decode cX10_begin 133 = .ok (.aload_n 0, 1) := by decide +kernel
theorem dX10_begin_134 : decode cX10_begin 134 = .ok (.getfield 36, 3) := by decide +kernel
theorem dX10_begin_137 : decode cX10_begin 137 = .ok (.iconst 0, 1) := by decide +kernel
theorem dX10_begin_138 : decode cX10_begin 138 = .ok (.invokestatic 77, 3) := by decide +kernel
theorem dX10_begin_141 : decode cX10_begin 141 = .ok (.aload_n 1, 1) := by decide +kernel
theorem dX10_begin_142 : decode cX10_begin 142 = .ok (.getfield 86, 3) := by decide +kernel
theorem dX10_begin_145 : decode cX10_begin 145 = .ok (.iconst 0, 1) := by decide +kernel
theorem dX10_begin_146 : decode cX10_begin 146 = .ok (.aload_n 0, 1) := by decide +kernel
theorem dX10_begin_147 : decode cX10_begin 147 = .ok (.getfield 39, 3) := by decide +kernel
theorem dX10_begin_150 : decode cX10_begin 150 = .ok (.iconst 0, 1) := by decide +kernel
theorem dX10_begin_151 : decode cX10_begin 151 = .ok (.iconst 4, 1) := by decide +kernel
theorem dX10_begin_152 : decode cX10_begin 152 = .ok (.invokestatic 70, 3) := by decide +kernel
theorem dX10_begin_155 : decode cX10_begin 155 = .ok (.aload_n 1, 1) := by decide +kernel
theorem dX10_begin_156 : decode cX10_begin 156 = .ok (.getfield 87, 3) := by decide +kernel
theorem dX10_begin_159 : decode cX10_begin 159 = .ok (.iconst 0, 1) := by decide +kernel
theorem dX10_begin_160 : decode cX10_begin 160 = .ok (.aload_n 0, 1) := by decide +kernel
theorem dX10_begin_161 : decode cX10_begin 161 = .ok (.getfield 42, 3) := by decide +kernel
theorem dX10_begin_164 : decode cX10_begin 164 = .ok (.iconst 0, 1) := by decide +kernel
theorem dX10_begin_165 : decode cX10_begin 165 = .ok (.iconst 4, 1) := by decide +kernel
theorem dX10_begin_166 : decode cX10_begin 166 = .ok (.invokestatic 70, 3) := by decide +kernel
theorem dX10_begin_169 : decode cX10_begin 169 = .ok (.return_, 1) := by decide +kernel
theorem dX10_copy_0 : decode cX10_copy 0 = .ok (.aload_n 0, 1) := by decide +kernel
theorem dX10_copy_1 : decode cX10_copy 1 = .ok (.aload_n 1, 1) := by decide +kernel
theorem dX10_copy_2 : decode cX10_copy 2 = .ok (.getfield 49, 3) := by decide +kernel
theorem dX10_copy_5 : decode cX10_copy 5 = .ok (.putfield 49, 3) := by decide +kernel
theorem dX10_copy_8 : decode cX10_copy 8 = .ok (.aload_n 0, 1) := by decide +kernel
theorem dX10_copy_9 : decode cX10_copy 9 = .ok (.aload_n 1, 1) := by decide +kernel
theorem dX10_copy_10 : decode cX10_copy 10 = .ok (.getfield 53, 3) := by decide +kernel
theorem dX10_copy_13 : decode cX10_copy 13 = .ok (.putfield 53, 3) := by decide +kernel
theorem dX10_copy_16 : decode cX10_copy 16 = .ok (.aload_n 0, 1) := by decide +kernel
theorem dX10_copy_17 : decode cX10_copy 17 = .ok (.aload_n 1, 1) := by decide +kernel
theorem dX10_copy_18 : decode cX10_copy 18 = .ok (.getfield 62, 3) := by decide +kernel
theorem dX10_copy_21 : decode cX10_copy 21 = .ok (.putfield 62, 3) := by decide +kernel
theorem dX10_copy_24 : decode cX10_copy 24 = .ok (.aload_n 0, 1) := by decide +kernel
theorem dX10_copy_25 : decode cX10_copy 25 = .ok (.aload_n 1, 1) := by decide +kernel
theorem dX10_copy_26 : decode cX10_copy 26 = .ok (.getfield 66, 3) := by decide +kernel
theorem dX10_copy_29 : decode cX10_copy 29 = .ok (.putfield 66, 3) := by decide +kernel
theorem dX10_copy_32 : decode cX10_copy 32 = .ok (.aload_n 1, 1) := by decide +kernel
theorem dX10_copy_33 : decode cX10_copy 33 = .ok (.getfield 9, 3) := by decide +kernel
theorem dX10_copy_36 : decode cX10_copy 36 = .ok (.iconst 0, 1) := by decide +kernel
theorem dX10_copy_37 : decode cX10_copy 37 = .ok (.aload_n 0, 1) := by decide +kernel
theorem dX10_copy_38 : decode cX10_copy 38 = .ok (.getfield 9, 3) := by decide +kernel
theorem dX10_copy_41 : decode cX10_copy 41 = .ok (.iconst 0, 1) := by decide +kernel
theorem dX10_copy_42 : decode cX10_copy 42 = .ok (.bipush 6, 2) := by decide +kernel
theorem dX10_copy_44 : decode cX10_copy 44 = .ok (.invokestatic 70, 3) := by decide +kernel
theorem dX10_copy_47 : decode cX10_copy 47 = .ok (.aload_n 1, 1) := by decide +kernel
theorem dX10_copy_48 : decode cX10_copy 48 = .ok (.getfield 15, 3) := by decide +kernel
theorem dX10_copy_51 : decode cX10_copy 51 = .ok (.iconst 0, 1) := by decide +kernel
theorem dX10_copy_52 : decode cX10_copy 52 = .ok (.aload_n 0, 1) := by decide +kernel
theorem dX10_copy_53 : decode cX10_copy 53 = .ok (.getfield 15, 3) := by decide +kernel
theorem dX10_copy_56 : decode cX10_copy 56 = .ok (.iconst 0, 1) := by decide +kernel
theorem dX10_copy_57 : decode cX10_copy 57 = .ok (.bipush 6, 2) := by decide +kernel
theorem dX10_copy_59 : decode cX10_copy 59 = .ok (.invokestatic 70, 3) := by decide +kernel
theorem dX10_copy_62 : decode cX10_copy 62 = .ok (.aload_n 1, 1) := by decide +kernel
theorem dX10_copy_63 : decode cX10_copy 63 = .ok (.getfield 18, 3) := by decide +kernel
theorem dX10_copy_66 : decode cX10_copy 66 = .ok (.iconst 0, 1) := by decide +kernel
theorem dX10_copy_67 : decode cX10_copy 67 = .ok (.aload_n 0, 1) := by decide +kernel
theorem dX10_copy_68 : decode cX10_copy 68 = .ok (.getfield 18, 3) := by decide +kernel
theorem dX10_copy_71 : decode cX10_copy 71 = .ok (.iconst 0, 1) := by decide +kernel
theorem dX10_copy_72 : decode cX10_copy 72 = .ok (.bipush 6, 2) := by decide +kernel
theorem dX10_copy_74 : decode cX10_copy 74 = .ok (.invokestatic 70, 3) := by decide +kernel
theorem dX10_copy_77 : decode cX10_copy 77 = .ok (.aload_n 1, 1) := by decide +kernel
theorem dX10_copy_78 : decode cX10_copy 78 = .ok (.getfield 21, 3) := by decide +kernel
theorem dX10_copy_81 : decode cX10_copy 81 = .ok (.iconst 0, 1) := by decide +kernel
theorem dX10_copy_82 : decode cX10_copy 82 = .ok (.aload_n 0, 1) := by decide +kernel
theorem dX10_copy_83 : decode cX10_copy 83 = .ok (.getfield 21, 3) := by decide +kernel
theorem dX10_copy_86 : decode cX10_copy 86 = .ok (.iconst 0, 1) := by decide +kernel
theorem dX10_copy_87 : decode cX10_copy 87 = .ok (.bipush 6, 2) := by decide +kernel
theorem dX10_copy_89 : decode cX10_copy 89 = .ok (.invokestatic 70, 3) := by decide +kernel
theorem dX10_copy_92 : decode cX10_copy 92 = .ok (.aload_n 1, 1) := by decide +kernel
theorem dX10_copy_93 : decode cX10_copy 93 = .ok (.getfield 24, 3) := by decide +kernel
theorem dX10_copy_96 : decode cX10_copy 96 = .ok (.iconst 0, 1) := by decide +kernel
theorem dX10_copy_97 : decode cX10_copy 97 = .ok (.aload_n 0, 1) := by decide +kernel
theorem dX10_copy_98 : decode cX10_copy 98 = .ok (.getfield 24, 3) := by decide +kernel
theorem dX10_copy_101 : decode cX10_copy 101 = .ok (.iconst 0, 1) := by decide +kernel
theorem dX10_copy_102 : decode cX10_copy 102 = .ok (.bipush 6, 2) := by decide +kernel
theorem dX10_copy_104 : decode cX10_copy 104 = .ok (.invokestatic 70, 3) := by decide +kernel
theorem dX10_copy_107 : decode cX10_copy 107 = .ok (.aload_n 1, 1) := by decide +kernel
theorem dX10_copy_108 : decode cX10_copy 108 = .ok (.getfield 27, 3) := by decide +kernel
theorem dX10_copy_111 : decode cX10_copy 111 = .ok (.iconst 0, 1) := by decide +kernel
theorem dX10_copy_112 : decode cX10_copy 112 = .ok (.aload_n 0, 1) := by decide +kernel
theorem dX10_copy_113 : decode cX10_copy 113 = .ok (.getfield 27, 3) := by decide +kernel
theorem dX10_copy_116 : decode cX10_copy 116 = .ok (.iconst 0, 1) := by decide +kernel
theorem dX10_copy_117 : decode cX10_copy 117 = .ok (.bipush 6, 2) := by decide +kernel
