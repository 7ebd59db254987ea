theorem dX12_keepText_26 : decode cX12_keepText 26 = .ok (.getfield 216, 3) := by decide +kernel
theorem dX12_keepText_29 : decode cX12_keepText 29 = .ok (.putfield 231, 3) := by decide +kernel
theorem dX12_keepText_32 : decode cX12_keepText 32 = .ok (.aload_n 0, 1) := by decide +kernel
theorem dX12_keepText_33 : decode cX12_keepText 33 = .ok (.getfield 24, 3) := by decide +kernel
theorem dX12_keepText_36 : decode cX12_keepText 36 = .ok (.iconst 3, 1) := by decide +kernel
theorem dX12_keepText_37 : decode cX12_keepText 37 = .ok (.invokestatic 234, 3) := by decide +kernel
theorem dX12_keepText_40 : decode cX12_keepText 40 = .ok (.aload_n 0, 1) := by decide +kernel
theorem dX12_keepText_41 : decode cX12_keepText 41 = .ok (.getfield 27, 3) := by decide +kernel
theorem dX12_keepText_44 : decode cX12_keepText 44 = .ok (.bipush 6, 2) := by decide +kernel
theorem dX12_keepText_46 : decode cX12_keepText 46 = .ok (.invokestatic 234, 3) := by decide +kernel
theorem dX12_keepText_49 : decode cX12_keepText 49 = .ok (.aload_n 0, 1) := by decide +kernel
theorem dX12_keepText_50 : decode cX12_keepText 50 = .ok (.getfield 30, 3) := by decide +kernel
theorem dX12_keepText_53 : decode cX12_keepText 53 = .ok (.bipush 6, 2) := by decide +kernel
theorem dX12_keepText_55 : decode cX12_keepText 55 = .ok (.invokestatic 234, 3) := by decide +kernel
theorem dX12_keepText_58 : decode cX12_keepText 58 = .ok (.aload_n 0, 1) := by decide +kernel
theorem dX12_keepText_59 : decode cX12_keepText 59 = .ok (.getfield 33, 3) := by decide +kernel
theorem dX12_keepText_62 : decode cX12_keepText 62 = .ok (.bipush 6, 2) := by decide +kernel
theorem dX12_keepText_64 : decode cX12_keepText 64 = .ok (.invokestatic 234, 3) := by decide +kernel
theorem dX12_keepText_67 : decode cX12_keepText 67 = .ok (.aload_n 0, 1) := by decide +kernel
theorem dX12_keepText_68 : decode cX12_keepText 68 = .ok (.getfield 36, 3) := by decide +kernel
theorem dX12_keepText_71 : decode cX12_keepText 71 = .ok (.bipush 12, 2) := by decide +kernel
theorem dX12_keepText_73 : decode cX12_keepText 73 = .ok (.invokestatic 234, 3) := by decide +kernel
theorem dX12_keepText_76 : decode cX12_keepText 76 = .ok (.aload_n 0, 1) := by decide +kernel
theorem dX12_keepText_77 : decode cX12_keepText 77 = .ok (.getfield 39, 3) := by decide +kernel
theorem dX12_keepText_80 : decode cX12_keepText 80 = .ok (.bipush 12, 2) := by decide +kernel
theorem dX12_keepText_82 : decode cX12_keepText 82 = .ok (.invokestatic 234, 3) := by decide +kernel
theorem dX12_keepText_85 : decode cX12_keepText 85 = .ok (.aload_n 0, 1) := by decide +kernel
theorem dX12_keepText_86 : decode cX12_keepText 86 = .ok (.getfield 42, 3) := by decide +kernel
theorem dX12_keepText_89 : decode cX12_keepText 89 = .ok (.bipush 12, 2) := by decide +kernel
theorem dX12_keepText_91 : decode cX12_keepText 91 = .ok (.invokestatic 234, 3) := by decide +kernel
theorem dX12_keepText_94 : decode cX12_keepText 94 = .ok (.aload_n 0, 1) := by decide +kernel
theorem dX12_keepText_95 : decode cX12_keepText 95 = .ok (.getfield 45, 3) := by decide +kernel
theorem dX12_keepText_98 : decode cX12_keepText 98 = .ok (.bipush 12, 2) := by decide +kernel
theorem dX12_keepText_100 : decode cX12_keepText 100 = .ok (.invokestatic 234, 3) := by decide +kernel
theorem dX12_keepText_103 : decode cX12_keepText 103 = .ok (.aload_n 0, 1) := by decide +kernel
theorem dX12_keepText_104 : decode cX12_keepText 104 = .ok (.getfield 48, 3) := by decide +kernel
theorem dX12_keepText_107 : decode cX12_keepText 107 = .ok (.iconst 4, 1) := by decide +kernel
theorem dX12_keepText_108 : decode cX12_keepText 108 = .ok (.invokestatic 234, 3) := by decide +kernel
theorem dX12_keepText_111 : decode cX12_keepText 111 = .ok (.aload_n 0, 1) := by decide +kernel
theorem dX12_keepText_112 : decode cX12_keepText 112 = .ok (.getfield 51, 3) := by decide +kernel
theorem dX12_keepText_115 : decode cX12_keepText 115 = .ok (.iconst 4, 1) := by decide +kernel
theorem dX12_keepText_116 : decode cX12_keepText 116 = .ok (.invokestatic 234, 3) := by decide +kernel
theorem dX12_keepText_119 : decode cX12_keepText 119 = .ok (.aload_n 0, 1) := by decide +kernel
theorem dX12_keepText_120 : decode cX12_keepText 120 = .ok (.getfield 54, 3) := by decide +kernel
theorem dX12_keepText_123 : decode cX12_keepText 123 = .ok (.iconst 4, 1) := by decide +kernel
theorem dX12_keepText_124 : decode cX12_keepText 124 = .ok (.invokestatic 234, 3) := by decide +kernel
theorem dX12_keepText_127 : decode cX12_keepText 127 = .ok (.iconst 0, 1) := by decide +kernel
theorem dX12_keepText_128 : decode cX12_keepText 128 = .ok (.istore_n 1, 1) := by decide +kernel
theorem dX12_keepText_129 : decode cX12_keepText 129 = .ok (.iload_n 1, 1) := by decide +kernel
theorem dX12_keepText_130 : decode cX12_keepText 130 = .ok (.iconst 3, 1) := by decide +kernel
theorem dX12_keepText_131 : decode cX12_keepText 131 = .ok (.if_icmp .ge 23, 3) := by decide +kernel
theorem dX12_keepText_134 : decode cX12_keepText 134 = .ok (.aload_n 0, 1) := by decide +kernel
theorem dX12_keepText_135 : decode cX12_keepText 135 = .ok (.getfield 57, 3) := by decide +kernel
theorem dX12_keepText_138 : decode cX12_keepText 138 = .ok (.iload_n 1, 1) := by decide +kernel
theorem dX12_keepText_139 : decode cX12_keepText 139 = .ok (.aload_n 0, 1) := by decide +kernel
theorem dX12_keepText_140 : decode cX12_keepText 140 = .ok (.getfield 57, 3) := by decide +kernel
theorem dX12_keepText_143 : decode cX12_keepText 143 = .ok (.iconst 3, 1) := by decide +kernel
theorem dX12_keepText_144 : decode cX12_keepText 144 = .ok (.iload_n 1, 1) := by decide +kernel
theorem dX12_keepText_145 : decode cX12_keepText 145 = .ok (.iadd, 1) := by decide +kernel
theorem dX12_keepText_146 : decode cX12_keepText 146 = .ok (.baload, 1) := by decide +kernel
theorem dX12_keepText_147 : decode cX12_keepText 147 = .ok (.bastore, 1) := by decide +kernel
theorem dX12_keepText_148 : decode cX12_keepText 148 = .ok (.iinc 1 1, 3) := by decide +kernel
theorem dX12_keepText_151 : decode cX12_keepText 151 = .ok (.goto (-22), 3) := by decide +kernel
theorem dX12_keepText_154 : decode cX12_keepText 154 = .ok (.aload_n 0, 1) := by decide +kernel
theorem dX12_keepText_155 : decode cX12_keepText 155 = .ok (.getfield 60, 3) := by decide +kernel
theorem dX12_keepText_158 : decode cX12_keepText 158 = .ok (.iconst 3, 1) := by decide +kernel
theorem dX12_keepText_159 : decode cX12_keepText 159 = .ok (.invokestatic 234, 3) := by decide +kernel
theorem dX12_keepText_162 : decode cX12_keepText 162 = .ok (.aload_n 0, 1) := by decide +kernel
theorem dX12_keepText_163 : decode cX12_keepText 163 = .ok (.getfield 63, 3) := by decide +kernel
theorem dX12_keepText_166 : decode cX12_keepText 166 = .ok (.iconst 3, 1) := by decide +kernel
theorem dX12_keepText_167 : decode cX12_keepText 167 = .ok (.invokestatic 234, 3) := by decide +kernel
theorem dX12_keepText_170 : decode cX12_keepText 170 = .ok (.aload_n 0, 1) := by decide +kernel
theorem dX12_keepText_171 : decode cX12_keepText 171 = .ok (.getfield 66, 3) := by decide +kernel
theorem dX12_keepText_174 : decode cX12_keepText 174 = .ok (.bipush 64, 2) := by decide +kernel
theorem dX12_keepText_176 : decode cX12_keepText 176 = .ok (.invokestatic 234, 3) := by decide +kernel
theorem dX12_keepText_179 : decode cX12_keepText 179 = .ok (.aload_n 0, 1) := by decide +kernel
theorem dX12_keepText_180 : decode cX12_keepText 180 = .ok (.getfield 69, 3) := by decide +kernel
theorem dX12_keepText_183 : decode cX12_keepText 183 = .ok (.bipush 64, 2) := by decide +kernel
theorem dX12_keepText_185 : decode cX12_keepText 185 = .ok (.invokestatic 234, 3) := by decide +kernel
theorem dX12_keepText_188 : decode cX12_keepText 188 = .ok (.aload_n 0, 1) := by decide +kernel
theorem dX12_keepText_189 : decode cX12_keepText 189 = .ok (.getfield 72, 3) := by decide +kernel
theorem dX12_keepText_192 : decode cX12_keepText 192 = .ok (.bipush 64, 2) := by decide +kernel
theorem dX12_keepText_194 : decode cX12_keepText 194 = .ok (.invokestatic 234, 3) := by decide +kernel
theorem dX12_keepText_197 : decode cX12_keepText 197 = .ok (.aload_n 0, 1) := by decide +kernel
theorem dX12_keepText_198 : decode cX12_keepText 198 = .ok (.invokevirtual 238, 3) := by decide +kernel
theorem dX12_keepText_201 : decode cX12_keepText 201 = .ok (.return_, 1) := by decide +kernel
theorem dX12_seek_0 : decode cX12_seek 0 = .ok (.iconst 0, 1) := by decide +kernel
theorem dX12_seek_1 : decode cX12_seek 1 = .ok (.istore 4, 2) := by decide +kernel
theorem dX12_seek_3 : decode cX12_seek 3 = .ok (.iload 4, 2) := by decide +kernel
theorem dX12_seek_5 : decode cX12_seek 5 = .ok (.iload_n 2, 1) := by decide +kernel
theorem dX12_seek_6 : decode cX12_seek 6 = .ok (.if_icmp .ge 22, 3) := by decide +kernel
theorem dX12_seek_9 : decode cX12_seek 9 = .ok (.aload_n 0, 1) := by decide +kernel
theorem dX12_seek_10 : decode cX12_seek 10 = .ok (.iload_n 1, 1) := by decide +kernel
theorem dX12_seek_11 : decode cX12_seek 11 = .ok (.iload 4, 2) := by decide +kernel
theorem dX12_seek_13 : decode cX12_seek 13 = .ok (.iadd, 1) := by decide +kernel
theorem dX12_seek_14 : decode cX12_seek 14 = .ok (.iaload, 1) := by decide +kernel
theorem dX12_seek_15 : decode cX12_seek 15 = .ok (.iload_n 3, 1) := by decide +kernel
theorem dX12_seek_16 : decode cX12_seek 16 = .ok (.if_icmp .ne 6, 3) := by decide +kernel
theorem dX12_seek_19 : decode cX12_seek 19 = .ok (.iload 4, 2) := by decide +kernel
theorem dX12_seek_21 : decode cX12_seek 21 = .ok (.ireturn, 1) := by decide +kernel
theorem dX12_seek_22 : decode cX12_seek 22 = .ok (.iinc 4 1, 3) := by decide +kernel
theorem dX12_seek_25 : decode cX12_seek 25 = .ok (.goto (-22), 3) := by decide +kernel
theorem dX12_seek_28 : decode cX12_seek 28 = .ok (.iconst (-1), 1) := by decide +kernel
theorem dX12_seek_29 : decode cX12_seek 29 = .ok (.ireturn, 1) := by decide +kernel
theorem dX12_newName_0 : decode cX12_newName 0 = .ok (.aload_n 0, 1) := by decide +kernel
theorem dX12_newName_1 : decode cX12_newName 1 = .ok (.getfield 163, 3) := by decide +kernel
theorem dX12_newName_4 : decode cX12_newName 4 = .ok (.iconst 2, 1) := by decide +kernel
theorem dX12_newName_5 : decode cX12_newName 5 = .ok (.if_icmp .eq 9, 3) := by decide +kernel
theorem dX12_newName_8 : decode cX12_newName 8 = .ok (.aload_n 0, 1) := by decide +kernel
theorem dX12_newName_9 : decode cX12_newName 9 = .ok (.iconst 1, 1) := by decide +kernel
theorem dX12_newName_10 : decode cX12_newName 10 = .ok (.invokevirtual 187, 3) := by decide +kernel
theorem dX12_newName_13 : decode cX12_newName 13 = .ok (.ireturn, 1) := by decide +kernel
theorem dX12_newName_14 : decode cX12_newName 14 = .ok (.aload_n 1, 1) := by decide +kernel
theorem dX12_newName_15 : decode cX12_newName 15 = .ok (.iload_n 2, 1) := by decide +kernel
theorem dX12_newName_16 : decode cX12_newName 16 = .ok (.iload_n 3, 1) := by decide +kernel
theorem dX12_newName_17 : decode cX12_newName 17 = .ok (.aload_n 0, 1) := by decide +kernel
theorem dX12_newName_18 : decode cX12_newName 18 = .ok (.getfield 174, 3) := by decide +kernel
theorem dX12_newName_21 : decode cX12_newName 21 = .ok (.invokestatic 241, 3) := by decide +kernel
theorem dX12_newName_24 : decode cX12_newName 24 = .ok (.ifCond .lt 9, 3) := by decide +kernel
theorem dX12_newName_27 : decode cX12_newName 27 = .ok (.aload_n 0, 1) := by decide +kernel
theorem dX12_newName_28 : decode cX12_newName 28 = .ok (.iconst 3, 1) := by decide +kernel
theorem dX12_newName_29 : decode cX12_newName 29 = .ok (.invokevirtual 187, 3) := by decide +kernel
theorem dX12_newName_32 : decode cX12_newName 32 = .ok (.ireturn, 1) := by decide +kernel
theorem dX12_newName_33 : decode cX12_newName 33 = .ok (.aload_n 1, 1) := by decide +kernel
theorem dX12_newName_34 : decode cX12_newName 34 = .ok (.iload_n 2, 1) := by decide +kernel
theorem dX12_newName_35 : decode cX12_newName 35 = .ok (.iload_n 3, 1) := by decide +kernel
theorem dX12_newName_36 : decode cX12_newName 36 = .ok (.iadd, 1) := by decide +kernel
theorem dX12_newName_37 : decode cX12_newName 37 = .ok (.aload_n 0, 1) := by decide +kernel
theorem dX12_newName_38 : decode cX12_newName 38 = .ok (.getfield 174, 3) := by decide +kernel
theorem dX12_newName_41 : decode cX12_newName 41 = .ok (.iastore, 1) := by decide +kernel
theorem dX12_newName_42 : decode cX12_newName 42 = .ok (.aload_n 0, 1) := by decide +kernel
theorem dX12_newName_43 : decode cX12_newName 43 = .ok (.invokevirtual 197, 3) := by decide +kernel
theorem dX12_newName_46 : decode cX12_newName 46 = .ok (.iconst 1, 1) := by decide +kernel
theorem dX12_newName_47 : decode cX12_newName 47 = .ok (.ireturn, 1) := by decide +kernel
theorem dX12_manLine_0 : decode cX12_manLine 0 = .ok (.aload_n 0, 1) := by decide +kernel
theorem dX12_manLine_1 : decode cX12_manLine 1 = .ok (.getfield 207, 3) := by decide +kernel
theorem dX12_manLine_4 : decode cX12_manLine 4 = .ok (.bipush 6, 2) := by decide +kernel
theorem dX12_manLine_6 : decode cX12_manLine 6 = .ok (.if_icmp .ne 9, 3) := by decide +kernel
theorem dX12_manLine_9 : decode cX12_manLine 9 = .ok (.aload_n 0, 1) := by decide +kernel
theorem dX12_manLine_10 : decode cX12_manLine 10 = .ok (.iconst 2, 1) := by decide +kernel
theorem dX12_manLine_11 : decode cX12_manLine 11 = .ok (.invokevirtual 187, 3) := by decide +kernel
theorem dX12_manLine_14 : decode cX12_manLine 14 = .ok (.ireturn, 1) := by decide +kernel
theorem dX12_manLine_15 : decode cX12_manLine 15 = .ok (.aload_n 0, 1) := by decide +kernel
theorem dX12_manLine_16 : decode cX12_manLine 16 = .ok (.invokevirtual 197, 3) := by decide +kernel
theorem dX12_manLine_19 : decode cX12_manLine 19 = .ok (.aload_n 0, 1) := by decide +kernel
theorem dX12_manLine_20 : decode cX12_manLine 20 = .ok (.aload_n 0, 1) := by decide +kernel
theorem dX12_manLine_21 : decode cX12_manLine 21 = .ok (.getfield 27, 3) := by decide +kernel
theorem dX12_manLine_24 : decode cX12_manLine 24 = .ok (.bipush 6, 2) := by decide +kernel
theorem dX12_manLine_26 : decode cX12_manLine 26 = .ok (.aload_n 0, 1) := by decide +kernel
theorem dX12_manLine_27 : decode cX12_manLine 27 = .ok (.getfield 207, 3) := by decide +kernel
theorem dX12_manLine_30 : decode cX12_manLine 30 = .ok (.invokevirtual 245, 3) := by decide +kernel
theorem dX12_manLine_33 : decode cX12_manLine 33 = .ok (.ifCond .ne 5, 3) := by decide +kernel
theorem dX12_manLine_36 : decode cX12_manLine 36 = .ok (.iconst 0, 1) := by decide +kernel
theorem dX12_manLine_37 : decode cX12_manLine 37 = .ok (.ireturn, 1) := by decide +kernel
theorem dX12_manLine_38 : decode cX12_manLine 38 = .ok (.aload_n 0, 1) := by decide +kernel
theorem dX12_manLine_39 : decode cX12_manLine 39 = .ok (.iconst 0, 1) := by decide +kernel
theorem dX12_manLine_40 : decode cX12_manLine 40 = .ok (.sipush 999, 3) := by decide +kernel
theorem dX12_manLine_43 : decode cX12_manLine 43 = .ok (.invokevirtual 203, 3) := by decide +kernel
theorem dX12_manLine_46 : decode cX12_manLine 46 = .ok (.ifCond .ne 5, 3) := by decide +kernel
theorem dX12_manLine_49 : decode cX12_manLine 49 = .ok (.iconst 0, 1) := by decide +kernel
theorem dX12_manLine_50 : decode cX12_manLine 50 = .ok (.ireturn, 1) := by decide +kernel
theorem dX12_manLine_51 : decode cX12_manLine 51 = .ok (.aload_n 0, 1) := by decide +kernel
theorem dX12_manLine_52 : decode cX12_manLine 52 = .ok (.getfield 30, 3) := by decide +kernel
theorem dX12_manLine_55 : decode cX12_manLine 55 = .ok (.bipush 6, 2) := by decide +kernel
theorem dX12_manLine_57 : decode cX12_manLine 57 = .ok (.aload_n 0, 1) := by decide +kernel
theorem dX12_manLine_58 : decode cX12_manLine 58 = .ok (.getfield 207, 3) := by decide +kernel
theorem dX12_manLine_61 : decode cX12_manLine 61 = .ok (.iadd, 1) := by decide +kernel
theorem dX12_manLine_62 : decode cX12_manLine 62 = .ok (.aload_n 0, 1) := by decide +kernel
theorem dX12_manLine_63 : decode cX12_manLine 63 = .ok (.getfield 194, 3) := by decide +kernel
theorem dX12_manLine_66 : decode cX12_manLine 66 = .ok (.iastore, 1) := by decide +kernel
theorem dX12_manLine_67 : decode cX12_manLine 67 = .ok (.aload_n 0, 1) := by decide +kernel
theorem dX12_manLine_68 : decode cX12_manLine 68 = .ok (.iconst 0, 1) := by decide +kernel
theorem dX12_manLine_69 : decode cX12_manLine 69 = .ok (.bipush 9, 2) := by decide +kernel
theorem dX12_manLine_71 : decode cX12_manLine 71 = .ok (.invokevirtual 203, 3) := by decide +kernel
theorem dX12_manLine_74 : decode cX12_manLine 74 = .ok (.ifCond .ne 5, 3) := by decide +kernel
theorem dX12_manLine_77 : decode cX12_manLine 77 = .ok (.iconst 0, 1) := by decide +kernel
theorem dX12_manLine_78 : decode cX12_manLine 78 = .ok (.ireturn, 1) := by decide +kernel
theorem dX12_manLine_79 : decode cX12_manLine 79 = .ok (.aload_n 0, 1) := by decide +kernel
theorem dX12_manLine_80 : decode cX12_manLine 80 = .ok (.getfield 33, 3) := by decide +kernel
theorem dX12_manLine_83 : decode cX12_manLine 83 = .ok (.bipush 6, 2) := by decide +kernel
theorem dX12_manLine_85 : decode cX12_manLine 85 = .ok (.aload_n 0, 1) := by decide +kernel
theorem dX12_manLine_86 : decode cX12_manLine 86 = .ok (.getfield 207, 3) := by decide +kernel
theorem dX12_manLine_89 : decode cX12_manLine 89 = .ok (.iadd, 1) := by decide +kernel
theorem dX12_manLine_90 : decode cX12_manLine 90 = .ok (.aload_n 0, 1) := by decide +kernel
theorem dX12_manLine_91 : decode cX12_manLine 91 = .ok (.getfield 194, 3) := by decide +kernel
theorem dX12_manLine_94 : decode cX12_manLine 94 = .ok (.iastore, 1) := by decide +kernel
theorem dX12_manLine_95 : decode cX12_manLine 95 = .ok (.aload_n 0, 1) := by decide +kernel
theorem dX12_manLine_96 : decode cX12_manLine 96 = .ok (.dup, 1) := by decide +kernel
theorem dX12_manLine_97 : decode cX12_manLine 97 = .ok (.getfield 207, 3) := by decide +kernel
theorem dX12_manLine_100 : decode cX12_manLine 100 = .ok (.iconst 1, 1) := by decide +kernel
theorem dX12_manLine_101 : decode cX12_manLine 101 = .ok (.iadd, 1) := by decide +kernel
theorem dX12_manLine_102 : decode cX12_manLine 102 = .ok (.putfield 207, 3) := by decide +kernel
theorem dX12_manLine_105 : decode cX12_manLine 105 = .ok (.iconst 1, 1) := by decide +kernel
theorem dX12_manLine_106 : decode cX12_manLine 106 = .ok (.ireturn, 1) := by decide +kernel
theorem dX12_thoughtLine_0 : decode cX12_thoughtLine 0 = .ok (.aload_n 0, 1) := by decide +kernel
theorem dX12_thoughtLine_1 : decode cX12_thoughtLine 1 = .ok (.getfield 210, 3) := by decide +kernel
theorem dX12_thoughtLine_4 : decode cX12_thoughtLine 4 = .ok (.bipush 12, 2) := by decide +kernel
theorem dX12_thoughtLine_6 : decode cX12_thoughtLine 6 = .ok (.if_icmp .ne 9, 3) := by decide +kernel
theorem dX12_thoughtLine_9 : decode cX12_thoughtLine 9 = .ok (.aload_n 0, 1) := by decide +kernel
theorem dX12_thoughtLine_10 : decode cX12_thoughtLine 10 = .ok (.iconst 2, 1) := by decide +kernel
theorem dX12_thoughtLine_11 : decode cX12_thoughtLine 11 = .ok (.invokevirtual 187, 3) := by decide +kernel
theorem dX12_thoughtLine_14 : decode cX12_thoughtLine 14 = .ok (.ireturn, 1) := by decide +kernel
theorem dX12_thoughtLine_15 : decode cX12_thoughtLine 15 = .ok (.aload_n 0, 1) := by decide +kernel
theorem dX12_thoughtLine_16 : decode cX12_thoughtLine 16 = .ok (.invokevirtual 197, 3) := by decide +kernel
theorem dX12_thoughtLine_19 : decode cX12_thoughtLine 19 = .ok (.aload_n 0, 1) := by decide +kernel
theorem dX12_thoughtLine_20 : decode cX12_thoughtLine 20 = .ok (.getfield 163, 3) := by decide +kernel
theorem dX12_thoughtLine_23 : decode cX12_thoughtLine 23 = .ok (.iconst 2, 1) := by decide +kernel
theorem dX12_thoughtLine_24 : decode cX12_thoughtLine 24 = .ok (.if_icmp .eq 9, 3) := by decide +kernel
theorem dX12_thoughtLine_27 : decode cX12_thoughtLine 27 = .ok (.aload_n 0, 1) := by decide +kernel
theorem dX12_thoughtLine_28 : decode cX12_thoughtLine 28 = .ok (.iconst 1, 1) := by decide +kernel
theorem dX12_thoughtLine_29 : decode cX12_thoughtLine 29 = .ok (.invokevirtual 187, 3) := by decide +kernel
theorem dX12_thoughtLine_32 : decode cX12_thoughtLine 32 = .ok (.ireturn, 1) := by decide +kernel
theorem dX12_thoughtLine_33 : decode cX12_thoughtLine 33 = .ok (.aload_n 0, 1) := by decide +kernel
theorem dX12_thoughtLine_34 : decode cX12_thoughtLine 34 = .ok (.getfield 27, 3) := by decide +kernel
theorem dX12_thoughtLine_37 : decode cX12_thoughtLine 37 = .ok (.bipush 6, 2) := by decide +kernel
theorem dX12_thoughtLine_39 : decode cX12_thoughtLine 39 = .ok (.aload_n 0, 1) := by decide +kernel
theorem dX12_thoughtLine_40 : decode cX12_thoughtLine 40 = .ok (.getfield 207, 3) := by decide +kernel
theorem dX12_thoughtLine_43 : decode cX12_thoughtLine 43 = .ok (.aload_n 0, 1) := by decide +kernel
theorem dX12_thoughtLine_44 : decode cX12_thoughtLine 44 = .ok (.getfield 174, 3) := by decide +kernel
theorem dX12_thoughtLine_47 : decode cX12_thoughtLine 47 = .ok (.invokestatic 241, 3) := by decide +kernel
theorem dX12_thoughtLine_50 : decode cX12_thoughtLine 50 = .ok (.istore_n 1, 1) := by decide +kernel
theorem dX12_thoughtLine_51 : decode cX12_thoughtLine 51 = .ok (.iload_n 1, 1) := by decide +kernel
theorem dX12_thoughtLine_52 : decode cX12_thoughtLine 52 = .ok (.ifCond .ge 9, 3) := by decide +kernel
theorem dX12_thoughtLine_55 : decode cX12_thoughtLine 55 = .ok (.aload_n 0, 1) := by decide +kernel
theorem dX12_thoughtLine_56 : decode cX12_thoughtLine 56 = .ok (.iconst 4, 1) := by decide +kernel
theorem dX12_thoughtLine_57 : decode cX12_thoughtLine 57 = .ok (.invokevirtual 187, 3) := by decide +kernel
theorem dX12_thoughtLine_60 : decode cX12_thoughtLine 60 = .ok (.ireturn, 1) := by decide +kernel
theorem dX12_thoughtLine_61 : decode cX12_thoughtLine 61 = .ok (.aload_n 0, 1) := by decide +kernel
theorem dX12_thoughtLine_62 : decode cX12_thoughtLine 62 = .ok (.invokevirtual 197, 3) := by decide +kernel
theorem dX12_thoughtLine_65 : decode cX12_thoughtLine 65 = .ok (.bipush 12, 2) := by decide +kernel
theorem dX12_thoughtLine_67 : decode cX12_thoughtLine 67 = .ok (.aload_n 0, 1) := by decide +kernel
theorem dX12_thoughtLine_68 : decode cX12_thoughtLine 68 = .ok (.getfield 210, 3) := by decide +kernel
theorem dX12_thoughtLine_71 : decode cX12_thoughtLine 71 = .ok (.iadd, 1) := by decide +kernel
theorem dX12_thoughtLine_72 : decode cX12_thoughtLine 72 = .ok (.istore_n 2, 1) := by decide +kernel
theorem dX12_thoughtLine_73 : decode cX12_thoughtLine 73 = .ok (.aload_n 0, 1) := by decide +kernel
theorem dX12_thoughtLine_74 : decode cX12_thoughtLine 74 = .ok (.getfield 36, 3) := by decide +kernel
theorem dX12_thoughtLine_77 : decode cX12_thoughtLine 77 = .ok (.iload_n 2, 1) := by decide +kernel
theorem dX12_thoughtLine_78 : decode cX12_thoughtLine 78 = .ok (.iload_n 1, 1) := by decide +kernel
theorem dX12_thoughtLine_79 : decode cX12_thoughtLine 79 = .ok (.iastore, 1) := by decide +kernel
theorem dX12_thoughtLine_80 : decode cX12_thoughtLine 80 = .ok (.aload_n 0, 1) := by decide +kernel
theorem dX12_thoughtLine_81 : decode cX12_thoughtLine 81 = .ok (.iconst 1, 1) := by decide +kernel
theorem dX12_thoughtLine_82 : decode cX12_thoughtLine 82 = .ok (.bipush 99, 2) := by decide +kernel
theorem dX12_thoughtLine_84 : decode cX12_thoughtLine 84 = .ok (.invokevirtual 203, 3) := by decide +kernel
theorem dX12_thoughtLine_87 : decode cX12_thoughtLine 87 = .ok (.ifCond .ne 5, 3) := by decide +kernel
theorem dX12_thoughtLine_90 : decode cX12_thoughtLine 90 = .ok (.iconst 0, 1) := by decide +kernel
theorem dX12_thoughtLine_91 : decode cX12_thoughtLine 91 = .ok (.ireturn, 1) := by decide +kernel
theorem dX12_thoughtLine_92 : decode cX12_thoughtLine 92 = .ok (.aload_n 0, 1) := by decide +kernel
theorem dX12_thoughtLine_93 : decode cX12_thoughtLine 93 = .ok (.getfield 39, 3) := by decide +kernel
theorem dX12_thoughtLine_96 : decode cX12_thoughtLine 96 = .ok (.iload_n 2, 1) := by decide +kernel
theorem dX12_thoughtLine_97 : decode cX12_thoughtLine 97 = .ok (.aload_n 0, 1) := by decide +kernel
theorem dX12_thoughtLine_98 : decode cX12_thoughtLine 98 = .ok (.getfield 194, 3) := by decide +kernel
theorem dX12_thoughtLine_101 : decode cX12_thoughtLine 101 = .ok (.iastore, 1) := by decide +kernel
theorem dX12_thoughtLine_102 : decode cX12_thoughtLine 102 = .ok (.aload_n 0, 1) := by decide +kernel
theorem dX12_thoughtLine_103 : decode cX12_thoughtLine 103 = .ok (.iconst 0, 1) := by decide +kernel
theorem dX12_thoughtLine_104 : decode cX12_thoughtLine 104 = .ok (.bipush 99, 2) := by decide +kernel
theorem dX12_thoughtLine_106 : decode cX12_thoughtLine 106 = .ok (.invokevirtual 203, 3) := by decide +kernel
theorem dX12_thoughtLine_109 : decode cX12_thoughtLine 109 = .ok (.ifCond .ne 5, 3) := by decide +kernel
theorem dX12_thoughtLine_112 : decode cX12_thoughtLine 112 = .ok (.iconst 0, 1) := by decide +kernel
theorem dX12_thoughtLine_113 : decode cX12_thoughtLine 113 = .ok (.ireturn, 1) := by decide +kernel
theorem dX12_thoughtLine_114 : decode cX12_thoughtLine 114 = .ok (.aload_n 0, 1) := by decide +kernel
theorem dX12_thoughtLine_115 : decode cX12_thoughtLine 115 = .ok (.getfield 42, 3) := by decide +kernel
theorem dX12_thoughtLine_118 : decode cX12_thoughtLine 118 = .ok (.iload_n 2, 1) := by decide +kernel
theorem dX12_thoughtLine_119 : decode cX12_thoughtLine 119 = .ok (.aload_n 0, 1) := by decide +kernel
theorem dX12_thoughtLine_120 : decode cX12_thoughtLine 120 = .ok (.getfield 194, 3) := by decide +kernel
theorem dX12_thoughtLine_123 : decode cX12_thoughtLine 123 = .ok (.iastore, 1) := by decide +kernel
theorem dX12_thoughtLine_124 : decode cX12_thoughtLine 124 = .ok (.aload_n 0, 1) := by decide +kernel
theorem dX12_thoughtLine_125 : decode cX12_thoughtLine 125 = .ok (.iconst 0, 1) := by decide +kernel
theorem dX12_thoughtLine_126 : decode cX12_thoughtLine 126 = .ok (.iconst 3, 1) := by decide +kernel
theorem dX12_thoughtLine_127 : decode cX12_thoughtLine 127 = .ok (.invokevirtual 203, 3) := by decide +kernel
theorem dX12_thoughtLine_130 : decode cX12_thoughtLine 130 = .ok (.ifCond .ne 5, 3) := by decide +kernel
theorem dX12_thoughtLine_133 : decode cX12_thoughtLine 133 = .ok (.iconst 0, 1) := by decide +kernel
theorem dX12_thoughtLine_134 : decode cX12_thoughtLine 134 = .ok (.ireturn, 1) := by decide +kernel
theorem dX12_thoughtLine_135 : decode cX12_thoughtLine 135 = .ok (.aload_n 0, 1) := by decide +kernel
theorem dX12_thoughtLine_136 : decode cX12_thoughtLine 136 = .ok (.getfield 45, 3) := by decide +kernel
theorem dX12_thoughtLine_139 : decode cX12_thoughtLine 139 = .ok (.iload_n 2, 1) := by decide +kernel
theorem dX12_thoughtLine_140 : decode cX12_thoughtLine 140 = .ok (.aload_n 0, 1) := by decide +kernel
theorem dX12_thoughtLine_141 : decode cX12_thoughtLine 141 = .ok (.getfield 194, 3) := by decide +kernel
theorem dX12_thoughtLine_144 : decode cX12_thoughtLine 144 = .ok (.iastore, 1) := by decide +kernel
theorem dX12_thoughtLine_145 : decode cX12_thoughtLine 145 = .ok (.aload_n 0, 1) := by decide +kernel
theorem dX12_thoughtLine_146 : decode cX12_thoughtLine 146 = .ok (.dup, 1) := by decide +kernel
theorem dX12_thoughtLine_147 : decode cX12_thoughtLine 147 = .ok (.getfield 210, 3) := by decide +kernel
theorem dX12_thoughtLine_150 : decode cX12_thoughtLine 150 = .ok (.iconst 1, 1) := by decide +kernel
theorem dX12_thoughtLine_151 : decode cX12_thoughtLine 151 = .ok (.iadd, 1) := by decide +kernel
theorem dX12_thoughtLine_152 : decode cX12_thoughtLine 152 = .ok (.putfield 210, 3) := by decide +kernel
theorem dX12_thoughtLine_155 : decode cX12_thoughtLine 155 = .ok (.iconst 1, 1) := by decide +kernel
theorem dX12_thoughtLine_156 : decode cX12_thoughtLine 156 = .ok (.ireturn, 1) := by decide +kernel
theorem dX12_readerLine_0 : decode cX12_readerLine 0 = .ok (.aload_n 0, 1) := by decide +kernel
theorem dX12_readerLine_1 : decode cX12_readerLine 1 = .ok (.getfield 213, 3) := by decide +kernel
theorem dX12_readerLine_4 : decode cX12_readerLine 4 = .ok (.iconst 4, 1) := by decide +kernel
theorem dX12_readerLine_5 : decode cX12_readerLine 5 = .ok (.if_icmp .ne 9, 3) := by decide +kernel
theorem dX12_readerLine_8 : decode cX12_readerLine 8 = .ok (.aload_n 0, 1) := by decide +kernel
theorem dX12_readerLine_9 : decode cX12_readerLine 9 = .ok (.iconst 2, 1) := by decide +kernel
theorem dX12_readerLine_10 : decode cX12_readerLine 10 = .ok (.invokevirtual 187, 3) := by decide +kernel
theorem dX12_readerLine_13 : decode cX12_readerLine 13 = .ok (.ireturn, 1) := by decide +kernel
theorem dX12_readerLine_14 : decode cX12_readerLine 14 = .ok (.aload_n 0, 1) := by decide +kernel
theorem dX12_readerLine_15 : decode cX12_readerLine 15 = .ok (.invokevirtual 197, 3) := by decide +kernel
theorem dX12_readerLine_18 : decode cX12_readerLine 18 = .ok (.aload_n 0, 1) := by decide +kernel
theorem dX12_readerLine_19 : decode cX12_readerLine 19 = .ok (.aload_n 0, 1) := by decide +kernel
theorem dX12_readerLine_20 : decode cX12_readerLine 20 = .ok (.getfield 48, 3) := by decide +kernel
theorem dX12_readerLine_23 : decode cX12_readerLine 23 = .ok (.iconst 4, 1) := by decide +kernel
theorem dX12_readerLine_24 : decode cX12_readerLine 24 = .ok (.aload_n 0, 1) := by decide +kernel
theorem dX12_readerLine_25 : decode cX12_readerLine 25 = .ok (.getfield 213, 3) := by decide +kernel
theorem dX12_readerLine_28 : decode cX12_readerLine 28 = .ok (.invokevirtual 245, 3) := by decide +kernel
theorem dX12_readerLine_31 : decode cX12_readerLine 31 = .ok (.ifCond .ne 5, 3) := by decide +kernel
theorem dX12_readerLine_34 : decode cX12_readerLine 34 = .ok (.iconst 0, 1) := by decide +kernel
theorem dX12_readerLine_35 : decode cX12_readerLine 35 = .ok (.ireturn, 1) := by decide +kernel
theorem dX12_readerLine_36 : decode cX12_readerLine 36 = .ok (.aload_n 0, 1) := by decide +kernel
theorem dX12_readerLine_37 : decode cX12_readerLine 37 = .ok (.iconst 0, 1) := by decide +kernel
theorem dX12_readerLine_38 : decode cX12_readerLine 38 = .ok (.bipush 9, 2) := by decide +kernel
theorem dX12_readerLine_40 : decode cX12_readerLine 40 = .ok (.invokevirtual 203, 3) := by decide +kernel
theorem dX12_readerLine_43 : decode cX12_readerLine 43 = .ok (.ifCond .ne 5, 3) := by decide +kernel
theorem dX12_readerLine_46 : decode cX12_readerLine 46 = .ok (.iconst 0, 1) := by decide +kernel
theorem dX12_readerLine_47 : decode cX12_readerLine 47 = .ok (.ireturn, 1) := by decide +kernel
theorem dX12_readerLine_48 : decode cX12_readerLine 48 = .ok (.aload_n 0, 1) := by decide +kernel
theorem dX12_readerLine_49 : decode cX12_readerLine 49 = .ok (.getfield 51, 3) := by decide +kernel
theorem dX12_readerLine_52 : decode cX12_readerLine 52 = .ok (.iconst 4, 1) := by decide +kernel
theorem dX12_readerLine_53 : decode cX12_readerLine 53 = .ok (.aload_n 0, 1) := by decide +kernel
theorem dX12_readerLine_54 : decode cX12_readerLine 54 = .ok (.getfield 213, 3) := by decide +kernel
theorem dX12_readerLine_57 : decode cX12_readerLine 57 = .ok (.iadd, 1) := by decide +kernel
theorem dX12_readerLine_58 : decode cX12_readerLine 58 = .ok (.aload_n 0, 1) := by decide +kernel
theorem dX12_readerLine_59 : decode cX12_readerLine 59 = .ok (.getfield 194, 3) := by decide +kernel
theorem dX12_readerLine_62 : decode cX12_readerLine 62 = .ok (.iastore, 1) := by decide +kernel
theorem dX12_readerLine_63 : decode cX12_readerLine 63 = .ok (.aload_n 0, 1) := by decide +kernel
theorem dX12_readerLine_64 : decode cX12_readerLine 64 = .ok (.iconst 0, 1) := by decide +kernel
theorem dX12_readerLine_65 : decode cX12_readerLine 65 = .ok (.bipush 15, 2) := by decide +kernel
theorem dX12_readerLine_67 : decode cX12_readerLine 67 = .ok (.invokevirtual 203, 3) := by decide +kernel
theorem dX12_readerLine_70 : decode cX12_readerLine 70 = .ok (.ifCond .ne 5, 3) := by decide +kernel
theorem dX12_readerLine_73 : decode cX12_readerLine 73 = .ok (.iconst 0, 1) := by decide +kernel
theorem dX12_readerLine_74 : decode cX12_readerLine 74 = .ok (.ireturn, 1) := by decide +kernel
theorem dX12_readerLine_75 : decode cX12_readerLine 75 = .ok (.aload_n 0, 1) := by decide +kernel
theorem dX12_readerLine_76 : decode cX12_readerLine 76 = .ok (.getfield 54, 3) := by decide +kernel
theorem dX12_readerLine_79 : decode cX12_readerLine 79 = .ok (.iconst 4, 1) := by decide +kernel
theorem dX12_readerLine_80 : decode cX12_readerLine 80 = .ok (.aload_n 0, 1) := by decide +kernel
theorem dX12_readerLine_81 : decode cX12_readerLine 81 = .ok (.getfield 213, 3) := by decide +kernel
theorem dX12_readerLine_84 : decode cX12_readerLine 84 = .ok (.iadd, 1) := by decide +kernel
theorem dX12_readerLine_85 : decode cX12_readerLine 85 = .ok (.aload_n 0, 1) := by decide +kernel
theorem dX12_readerLine_86 : decode cX12_readerLine 86 = .ok (.getfield 194, 3) := by decide +kernel
theorem dX12_readerLine_89 : decode cX12_readerLine 89 = .ok (.iastore, 1) := by decide +kernel
theorem dX12_readerLine_90 : decode cX12_readerLine 90 = .ok (.aload_n 0, 1) := by decide +kernel
theorem dX12_readerLine_91 : decode cX12_readerLine 91 = .ok (.dup, 1) := by decide +kernel
theorem dX12_readerLine_92 : decode cX12_readerLine 92 = .ok (.getfield 213, 3) := by decide +kernel
theorem dX12_readerLine_95 : decode cX12_readerLine 95 = .ok (.iconst 1, 1) := by decide +kernel
theorem dX12_readerLine_96 : decode cX12_readerLine 96 = .ok (.iadd, 1) := by decide +kernel
theorem dX12_readerLine_97 : decode cX12_readerLine 97 = .ok (.putfield 213, 3) := by decide +kernel
theorem dX12_readerLine_100 : decode cX12_readerLine 100 = .ok (.iconst 1, 1) := by decide +kernel
theorem dX12_readerLine_101 : decode cX12_readerLine 101 = .ok (.ireturn, 1) := by decide +kernel
theorem dX12_onceLine_0 : decode cX12_onceLine 0 = .ok (.aload_n 0, 1) := by decide +kernel
theorem dX12_onceLine_1 : decode cX12_onceLine 1 = .ok (.getfield 20, 3) := by decide +kernel
theorem dX12_onceLine_4 : decode cX12_onceLine 4 = .ok (.iload_n 1, 1) := by decide +kernel
theorem dX12_onceLine_5 : decode cX12_onceLine 5 = .ok (.baload, 1) := by decide +kernel
theorem dX12_onceLine_6 : decode cX12_onceLine 6 = .ok (.ifCond .eq 9, 3) := by decide +kernel
theorem dX12_onceLine_9 : decode cX12_onceLine 9 = .ok (.aload_n 0, 1) := by decide +kernel
theorem dX12_onceLine_10 : decode cX12_onceLine 10 = .ok (.iconst 3, 1) := by decide +kernel
theorem dX12_onceLine_11 : decode cX12_onceLine 11 = .ok (.invokevirtual 187, 3) := by decide +kernel
theorem dX12_onceLine_14 : decode cX12_onceLine 14 = .ok (.ireturn, 1) := by decide +kernel
theorem dX12_onceLine_15 : decode cX12_onceLine 15 = .ok (.aload_n 0, 1) := by decide +kernel
theorem dX12_onceLine_16 : decode cX12_onceLine 16 = .ok (.getfield 20, 3) := by decide +kernel
theorem dX12_onceLine_19 : decode cX12_onceLine 19 = .ok (.iload_n 1, 1) := by decide +kernel
theorem dX12_onceLine_20 : decode cX12_onceLine 20 = .ok (.iconst 1, 1) := by decide +kernel
theorem dX12_onceLine_21 : decode cX12_onceLine 21 = .ok (.bastore, 1) := by decide +kernel
theorem dX12_onceLine_22 : decode cX12_onceLine 22 = .ok (.aload_n 0, 1) := by decide +kernel
theorem dX12_onceLine_23 : decode cX12_onceLine 23 = .ok (.invokevirtual 197, 3) := by decide +kernel
theorem dX12_onceLine_26 : decode cX12_onceLine 26 = .ok (.aload_n 0, 1) := by decide +kernel
theorem dX12_onceLine_27 : decode cX12_onceLine 27 = .ok (.iload_n 2, 1) := by decide +kernel
theorem dX12_onceLine_28 : decode cX12_onceLine 28 = .ok (.iload_n 3, 1) := by decide +kernel
theorem dX12_onceLine_29 : decode cX12_onceLine 29 = .ok (.invokevirtual 203, 3) := by decide +kernel
theorem dX12_onceLine_32 : decode cX12_onceLine 32 = .ok (.ifCond .ne 5, 3) := by decide +kernel
theorem dX12_onceLine_35 : decode cX12_onceLine 35 = .ok (.iconst 0, 1) := by decide +kernel
theorem dX12_onceLine_36 : decode cX12_onceLine 36 = .ok (.ireturn, 1) := by decide +kernel
theorem dX12_onceLine_37 : decode cX12_onceLine 37 = .ok (.aload_n 0, 1) := by decide +kernel
theorem dX12_onceLine_38 : decode cX12_onceLine 38 = .ok (.getfield 24, 3) := by decide +kernel
theorem dX12_onceLine_41 : decode cX12_onceLine 41 = .ok (.iconst 3, 1) := by decide +kernel
theorem dX12_onceLine_42 : decode cX12_onceLine 42 = .ok (.iload_n 1, 1) := by decide +kernel
theorem dX12_onceLine_43 : decode cX12_onceLine 43 = .ok (.iadd, 1) := by decide +kernel
theorem dX12_onceLine_44 : decode cX12_onceLine 44 = .ok (.aload_n 0, 1) := by decide +kernel
theorem dX12_onceLine_45 : decode cX12_onceLine 45 = .ok (.getfield 194, 3) := by decide +kernel
theorem dX12_onceLine_48 : decode cX12_onceLine 48 = .ok (.iastore, 1) := by decide +kernel
theorem dX12_onceLine_49 : decode cX12_onceLine 49 = .ok (.iconst 1, 1) := by decide +kernel
theorem dX12_onceLine_50 : decode cX12_onceLine 50 = .ok (.ireturn, 1) := by decide +kernel
theorem dX12_lineRead_0 : decode cX12_lineRead 0 = .ok (.aload_n 0, 1) := by decide +kernel
theorem dX12_lineRead_1 : decode cX12_lineRead 1 = .ok (.getfield 163, 3) := by decide +kernel
theorem dX12_lineRead_4 : decode cX12_lineRead 4 = .ok (.iconst 1, 1) := by decide +kernel
theorem dX12_lineRead_5 : decode cX12_lineRead 5 = .ok (.if_icmp .ne 12, 3) := by decide +kernel
theorem dX12_lineRead_8 : decode cX12_lineRead 8 = .ok (.aload_n 0, 1) := by decide +kernel
theorem dX12_lineRead_9 : decode cX12_lineRead 9 = .ok (.getfield 174, 3) := by decide +kernel
theorem dX12_lineRead_12 : decode cX12_lineRead 12 = .ok (.bipush 6, 2) := by decide +kernel
theorem dX12_lineRead_14 : decode cX12_lineRead 14 = .ok (.if_icmp .le 9, 3) := by decide +kernel
theorem dX12_lineRead_17 : decode cX12_lineRead 17 = .ok (.aload_n 0, 1) := by decide +kernel
theorem dX12_lineRead_18 : decode cX12_lineRead 18 = .ok (.iconst 1, 1) := by decide +kernel
theorem dX12_lineRead_19 : decode cX12_lineRead 19 = .ok (.invokevirtual 187, 3) := by decide +kernel
theorem dX12_lineRead_22 : decode cX12_lineRead 22 = .ok (.ireturn, 1) := by decide +kernel
theorem dX12_lineRead_23 : decode cX12_lineRead 23 = .ok (.aload_n 0, 1) := by decide +kernel
theorem dX12_lineRead_24 : decode cX12_lineRead 24 = .ok (.getfield 174, 3) := by decide +kernel
theorem dX12_lineRead_27 : decode cX12_lineRead 27 = .ok (.tableswitch 97 0 5 #[37, 45, 53, 61, 73, 85], 37) := by decide +kernel
theorem dX12_lineRead_64 : decode cX12_lineRead 64 = .ok (.aload_n 0, 1) := by decide +kernel
theorem dX12_lineRead_65 : decode cX12_lineRead 65 = .ok (.invokevirtual 249, 3) := by decide +kernel
theorem dX12_lineRead_68 : decode cX12_lineRead 68 = .ok (.istore_n 1, 1) := by decide +kernel
theorem dX12_lineRead_69 : decode cX12_lineRead 69 = .ok (.goto 152, 3) := by decide +kernel
theorem dX12_lineRead_72 : decode cX12_lineRead 72 = .ok (.aload_n 0, 1) := by decide +kernel
theorem dX12_lineRead_73 : decode cX12_lineRead 73 = .ok (.invokevirtual 253, 3) := by decide +kernel
theorem dX12_lineRead_76 : decode cX12_lineRead 76 = .ok (.istore_n 1, 1) := by decide +kernel
theorem dX12_lineRead_77 : decode cX12_lineRead 77 = .ok (.goto 144, 3) := by decide +kernel
theorem dX12_lineRead_80 : decode cX12_lineRead 80 = .ok (.aload_n 0, 1) := by decide +kernel
theorem dX12_lineRead_81 : decode cX12_lineRead 81 = .ok (.invokevirtual 256, 3) := by decide +kernel
theorem dX12_lineRead_84 : decode cX12_lineRead 84 = .ok (.istore_n 1, 1) := by decide +kernel
theorem dX12_lineRead_85 : decode cX12_lineRead 85 = .ok (.goto 136, 3) := by decide +kernel
theorem dX12_lineRead_88 : decode cX12_lineRead 88 = .ok (.aload_n 0, 1) := by decide +kernel
theorem dX12_lineRead_89 : decode cX12_lineRead 89 = .ok (.iconst 0, 1) := by decide +kernel
theorem dX12_lineRead_90 : decode cX12_lineRead 90 = .ok (.iconst 0, 1) := by decide +kernel
theorem dX12_lineRead_91 : decode cX12_lineRead 91 = .ok (.bipush 100, 2) := by decide +kernel
theorem dX12_lineRead_93 : decode cX12_lineRead 93 = .ok (.invokevirtual 259, 3) := by decide +kernel
theorem dX12_lineRead_96 : decode cX12_lineRead 96 = .ok (.istore_n 1, 1) := by decide +kernel
theorem dX12_lineRead_97 : decode cX12_lineRead 97 = .ok (.goto 124, 3) := by decide +kernel
theorem dX12_lineRead_100 : decode cX12_lineRead 100 = .ok (.aload_n 0, 1) := by decide +kernel
theorem dX12_lineRead_101 : decode cX12_lineRead 101 = .ok (.iconst 1, 1) := by decide +kernel
theorem dX12_lineRead_102 : decode cX12_lineRead 102 = .ok (.iconst 1, 1) := by decide +kernel
theorem dX12_lineRead_103 : decode cX12_lineRead 103 = .ok (.bipush 99, 2) := by decide +kernel
theorem dX12_lineRead_105 : decode cX12_lineRead 105 = .ok (.invokevirtual 259, 3) := by decide +kernel
theorem dX12_lineRead_108 : decode cX12_lineRead 108 = .ok (.istore_n 1, 1) := by decide +kernel
theorem dX12_lineRead_109 : decode cX12_lineRead 109 = .ok (.goto 112, 3) := by decide +kernel
theorem dX12_lineRead_112 : decode cX12_lineRead 112 = .ok (.aload_n 0, 1) := by decide +kernel
theorem dX12_lineRead_113 : decode cX12_lineRead 113 = .ok (.iconst 2, 1) := by decide +kernel
theorem dX12_lineRead_114 : decode cX12_lineRead 114 = .ok (.iconst 0, 1) := by decide +kernel
theorem dX12_lineRead_115 : decode cX12_lineRead 115 = .ok (.ldc 183, 2) := by decide +kernel
theorem dX12_lineRead_117 : decode cX12_lineRead 117 = .ok (.invokevirtual 259, 3) := by decide +kernel
theorem dX12_lineRead_120 : decode cX12_lineRead 120 = .ok (.istore_n 1, 1) := by decide +kernel
theorem dX12_lineRead_121 : decode cX12_lineRead 121 = .ok (.goto 100, 3) := by decide +kernel
theorem dX12_lineRead_124 : decode cX12_lineRead 124 = .ok (.aload_n 0, 1) := by decide +kernel
theorem dX12_lineRead_125 : decode cX12_lineRead 125 = .ok (.invokevirtual 197, 3) := by decide +kernel
theorem dX12_lineRead_128 : decode cX12_lineRead 128 = .ok (.aload_n 0, 1) := by decide +kernel
theorem dX12_lineRead_129 : decode cX12_lineRead 129 = .ok (.getfield 163, 3) := by decide +kernel
theorem dX12_lineRead_132 : decode cX12_lineRead 132 = .ok (.iconst 1, 1) := by decide +kernel
theorem dX12_lineRead_133 : decode cX12_lineRead 133 = .ok (.if_icmp .ne 21, 3) := by decide +kernel
theorem dX12_lineRead_136 : decode cX12_lineRead 136 = .ok (.aload_n 0, 1) := by decide +kernel
theorem dX12_lineRead_137 : decode cX12_lineRead 137 = .ok (.getfield 174, 3) := by decide +kernel
theorem dX12_lineRead_140 : decode cX12_lineRead 140 = .ok (.bipush 7, 2) := by decide +kernel
theorem dX12_lineRead_142 : decode cX12_lineRead 142 = .ok (.if_icmp .lt 12, 3) := by decide +kernel
theorem dX12_lineRead_145 : decode cX12_lineRead 145 = .ok (.aload_n 0, 1) := by decide +kernel
theorem dX12_lineRead_146 : decode cX12_lineRead 146 = .ok (.getfield 174, 3) := by decide +kernel
theorem dX12_lineRead_149 : decode cX12_lineRead 149 = .ok (.bipush 9, 2) := by decide +kernel
theorem dX12_lineRead_151 : decode cX12_lineRead 151 = .ok (.if_icmp .le 9, 3) := by decide +kernel
theorem dX12_lineRead_154 : decode cX12_lineRead 154 = .ok (.aload_n 0, 1) := by decide +kernel
theorem dX12_lineRead_155 : decode cX12_lineRead 155 = .ok (.iconst 1, 1) := by decide +kernel
theorem dX12_lineRead_156 : decode cX12_lineRead 156 = .ok (.invokevirtual 187, 3) := by decide +kernel
theorem dX12_lineRead_159 : decode cX12_lineRead 159 = .ok (.ireturn, 1) := by decide +kernel
theorem dX12_lineRead_160 : decode cX12_lineRead 160 = .ok (.iconst 3, 1) := by decide +kernel
theorem dX12_lineRead_161 : decode cX12_lineRead 161 = .ok (.aload_n 0, 1) := by decide +kernel
theorem dX12_lineRead_162 : decode cX12_lineRead 162 = .ok (.getfield 174, 3) := by decide +kernel
theorem dX12_lineRead_165 : decode cX12_lineRead 165 = .ok (.iadd, 1) := by decide +kernel
theorem dX12_lineRead_166 : decode cX12_lineRead 166 = .ok (.bipush 7, 2) := by decide +kernel
theorem dX12_lineRead_168 : decode cX12_lineRead 168 = .ok (.isub, 1) := by decide +kernel
theorem dX12_lineRead_169 : decode cX12_lineRead 169 = .ok (.istore_n 2, 1) := by decide +kernel
theorem dX12_lineRead_170 : decode cX12_lineRead 170 = .ok (.aload_n 0, 1) := by decide +kernel
theorem dX12_lineRead_171 : decode cX12_lineRead 171 = .ok (.getfield 57, 3) := by decide +kernel
theorem dX12_lineRead_174 : decode cX12_lineRead 174 = .ok (.iload_n 2, 1) := by decide +kernel
theorem dX12_lineRead_175 : decode cX12_lineRead 175 = .ok (.baload, 1) := by decide +kernel
theorem dX12_lineRead_176 : decode cX12_lineRead 176 = .ok (.ifCond .eq 9, 3) := by decide +kernel
theorem dX12_lineRead_179 : decode cX12_lineRead 179 = .ok (.aload_n 0, 1) := by decide +kernel
theorem dX12_lineRead_180 : decode cX12_lineRead 180 = .ok (.iconst 3, 1) := by decide +kernel
theorem dX12_lineRead_181 : decode cX12_lineRead 181 = .ok (.invokevirtual 187, 3) := by decide +kernel
theorem dX12_lineRead_184 : decode cX12_lineRead 184 = .ok (.ireturn, 1) := by decide +kernel
theorem dX12_lineRead_185 : decode cX12_lineRead 185 = .ok (.aload_n 0, 1) := by decide +kernel
theorem dX12_lineRead_186 : decode cX12_lineRead 186 = .ok (.getfield 57, 3) := by decide +kernel
theorem dX12_lineRead_189 : decode cX12_lineRead 189 = .ok (.iload_n 2, 1) := by decide +kernel
theorem dX12_lineRead_190 : decode cX12_lineRead 190 = .ok (.iconst 1, 1) := by decide +kernel
theorem dX12_lineRead_191 : decode cX12_lineRead 191 = .ok (.bastore, 1) := by decide +kernel
theorem dX12_lineRead_192 : decode cX12_lineRead 192 = .ok (.aload_n 0, 1) := by decide +kernel
theorem dX12_lineRead_193 : decode cX12_lineRead 193 = .ok (.invokevirtual 197, 3) := by decide +kernel
theorem dX12_lineRead_196 : decode cX12_lineRead 196 = .ok (.aload_n 0, 1) := by decide +kernel
theorem dX12_lineRead_197 : decode cX12_lineRead 197 = .ok (.getfield 60, 3) := by decide +kernel
theorem dX12_lineRead_200 : decode cX12_lineRead 200 = .ok (.iload_n 2, 1) := by decide +kernel
theorem dX12_lineRead_201 : decode cX12_lineRead 201 = .ok (.aload_n 0, 1) := by decide +kernel
theorem dX12_lineRead_202 : decode cX12_lineRead 202 = .ok (.getfield 216, 3) := by decide +kernel
theorem dX12_lineRead_205 : decode cX12_lineRead 205 = .ok (.iastore, 1) := by decide +kernel
theorem dX12_lineRead_206 : decode cX12_lineRead 206 = .ok (.aload_n 0, 1) := by decide +kernel
theorem dX12_lineRead_207 : decode cX12_lineRead 207 = .ok (.invokevirtual 262, 3) := by decide +kernel
theorem dX12_lineRead_210 : decode cX12_lineRead 210 = .ok (.istore_n 1, 1) := by decide +kernel
theorem dX12_lineRead_211 : decode cX12_lineRead 211 = .ok (.aload_n 0, 1) := by decide +kernel
theorem dX12_lineRead_212 : decode cX12_lineRead 212 = .ok (.getfield 63, 3) := by decide +kernel
theorem dX12_lineRead_215 : decode cX12_lineRead 215 = .ok (.iload_n 2, 1) := by decide +kernel
theorem dX12_lineRead_216 : decode cX12_lineRead 216 = .ok (.aload_n 0, 1) := by decide +kernel
theorem dX12_lineRead_217 : decode cX12_lineRead 217 = .ok (.getfield 216, 3) := by decide +kernel
theorem dX12_lineRead_220 : decode cX12_lineRead 220 = .ok (.iastore, 1) := by decide +kernel
theorem dX12_lineRead_221 : decode cX12_lineRead 221 = .ok (.iload_n 1, 1) := by decide +kernel
theorem dX12_lineRead_222 : decode cX12_lineRead 222 = .ok (.ifCond .ne 5, 3) := by decide +kernel
theorem dX12_lineRead_225 : decode cX12_lineRead 225 = .ok (.iconst 0, 1) := by decide +kernel
theorem dX12_lineRead_226 : decode cX12_lineRead 226 = .ok (.ireturn, 1) := by decide +kernel
theorem dX12_lineRead_227 : decode cX12_lineRead 227 = .ok (.aload_n 0, 1) := by decide +kernel
theorem dX12_lineRead_228 : decode cX12_lineRead 228 = .ok (.bipush 59, 2) := by decide +kernel
theorem dX12_lineRead_230 : decode cX12_lineRead 230 = .ok (.invokevirtual 200, 3) := by decide +kernel
theorem dX12_lineRead_233 : decode cX12_lineRead 233 = .ok (.ifCond .ne 9, 3) := by decide +kernel
theorem dX12_lineRead_236 : decode cX12_lineRead 236 = .ok (.aload_n 0, 1) := by decide +kernel
theorem dX12_lineRead_237 : decode cX12_lineRead 237 = .ok (.iconst 1, 1) := by decide +kernel
theorem dX12_lineRead_238 : decode cX12_lineRead 238 = .ok (.invokevirtual 187, 3) := by decide +kernel
theorem dX12_lineRead_241 : decode cX12_lineRead 241 = .ok (.ireturn, 1) := by decide +kernel
theorem dX12_lineRead_242 : decode cX12_lineRead 242 = .ok (.aload_n 0, 1) := by decide +kernel
theorem dX12_lineRead_243 : decode cX12_lineRead 243 = .ok (.invokevirtual 197, 3) := by decide +kernel
theorem dX12_lineRead_246 : decode cX12_lineRead 246 = .ok (.iconst 1, 1) := by decide +kernel
theorem dX12_lineRead_247 : decode cX12_lineRead 247 = .ok (.ireturn, 1) := by decide +kernel
theorem dX12_text_0 : decode cX12_text 0 = .ok (.aload_n 0, 1) := by decide +kernel
theorem dX12_text_1 : decode cX12_text 1 = .ok (.iconst 0, 1) := by decide +kernel
theorem dX12_text_2 : decode cX12_text 2 = .ok (.putfield 145, 3) := by decide +kernel
theorem dX12_text_5 : decode cX12_text 5 = .ok (.iload_n 1, 1) := by decide +kernel
theorem dX12_text_6 : decode cX12_text 6 = .ok (.ifCond .lt 11, 3) := by decide +kernel
theorem dX12_text_9 : decode cX12_text 9 = .ok (.iload_n 1, 1) := by decide +kernel
theorem dX12_text_10 : decode cX12_text 10 = .ok (.aload_n 0, 1) := by decide +kernel
theorem dX12_text_11 : decode cX12_text 11 = .ok (.getfield 148, 3) := by decide +kernel
theorem dX12_text_14 : decode cX12_text 14 = .ok (.if_icmp .le 6, 3) := by decide +kernel
theorem dX12_text_17 : decode cX12_text 17 = .ok (.bipush (-2), 2) := by decide +kernel
theorem dX12_text_19 : decode cX12_text 19 = .ok (.ireturn, 1) := by decide +kernel
theorem dX12_text_20 : decode cX12_text 20 = .ok (.aload_n 0, 1) := by decide +kernel
theorem dX12_text_21 : decode cX12_text 21 = .ok (.iload_n 1, 1) := by decide +kernel
theorem dX12_text_22 : decode cX12_text 22 = .ok (.putfield 157, 3) := by decide +kernel
theorem dX12_text_25 : decode cX12_text 25 = .ok (.aload_n 0, 1) := by decide +kernel
theorem dX12_text_26 : decode cX12_text 26 = .ok (.iconst 0, 1) := by decide +kernel
theorem dX12_text_27 : decode cX12_text 27 = .ok (.putfield 148, 3) := by decide +kernel
theorem dX12_text_30 : decode cX12_text 30 = .ok (.aload_n 0, 1) := by decide +kernel
theorem dX12_text_31 : decode cX12_text 31 = .ok (.iconst 0, 1) := by decide +kernel
theorem dX12_text_32 : decode cX12_text 32 = .ok (.putfield 151, 3) := by decide +kernel
theorem dX12_text_35 : decode cX12_text 35 = .ok (.aload_n 0, 1) := by decide +kernel
theorem dX12_text_36 : decode cX12_text 36 = .ok (.iconst (-1), 1) := by decide +kernel
theorem dX12_text_37 : decode cX12_text 37 = .ok (.putfield 16, 3) := by decide +kernel
theorem dX12_text_40 : decode cX12_text 40 = .ok (.aload_n 0, 1) := by decide +kernel
theorem dX12_text_41 : decode cX12_text 41 = .ok (.iconst 0, 1) := by decide +kernel
theorem dX12_text_42 : decode cX12_text 42 = .ok (.putfield 160, 3) := by decide +kernel
theorem dX12_text_45 : decode cX12_text 45 = .ok (.aload_n 0, 1) := by decide +kernel
theorem dX12_text_46 : decode cX12_text 46 = .ok (.invokevirtual 139, 3) := by decide +kernel
theorem dX12_text_49 : decode cX12_text 49 = .ok (.aload_n 0, 1) := by decide +kernel
theorem dX12_text_50 : decode cX12_text 50 = .ok (.invokevirtual 197, 3) := by decide +kernel
theorem dX12_text_53 : decode cX12_text 53 = .ok (.iconst 0, 1) := by decide +kernel
theorem dX12_text_54 : decode cX12_text 54 = .ok (.istore_n 2, 1) := by decide +kernel
theorem dX12_text_55 : decode cX12_text 55 = .ok (.aload_n 0, 1) := by decide +kernel
theorem dX12_text_56 : decode cX12_text 56 = .ok (.getfield 163, 3) := by decide +kernel
theorem dX12_text_59 : decode cX12_text 59 = .ok (.ifCond .eq 18, 3) := by decide +kernel
theorem dX12_text_62 : decode cX12_text 62 = .ok (.aload_n 0, 1) := by decide +kernel
theorem dX12_text_63 : decode cX12_text 63 = .ok (.invokevirtual 265, 3) := by decide +kernel
theorem dX12_text_66 : decode cX12_text 66 = .ok (.ifCond .ne 5, 3) := by decide +kernel
theorem dX12_text_69 : decode cX12_text 69 = .ok (.iconst (-1), 1) := by decide +kernel
theorem dX12_text_70 : decode cX12_text 70 = .ok (.ireturn, 1) := by decide +kernel
theorem dX12_text_71 : decode cX12_text 71 = .ok (.iinc 2 1, 3) := by decide +kernel
theorem dX12_text_74 : decode cX12_text 74 = .ok (.goto (-19), 3) := by decide +kernel
theorem dX12_text_77 : decode cX12_text 77 = .ok (.aload_n 0, 1) := by decide +kernel
theorem dX12_text_78 : decode cX12_text 78 = .ok (.invokevirtual 142, 3) := by decide +kernel
theorem dX12_text_81 : decode cX12_text 81 = .ok (.iload_n 2, 1) := by decide +kernel
theorem dX12_text_82 : decode cX12_text 82 = .ok (.ireturn, 1) := by decide +kernel
theorem dX12_fault_0 : decode cX12_fault 0 = .ok (.aload_n 0, 1) := by decide +kernel
theorem dX12_fault_1 : decode cX12_fault 1 = .ok (.iconst 0, 1) := by decide +kernel
theorem dX12_fault_2 : decode cX12_fault 2 = .ok (.putfield 145, 3) := by decide +kernel
theorem dX12_fault_5 : decode cX12_fault 5 = .ok (.iload_n 1, 1) := by decide +kernel
theorem dX12_fault_6 : decode cX12_fault 6 = .ok (.ifCond .ne 10, 3) := by decide +kernel
theorem dX12_fault_9 : decode cX12_fault 9 = .ok (.aload_n 0, 1) := by decide +kernel
theorem dX12_fault_10 : decode cX12_fault 10 = .ok (.getfield 151, 3) := by decide +kernel
theorem dX12_fault_13 : decode cX12_fault 13 = .ok (.goto 16, 3) := by decide +kernel
theorem dX12_fault_16 : decode cX12_fault 16 = .ok (.iload_n 1, 1) := by decide +kernel
theorem dX12_fault_17 : decode cX12_fault 17 = .ok (.iconst 1, 1) := by decide +kernel
theorem dX12_fault_18 : decode cX12_fault 18 = .ok (.if_icmp .ne 10, 3) := by decide +kernel
theorem dX12_fault_21 : decode cX12_fault 21 = .ok (.aload_n 0, 1) := by decide +kernel
theorem dX12_fault_22 : decode cX12_fault 22 = .ok (.getfield 16, 3) := by decide +kernel
theorem dX12_fault_25 : decode cX12_fault 25 = .ok (.goto 4, 3) := by decide +kernel
theorem dX12_fault_28 : decode cX12_fault 28 = .ok (.iconst (-1), 1) := by decide +kernel
theorem dX12_fault_29 : decode cX12_fault 29 = .ok (.ireturn, 1) := by decide +kernel
theorem dX12_named_0 : decode cX12_named 0 = .ok (.aload_n 0, 1) := by decide +kernel
theorem dX12_named_1 : decode cX12_named 1 = .ok (.iconst 0, 1) := by decide +kernel
theorem dX12_named_2 : decode cX12_named 2 = .ok (.putfield 145, 3) := by decide +kernel
theorem dX12_named_5 : decode cX12_named 5 = .ok (.iload_n 1, 1) := by decide +kernel
theorem dX12_named_6 : decode cX12_named 6 = .ok (.ifCond .ne 19, 3) := by decide +kernel
theorem dX12_named_9 : decode cX12_named 9 = .ok (.aload_n 0, 1) := by decide +kernel
theorem dX12_named_10 : decode cX12_named 10 = .ok (.getfield 27, 3) := by decide +kernel
theorem dX12_named_13 : decode cX12_named 13 = .ok (.iconst 0, 1) := by decide +kernel
theorem dX12_named_14 : decode cX12_named 14 = .ok (.aload_n 0, 1) := by decide +kernel
theorem dX12_named_15 : decode cX12_named 15 = .ok (.getfield 222, 3) := by decide +kernel
theorem dX12_named_18 : decode cX12_named 18 = .ok (.iload_n 2, 1) := by decide +kernel
theorem dX12_named_19 : decode cX12_named 19 = .ok (.invokestatic 241, 3) := by decide +kernel
theorem dX12_named_22 : decode cX12_named 22 = .ok (.goto 25, 3) := by decide +kernel
theorem dX12_named_25 : decode cX12_named 25 = .ok (.iload_n 1, 1) := by decide +kernel
theorem dX12_named_26 : decode cX12_named 26 = .ok (.iconst 1, 1) := by decide +kernel
theorem dX12_named_27 : decode cX12_named 27 = .ok (.if_icmp .ne 19, 3) := by decide +kernel
theorem dX12_named_30 : decode cX12_named 30 = .ok (.aload_n 0, 1) := by decide +kernel
theorem dX12_named_31 : decode cX12_named 31 = .ok (.getfield 48, 3) := by decide +kernel
theorem dX12_named_34 : decode cX12_named 34 = .ok (.iconst 0, 1) := by decide +kernel
theorem dX12_named_35 : decode cX12_named 35 = .ok (.aload_n 0, 1) := by decide +kernel
theorem dX12_named_36 : decode cX12_named 36 = .ok (.getfield 228, 3) := by decide +kernel
theorem dX12_named_39 : decode cX12_named 39 = .ok (.iload_n 2, 1) := by decide +kernel
theorem dX12_named_40 : decode cX12_named 40 = .ok (.invokestatic 241, 3) := by decide +kernel
theorem dX12_named_43 : decode cX12_named 43 = .ok (.goto 4, 3) := by decide +kernel
theorem dX12_named_46 : decode cX12_named 46 = .ok (.iconst (-1), 1) := by decide +kernel
theorem dX12_named_47 : decode cX12_named 47 = .ok (.ireturn, 1) := by decide +kernel
theorem dX12_rank_0 : decode cX12_rank 0 = .ok (.iload_n 0, 1) := by decide +kernel
theorem dX12_rank_1 : decode cX12_rank 1 = .ok (.bipush 13, 2) := by decide +kernel
theorem dX12_rank_3 : decode cX12_rank 3 = .ok (.if_icmp .lt 8, 3) := by decide +kernel
theorem dX12_rank_6 : decode cX12_rank 6 = .ok (.bipush 6, 2) := by decide +kernel
theorem dX12_rank_8 : decode cX12_rank 8 = .ok (.goto 50, 3) := by decide +kernel
theorem dX12_rank_11 : decode cX12_rank 11 = .ok (.iload_n 0, 1) := by decide +kernel
theorem dX12_rank_12 : decode cX12_rank 12 = .ok (.bipush 11, 2) := by decide +kernel
theorem dX12_rank_14 : decode cX12_rank 14 = .ok (.if_icmp .lt 7, 3) := by decide +kernel
theorem dX12_rank_17 : decode cX12_rank 17 = .ok (.iconst 5, 1) := by decide +kernel
theorem dX12_rank_18 : decode cX12_rank 18 = .ok (.goto 40, 3) := by decide +kernel
theorem dX12_rank_21 : decode cX12_rank 21 = .ok (.iload_n 0, 1) := by decide +kernel
theorem dX12_rank_22 : decode cX12_rank 22 = .ok (.iconst 5, 1) := by decide +kernel
theorem dX12_rank_23 : decode cX12_rank 23 = .ok (.if_icmp .lt 7, 3) := by decide +kernel
theorem dX12_rank_26 : decode cX12_rank 26 = .ok (.iconst 4, 1) := by decide +kernel
theorem dX12_rank_27 : decode cX12_rank 27 = .ok (.goto 31, 3) := by decide +kernel
theorem dX12_rank_30 : decode cX12_rank 30 = .ok (.iload_n 0, 1) := by decide +kernel
theorem dX12_rank_31 : decode cX12_rank 31 = .ok (.iconst 2, 1) := by decide +kernel
theorem dX12_rank_32 : decode cX12_rank 32 = .ok (.if_icmp .ne 7, 3) := by decide +kernel
theorem dX12_rank_35 : decode cX12_rank 35 = .ok (.iconst 3, 1) := by decide +kernel
theorem dX12_rank_36 : decode cX12_rank 36 = .ok (.goto 22, 3) := by decide +kernel
theorem dX12_rank_39 : decode cX12_rank 39 = .ok (.iload_n 0, 1) := by decide +kernel
theorem dX12_rank_40 : decode cX12_rank 40 = .ok (.iconst 3, 1) := by decide +kernel
theorem dX12_rank_41 : decode cX12_rank 41 = .ok (.if_icmp .ne 7, 3) := by decide +kernel
theorem dX12_rank_44 : decode cX12_rank 44 = .ok (.iconst 2, 1) := by decide +kernel
theorem dX12_rank_45 : decode cX12_rank 45 = .ok (.goto 13, 3) := by decide +kernel
theorem dX12_rank_48 : decode cX12_rank 48 = .ok (.iload_n 0, 1) := by decide +kernel
theorem dX12_rank_49 : decode cX12_rank 49 = .ok (.iconst 4, 1) := by decide +kernel
theorem dX12_rank_50 : decode cX12_rank 50 = .ok (.if_icmp .ne 7, 3) := by decide +kernel
theorem dX12_rank_53 : decode cX12_rank 53 = .ok (.iconst 1, 1) := by decide +kernel
theorem dX12_rank_54 : decode cX12_rank 54 = .ok (.goto 4, 3) := by decide +kernel
theorem dX12_rank_57 : decode cX12_rank 57 = .ok (.iconst 0, 1) := by decide +kernel
theorem dX12_rank_58 : decode cX12_rank 58 = .ok (.ireturn, 1) := by decide +kernel
theorem dX12_grown_0 : decode cX12_grown 0 = .ok (.aload_n 0, 1) := by decide +kernel
theorem dX12_grown_1 : decode cX12_grown 1 = .ok (.getfield 66, 3) := by decide +kernel
theorem dX12_grown_4 : decode cX12_grown 4 = .ok (.bipush 64, 2) := by decide +kernel
theorem dX12_grown_6 : decode cX12_grown 6 = .ok (.aload_n 0, 1) := by decide +kernel
theorem dX12_grown_7 : decode cX12_grown 7 = .ok (.getfield 216, 3) := by decide +kernel
theorem dX12_grown_10 : decode cX12_grown 10 = .ok (.iadd, 1) := by decide +kernel
theorem dX12_grown_11 : decode cX12_grown 11 = .ok (.iload_n 1, 1) := by decide +kernel
theorem dX12_grown_12 : decode cX12_grown 12 = .ok (.iastore, 1) := by decide +kernel
theorem dX12_grown_13 : decode cX12_grown 13 = .ok (.aload_n 0, 1) := by decide +kernel
theorem dX12_grown_14 : decode cX12_grown 14 = .ok (.getfield 69, 3) := by decide +kernel
theorem dX12_grown_17 : decode cX12_grown 17 = .ok (.bipush 64, 2) := by decide +kernel
theorem dX12_grown_19 : decode cX12_grown 19 = .ok (.aload_n 0, 1) := by decide +kernel
theorem dX12_grown_20 : decode cX12_grown 20 = .ok (.getfield 216, 3) := by decide +kernel
theorem dX12_grown_23 : decode cX12_grown 23 = .ok (.iadd, 1) := by decide +kernel
theorem dX12_grown_24 : decode cX12_grown 24 = .ok (.iload_n 2, 1) := by decide +kernel
theorem dX12_grown_25 : decode cX12_grown 25 = .ok (.iastore, 1) := by decide +kernel
theorem dX12_grown_26 : decode cX12_grown 26 = .ok (.aload_n 0, 1) := by decide +kernel
theorem dX12_grown_27 : decode cX12_grown 27 = .ok (.getfield 72, 3) := by decide +kernel
theorem dX12_grown_30 : decode cX12_grown 30 = .ok (.bipush 64, 2) := by decide +kernel
theorem dX12_grown_32 : decode cX12_grown 32 = .ok (.aload_n 0, 1) := by decide +kernel
theorem dX12_grown_33 : decode cX12_grown 33 = .ok (.getfield 216, 3) := by decide +kernel
theorem dX12_grown_36 : decode cX12_grown 36 = .ok (.iadd, 1) := by decide +kernel
theorem dX12_grown_37 : decode cX12_grown 37 = .ok (.iload_n 3, 1) := by decide +kernel
theorem dX12_grown_38 : decode cX12_grown 38 = .ok (.iastore, 1) := by decide +kernel
theorem dX12_grown_39 : decode cX12_grown 39 = .ok (.aload_n 0, 1) := by decide +kernel
theorem dX12_grown_40 : decode cX12_grown 40 = .ok (.getfield 78, 3) := by decide +kernel
theorem dX12_grown_43 : decode cX12_grown 43 = .ok (.aload_n 0, 1) := by decide +kernel
theorem dX12_grown_44 : decode cX12_grown 44 = .ok (.getfield 268, 3) := by decide +kernel
theorem dX12_grown_47 : decode cX12_grown 47 = .ok (.aload_n 0, 1) := by decide +kernel
theorem dX12_grown_48 : decode cX12_grown 48 = .ok (.getfield 216, 3) := by decide +kernel
theorem dX12_grown_51 : decode cX12_grown 51 = .ok (.iastore, 1) := by decide +kernel
theorem dX12_grown_52 : decode cX12_grown 52 = .ok (.aload_n 0, 1) := by decide +kernel
theorem dX12_grown_53 : decode cX12_grown 53 = .ok (.dup, 1) := by decide +kernel
theorem dX12_grown_54 : decode cX12_grown 54 = .ok (.getfield 268, 3) := by decide +kernel
theorem dX12_grown_57 : decode cX12_grown 57 = .ok (.iconst 1, 1) := by decide +kernel
theorem dX12_grown_58 : decode cX12_grown 58 = .ok (.iadd, 1) := by decide +kernel
theorem dX12_grown_59 : decode cX12_grown 59 = .ok (.putfield 268, 3) := by decide +kernel
theorem dX12_grown_62 : decode cX12_grown 62 = .ok (.aload_n 0, 1) := by decide +kernel
theorem dX12_grown_63 : decode cX12_grown 63 = .ok (.dup, 1) := by decide +kernel
theorem dX12_grown_64 : decode cX12_grown 64 = .ok (.getfield 216, 3) := by decide +kernel
theorem dX12_grown_67 : decode cX12_grown 67 = .ok (.iconst 1, 1) := by decide +kernel
theorem dX12_grown_68 : decode cX12_grown 68 = .ok (.iadd, 1) := by decide +kernel
theorem dX12_grown_69 : decode cX12_grown 69 = .ok (.putfield 216, 3) := by decide +kernel
theorem dX12_grown_72 : decode cX12_grown 72 = .ok (.return_, 1) := by decide +kernel
theorem dX12_dropHeld_0 : decode cX12_dropHeld 0 = .ok (.aload_n 0, 1) := by decide +kernel
theorem dX12_dropHeld_1 : decode cX12_dropHeld 1 = .ok (.dup, 1) := by decide +kernel
theorem dX12_dropHeld_2 : decode cX12_dropHeld 2 = .ok (.getfield 268, 3) := by decide +kernel
theorem dX12_dropHeld_5 : decode cX12_dropHeld 5 = .ok (.iconst 1, 1) := by decide +kernel
theorem dX12_dropHeld_6 : decode cX12_dropHeld 6 = .ok (.isub, 1) := by decide +kernel
theorem dX12_dropHeld_7 : decode cX12_dropHeld 7 = .ok (.putfield 268, 3) := by decide +kernel
theorem dX12_dropHeld_10 : decode cX12_dropHeld 10 = .ok (.aload_n 0, 1) := by decide +kernel
theorem dX12_dropHeld_11 : decode cX12_dropHeld 11 = .ok (.getfield 78, 3) := by decide +kernel
theorem dX12_dropHeld_14 : decode cX12_dropHeld 14 = .ok (.aload_n 0, 1) := by decide +kernel
theorem dX12_dropHeld_15 : decode cX12_dropHeld 15 = .ok (.getfield 268, 3) := by decide +kernel
theorem dX12_dropHeld_18 : decode cX12_dropHeld 18 = .ok (.iaload, 1) := by decide +kernel
theorem dX12_dropHeld_19 : decode cX12_dropHeld 19 = .ok (.ireturn, 1) := by decide +kernel
theorem dX12_bind_0 : decode cX12_bind 0 = .ok (.aload_n 0, 1) := by decide +kernel
theorem dX12_bind_1 : decode cX12_bind 1 = .ok (.getfield 271, 3) := by decide +kernel
theorem dX12_bind_4 : decode cX12_bind 4 = .ok (.ifCond .le 72, 3) := by decide +kernel
theorem dX12_bind_7 : decode cX12_bind 7 = .ok (.aload_n 0, 1) := by decide +kernel
theorem dX12_bind_8 : decode cX12_bind 8 = .ok (.getfield 75, 3) := by decide +kernel
theorem dX12_bind_11 : decode cX12_bind 11 = .ok (.aload_n 0, 1) := by decide +kernel
theorem dX12_bind_12 : decode cX12_bind 12 = .ok (.getfield 271, 3) := by decide +kernel
theorem dX12_bind_15 : decode cX12_bind 15 = .ok (.iconst 1, 1) := by decide +kernel
theorem dX12_bind_16 : decode cX12_bind 16 = .ok (.isub, 1) := by decide +kernel
theorem dX12_bind_17 : decode cX12_bind 17 = .ok (.iaload, 1) := by decide +kernel
theorem dX12_bind_18 : decode cX12_bind 18 = .ok (.invokestatic 274, 3) := by decide +kernel
theorem dX12_bind_21 : decode cX12_bind 21 = .ok (.iload_n 1, 1) := by decide +kernel
theorem dX12_bind_22 : decode cX12_bind 22 = .ok (.if_icmp .lt 54, 3) := by decide +kernel
theorem dX12_bind_25 : decode cX12_bind 25 = .ok (.aload_n 0, 1) := by decide +kernel
theorem dX12_bind_26 : decode cX12_bind 26 = .ok (.dup, 1) := by decide +kernel
theorem dX12_bind_27 : decode cX12_bind 27 = .ok (.getfield 271, 3) := by decide +kernel
theorem dX12_bind_30 : decode cX12_bind 30 = .ok (.iconst 1, 1) := by decide +kernel
theorem dX12_bind_31 : decode cX12_bind 31 = .ok (.isub, 1) := by decide +kernel
theorem dX12_bind_32 : decode cX12_bind 32 = .ok (.putfield 271, 3) := by decide +kernel
theorem dX12_bind_35 : decode cX12_bind 35 = .ok (.aload_n 0, 1) := by decide +kernel
theorem dX12_bind_36 : decode cX12_bind 36 = .ok (.getfield 75, 3) := by decide +kernel
theorem dX12_bind_39 : decode cX12_bind 39 = .ok (.aload_n 0, 1) := by decide +kernel
theorem dX12_bind_40 : decode cX12_bind 40 = .ok (.getfield 271, 3) := by decide +kernel
theorem dX12_bind_43 : decode cX12_bind 43 = .ok (.iaload, 1) := by decide +kernel
theorem dX12_bind_44 : decode cX12_bind 44 = .ok (.istore_n 2, 1) := by decide +kernel
theorem dX12_bind_45 : decode cX12_bind 45 = .ok (.iload_n 2, 1) := by decide +kernel
theorem dX12_bind_46 : decode cX12_bind 46 = .ok (.iconst 2, 1) := by decide +kernel
theorem dX12_bind_47 : decode cX12_bind 47 = .ok (.if_icmp .ne 7, 3) := by decide +kernel
theorem dX12_bind_50 : decode cX12_bind 50 = .ok (.iconst (-1), 1) := by decide +kernel
theorem dX12_bind_51 : decode cX12_bind 51 = .ok (.goto 7, 3) := by decide +kernel
theorem dX12_bind_54 : decode cX12_bind 54 = .ok (.aload_n 0, 1) := by decide +kernel
theorem dX12_bind_55 : decode cX12_bind 55 = .ok (.invokevirtual 278, 3) := by decide +kernel
theorem dX12_bind_58 : decode cX12_bind 58 = .ok (.istore_n 3, 1) := by decide +kernel
theorem dX12_bind_59 : decode cX12_bind 59 = .ok (.aload_n 0, 1) := by decide +kernel
theorem dX12_bind_60 : decode cX12_bind 60 = .ok (.invokevirtual 278, 3) := by decide +kernel
theorem dX12_bind_63 : decode cX12_bind 63 = .ok (.istore 4, 2) := by decide +kernel
theorem dX12_bind_65 : decode cX12_bind 65 = .ok (.aload_n 0, 1) := by decide +kernel
theorem dX12_bind_66 : decode cX12_bind 66 = .ok (.iload_n 2, 1) := by decide +kernel
theorem dX12_bind_67 : decode cX12_bind 67 = .ok (.iload 4, 2) := by decide +kernel
theorem dX12_bind_69 : decode cX12_bind 69 = .ok (.iload_n 3, 1) := by decide +kernel
theorem dX12_bind_70 : decode cX12_bind 70 = .ok (.invokevirtual 282, 3) := by decide +kernel
theorem dX12_bind_73 : decode cX12_bind 73 = .ok (.goto (-73), 3) := by decide +kernel
theorem dX12_bind_76 : decode cX12_bind 76 = .ok (.return_, 1) := by decide +kernel
theorem dX12_isCounted_0 : decode cX12_isCounted 0 = .ok (.aload_n 0, 1) := by decide +kernel
theorem dX12_isCounted_1 : decode cX12_isCounted 1 = .ok (.getfield 219, 3) := by decide +kernel
theorem dX12_isCounted_4 : decode cX12_isCounted 4 = .ok (.bipush 64, 2) := by decide +kernel
theorem dX12_isCounted_6 : decode cX12_isCounted 6 = .ok (.if_icmp .ne 9, 3) := by decide +kernel
theorem dX12_isCounted_9 : decode cX12_isCounted 9 = .ok (.aload_n 0, 1) := by decide +kernel
theorem dX12_isCounted_10 : decode cX12_isCounted 10 = .ok (.iconst 2, 1) := by decide +kernel
theorem dX12_isCounted_11 : decode cX12_isCounted 11 = .ok (.invokevirtual 187, 3) := by decide +kernel
theorem dX12_isCounted_14 : decode cX12_isCounted 14 = .ok (.ireturn, 1) := by decide +kernel
theorem dX12_isCounted_15 : decode cX12_isCounted 15 = .ok (.aload_n 0, 1) := by decide +kernel
theorem dX12_isCounted_16 : decode cX12_isCounted 16 = .ok (.dup, 1) := by decide +kernel
theorem dX12_isCounted_17 : decode cX12_isCounted 17 = .ok (.getfield 219, 3) := by decide +kernel
theorem dX12_isCounted_20 : decode cX12_isCounted 20 = .ok (.iconst 1, 1) := by decide +kernel
theorem dX12_isCounted_21 : decode cX12_isCounted 21 = .ok (.iadd, 1) := by decide +kernel
theorem dX12_isCounted_22 : decode cX12_isCounted 22 = .ok (.putfield 219, 3) := by decide +kernel
theorem dX12_isCounted_25 : decode cX12_isCounted 25 = .ok (.iconst 1, 1) := by decide +kernel
theorem dX12_isCounted_26 : decode cX12_isCounted 26 = .ok (.ireturn, 1) := by decide +kernel
theorem dX12_waitsFor_0 : decode cX12_waitsFor 0 = .ok (.aload_n 0, 1) := by decide +kernel
theorem dX12_waitsFor_1 : decode cX12_waitsFor 1 = .ok (.getfield 75, 3) := by decide +kernel
theorem dX12_waitsFor_4 : decode cX12_waitsFor 4 = .ok (.aload_n 0, 1) := by decide +kernel
theorem dX12_waitsFor_5 : decode cX12_waitsFor 5 = .ok (.getfield 271, 3) := by decide +kernel
theorem dX12_waitsFor_8 : decode cX12_waitsFor 8 = .ok (.iload_n 1, 1) := by decide +kernel
theorem dX12_waitsFor_9 : decode cX12_waitsFor 9 = .ok (.iastore, 1) := by decide +kernel
theorem dX12_waitsFor_10 : decode cX12_waitsFor 10 = .ok (.aload_n 0, 1) := by decide +kernel
theorem dX12_waitsFor_11 : decode cX12_waitsFor 11 = .ok (.dup, 1) := by decide +kernel
theorem dX12_waitsFor_12 : decode cX12_waitsFor 12 = .ok (.getfield 271, 3) := by decide +kernel
theorem dX12_waitsFor_15 : decode cX12_waitsFor 15 = .ok (.iconst 1, 1) := by decide +kernel
theorem dX12_waitsFor_16 : decode cX12_waitsFor 16 = .ok (.iadd, 1) := by decide +kernel
theorem dX12_waitsFor_17 : decode cX12_waitsFor 17 = .ok (.putfield 271, 3) := by decide +kernel
theorem dX12_waitsFor_20 : decode cX12_waitsFor 20 = .ok (.return_, 1) := by decide +kernel
theorem dX12_nameMet_0 : decode cX12_nameMet 0 = .ok (.aload_n 0, 1) := by decide +kernel
theorem dX12_nameMet_1 : decode cX12_nameMet 1 = .ok (.getfield 163, 3) := by decide +kernel
theorem dX12_nameMet_4 : decode cX12_nameMet 4 = .ok (.iconst 1, 1) := by decide +kernel
theorem dX12_nameMet_5 : decode cX12_nameMet 5 = .ok (.if_icmp .ne 22, 3) := by decide +kernel
theorem dX12_nameMet_8 : decode cX12_nameMet 8 = .ok (.aload_n 0, 1) := by decide +kernel
theorem dX12_nameMet_9 : decode cX12_nameMet 9 = .ok (.getfield 174, 3) := by decide +kernel
theorem dX12_nameMet_12 : decode cX12_nameMet 12 = .ok (.bipush 13, 2) := by decide +kernel
theorem dX12_nameMet_14 : decode cX12_nameMet 14 = .ok (.if_icmp .lt 13, 3) := by decide +kernel
theorem dX12_nameMet_17 : decode cX12_nameMet 17 = .ok (.aload_n 0, 1) := by decide +kernel
theorem dX12_nameMet_18 : decode cX12_nameMet 18 = .ok (.getfield 174, 3) := by decide +kernel
theorem dX12_nameMet_21 : decode cX12_nameMet 21 = .ok (.bipush 13, 2) := by decide +kernel
theorem dX12_nameMet_23 : decode cX12_nameMet 23 = .ok (.isub, 1) := by decide +kernel
theorem dX12_nameMet_24 : decode cX12_nameMet 24 = .ok (.goto 4, 3) := by decide +kernel
theorem dX12_nameMet_27 : decode cX12_nameMet 27 = .ok (.iconst (-1), 1) := by decide +kernel
theorem dX12_nameMet_28 : decode cX12_nameMet 28 = .ok (.ireturn, 1) := by decide +kernel
theorem dX12_leafRead_0 : decode cX12_leafRead 0 = .ok (.aload_n 0, 1) := by decide +kernel
theorem dX12_leafRead_1 : decode cX12_leafRead 1 = .ok (.bipush 40, 2) := by decide +kernel
theorem dX12_leafRead_3 : decode cX12_leafRead 3 = .ok (.invokevirtual 200, 3) := by decide +kernel
theorem dX12_leafRead_6 : decode cX12_leafRead 6 = .ok (.ifCond .eq 44, 3) := by decide +kernel
theorem dX12_leafRead_9 : decode cX12_leafRead 9 = .ok (.aload_n 0, 1) := by decide +kernel
theorem dX12_leafRead_10 : decode cX12_leafRead 10 = .ok (.getfield 286, 3) := by decide +kernel
theorem dX12_leafRead_13 : decode cX12_leafRead 13 = .ok (.bipush 8, 2) := by decide +kernel
theorem dX12_leafRead_15 : decode cX12_leafRead 15 = .ok (.if_icmp .ne 9, 3) := by decide +kernel
theorem dX12_leafRead_18 : decode cX12_leafRead 18 = .ok (.aload_n 0, 1) := by decide +kernel
theorem dX12_leafRead_19 : decode cX12_leafRead 19 = .ok (.iconst 2, 1) := by decide +kernel
theorem dX12_leafRead_20 : decode cX12_leafRead 20 = .ok (.invokevirtual 187, 3) := by decide +kernel
theorem dX12_leafRead_23 : decode cX12_leafRead 23 = .ok (.ireturn, 1) := by decide +kernel
theorem dX12_leafRead_24 : decode cX12_leafRead 24 = .ok (.aload_n 0, 1) := by decide +kernel
theorem dX12_leafRead_25 : decode cX12_leafRead 25 = .ok (.dup, 1) := by decide +kernel
theorem dX12_leafRead_26 : decode cX12_leafRead 26 = .ok (.getfield 286, 3) := by decide +kernel
theorem dX12_leafRead_29 : decode cX12_leafRead 29 = .ok (.iconst 1, 1) := by decide +kernel
theorem dX12_leafRead_30 : decode cX12_leafRead 30 = .ok (.iadd, 1) := by decide +kernel
theorem dX12_leafRead_31 : decode cX12_leafRead 31 = .ok (.putfield 286, 3) := by decide +kernel
theorem dX12_leafRead_34 : decode cX12_leafRead 34 = .ok (.aload_n 0, 1) := by decide +kernel
theorem dX12_leafRead_35 : decode cX12_leafRead 35 = .ok (.iconst 0, 1) := by decide +kernel
theorem dX12_leafRead_36 : decode cX12_leafRead 36 = .ok (.invokevirtual 289, 3) := by decide +kernel
theorem dX12_leafRead_39 : decode cX12_leafRead 39 = .ok (.aload_n 0, 1) := by decide +kernel
theorem dX12_leafRead_40 : decode cX12_leafRead 40 = .ok (.iconst 1, 1) := by decide +kernel
theorem dX12_leafRead_41 : decode cX12_leafRead 41 = .ok (.putfield 293, 3) := by decide +kernel
theorem dX12_leafRead_44 : decode cX12_leafRead 44 = .ok (.aload_n 0, 1) := by decide +kernel
theorem dX12_leafRead_45 : decode cX12_leafRead 45 = .ok (.invokevirtual 197, 3) := by decide +kernel
theorem dX12_leafRead_48 : decode cX12_leafRead 48 = .ok (.iconst 1, 1) := by decide +kernel
theorem dX12_leafRead_49 : decode cX12_leafRead 49 = .ok (.ireturn, 1) := by decide +kernel
theorem dX12_leafRead_50 : decode cX12_leafRead 50 = .ok (.aload_n 0, 1) := by decide +kernel
theorem dX12_leafRead_51 : decode cX12_leafRead 51 = .ok (.bipush 12, 2) := by decide +kernel
theorem dX12_leafRead_53 : decode cX12_leafRead 53 = .ok (.invokevirtual 297, 3) := by decide +kernel
theorem dX12_leafRead_56 : decode cX12_leafRead 56 = .ok (.ifCond .eq 30, 3) := by decide +kernel
theorem dX12_leafRead_59 : decode cX12_leafRead 59 = .ok (.aload_n 0, 1) := by decide +kernel
theorem dX12_leafRead_60 : decode cX12_leafRead 60 = .ok (.getfield 293, 3) := by decide +kernel
theorem dX12_leafRead_63 : decode cX12_leafRead 63 = .ok (.ifCond .eq 23, 3) := by decide +kernel
theorem dX12_leafRead_66 : decode cX12_leafRead 66 = .ok (.aload_n 0, 1) := by decide +kernel
theorem dX12_leafRead_67 : decode cX12_leafRead 67 = .ok (.invokevirtual 300, 3) := by decide +kernel
theorem dX12_leafRead_70 : decode cX12_leafRead 70 = .ok (.ifCond .ne 5, 3) := by decide +kernel
theorem dX12_leafRead_73 : decode cX12_leafRead 73 = .ok (.iconst 0, 1) := by decide +kernel
theorem dX12_leafRead_74 : decode cX12_leafRead 74 = .ok (.ireturn, 1) := by decide +kernel
theorem dX12_leafRead_75 : decode cX12_leafRead 75 = .ok (.aload_n 0, 1) := by decide +kernel
theorem dX12_leafRead_76 : decode cX12_leafRead 76 = .ok (.iconst 2, 1) := by decide +kernel
theorem dX12_leafRead_77 : decode cX12_leafRead 77 = .ok (.invokevirtual 289, 3) := by decide +kernel
theorem dX12_leafRead_80 : decode cX12_leafRead 80 = .ok (.aload_n 0, 1) := by decide +kernel
theorem dX12_leafRead_81 : decode cX12_leafRead 81 = .ok (.invokevirtual 197, 3) := by decide +kernel
theorem dX12_leafRead_84 : decode cX12_leafRead 84 = .ok (.iconst 1, 1) := by decide +kernel
theorem dX12_leafRead_85 : decode cX12_leafRead 85 = .ok (.ireturn, 1) := by decide +kernel
theorem dX12_leafRead_86 : decode cX12_leafRead 86 = .ok (.aload_n 0, 1) := by decide +kernel
theorem dX12_leafRead_87 : decode cX12_leafRead 87 = .ok (.invokevirtual 303, 3) := by decide +kernel
theorem dX12_leafRead_90 : decode cX12_leafRead 90 = .ok (.istore_n 1, 1) := by decide +kernel
theorem dX12_leafRead_91 : decode cX12_leafRead 91 = .ok (.iload_n 1, 1) := by decide +kernel
theorem dX12_leafRead_92 : decode cX12_leafRead 92 = .ok (.ifCond .ge 17, 3) := by decide +kernel
theorem dX12_leafRead_95 : decode cX12_leafRead 95 = .ok (.aload_n 0, 1) := by decide +kernel
theorem dX12_leafRead_96 : decode cX12_leafRead 96 = .ok (.getfield 163, 3) := by decide +kernel
theorem dX12_leafRead_99 : decode cX12_leafRead 99 = .ok (.iconst 3, 1) := by decide +kernel
theorem dX12_leafRead_100 : decode cX12_leafRead 100 = .ok (.if_icmp .eq 9, 3) := by decide +kernel
theorem dX12_leafRead_103 : decode cX12_leafRead 103 = .ok (.aload_n 0, 1) := by decide +kernel
theorem dX12_leafRead_104 : decode cX12_leafRead 104 = .ok (.iconst 1, 1) := by decide +kernel
theorem dX12_leafRead_105 : decode cX12_leafRead 105 = .ok (.invokevirtual 187, 3) := by decide +kernel
theorem dX12_leafRead_108 : decode cX12_leafRead 108 = .ok (.ireturn, 1) := by decide +kernel
theorem dX12_leafRead_109 : decode cX12_leafRead 109 = .ok (.iload_n 1, 1) := by decide +kernel
theorem dX12_leafRead_110 : decode cX12_leafRead 110 = .ok (.ifCond .ge 19, 3) := by decide +kernel
theorem dX12_leafRead_113 : decode cX12_leafRead 113 = .ok (.aload_n 0, 1) := by decide +kernel
theorem dX12_leafRead_114 : decode cX12_leafRead 114 = .ok (.getfield 174, 3) := by decide +kernel
theorem dX12_leafRead_117 : decode cX12_leafRead 117 = .ok (.sipush 9999, 3) := by decide +kernel
theorem dX12_leafRead_120 : decode cX12_leafRead 120 = .ok (.if_icmp .le 9, 3) := by decide +kernel
theorem dX12_leafRead_123 : decode cX12_leafRead 123 = .ok (.aload_n 0, 1) := by decide +kernel
theorem dX12_leafRead_124 : decode cX12_leafRead 124 = .ok (.iconst 2, 1) := by decide +kernel
theorem dX12_leafRead_125 : decode cX12_leafRead 125 = .ok (.invokevirtual 187, 3) := by decide +kernel
theorem dX12_leafRead_128 : decode cX12_leafRead 128 = .ok (.ireturn, 1) := by decide +kernel
theorem dX12_leafRead_129 : decode cX12_leafRead 129 = .ok (.aload_n 0, 1) := by decide +kernel
theorem dX12_leafRead_130 : decode cX12_leafRead 130 = .ok (.invokevirtual 300, 3) := by decide +kernel
theorem dX12_leafRead_133 : decode cX12_leafRead 133 = .ok (.ifCond .ne 5, 3) := by decide +kernel
theorem dX12_leafRead_136 : decode cX12_leafRead 136 = .ok (.iconst 0, 1) := by decide +kernel
theorem dX12_leafRead_137 : decode cX12_leafRead 137 = .ok (.ireturn, 1) := by decide +kernel
theorem dX12_leafRead_138 : decode cX12_leafRead 138 = .ok (.aload_n 0, 1) := by decide +kernel
theorem dX12_leafRead_139 : decode cX12_leafRead 139 = .ok (.iload_n 1, 1) := by decide +kernel
theorem dX12_leafRead_140 : decode cX12_leafRead 140 = .ok (.ifCond .lt 7, 3) := by decide +kernel
theorem dX12_leafRead_143 : decode cX12_leafRead 143 = .ok (.iconst 1, 1) := by decide +kernel
theorem dX12_leafRead_144 : decode cX12_leafRead 144 = .ok (.goto 4, 3) := by decide +kernel
theorem dX12_leafRead_147 : decode cX12_leafRead 147 = .ok (.iconst 0, 1) := by decide +kernel
theorem dX12_leafRead_148 : decode cX12_leafRead 148 = .ok (.iload_n 1, 1) := by decide +kernel
theorem dX12_leafRead_149 : decode cX12_leafRead 149 = .ok (.ifCond .lt 7, 3) := by decide +kernel
theorem dX12_leafRead_152 : decode cX12_leafRead 152 = .ok (.iload_n 1, 1) := by decide +kernel
theorem dX12_leafRead_153 : decode cX12_leafRead 153 = .ok (.goto 7, 3) := by decide +kernel
theorem dX12_leafRead_156 : decode cX12_leafRead 156 = .ok (.aload_n 0, 1) := by decide +kernel
theorem dX12_leafRead_157 : decode cX12_leafRead 157 = .ok (.getfield 174, 3) := by decide +kernel
theorem dX12_leafRead_160 : decode cX12_leafRead 160 = .ok (.iconst 0, 1) := by decide +kernel
theorem dX12_leafRead_161 : decode cX12_leafRead 161 = .ok (.invokevirtual 282, 3) := by decide +kernel
theorem dX12_leafRead_164 : decode cX12_leafRead 164 = .ok (.aload_n 0, 1) := by decide +kernel
theorem dX12_leafRead_165 : decode cX12_leafRead 165 = .ok (.iconst 0, 1) := by decide +kernel
theorem dX12_leafRead_166 : decode cX12_leafRead 166 = .ok (.putfield 306, 3) := by decide +kernel
theorem dX12_leafRead_169 : decode cX12_leafRead 169 = .ok (.aload_n 0, 1) := by decide +kernel
theorem dX12_leafRead_170 : decode cX12_leafRead 170 = .ok (.invokevirtual 197, 3) := by decide +kernel
theorem dX12_leafRead_173 : decode cX12_leafRead 173 = .ok (.iconst 1, 1) := by decide +kernel
theorem dX12_leafRead_174 : decode cX12_leafRead 174 = .ok (.ireturn, 1) := by decide +kernel
theorem dX12_signs_0 : decode cX12_signs 0 = .ok (.aload_n 0, 1) := by decide +kernel
theorem dX12_signs_1 : decode cX12_signs 1 = .ok (.bipush 41, 2) := by decide +kernel
theorem dX12_signs_3 : decode cX12_signs 3 = .ok (.invokevirtual 200, 3) := by decide +kernel
theorem dX12_signs_6 : decode cX12_signs 6 = .ok (.ifCond .eq 41, 3) := by decide +kernel
theorem dX12_signs_9 : decode cX12_signs 9 = .ok (.aload_n 0, 1) := by decide +kernel
theorem dX12_signs_10 : decode cX12_signs 10 = .ok (.getfield 286, 3) := by decide +kernel
theorem dX12_signs_13 : decode cX12_signs 13 = .ok (.ifCond .le 34, 3) := by decide +kernel
theorem dX12_signs_16 : decode cX12_signs 16 = .ok (.aload_n 0, 1) := by decide +kernel
theorem dX12_signs_17 : decode cX12_signs 17 = .ok (.iconst 1, 1) := by decide +kernel
theorem dX12_signs_18 : decode cX12_signs 18 = .ok (.invokevirtual 309, 3) := by decide +kernel
theorem dX12_signs_21 : decode cX12_signs 21 = .ok (.aload_n 0, 1) := by decide +kernel
theorem dX12_signs_22 : decode cX12_signs 22 = .ok (.dup, 1) := by decide +kernel
theorem dX12_signs_23 : decode cX12_signs 23 = .ok (.getfield 271, 3) := by decide +kernel
theorem dX12_signs_26 : decode cX12_signs 26 = .ok (.iconst 1, 1) := by decide +kernel
theorem dX12_signs_27 : decode cX12_signs 27 = .ok (.isub, 1) := by decide +kernel
theorem dX12_signs_28 : decode cX12_signs 28 = .ok (.putfield 271, 3) := by decide +kernel
theorem dX12_signs_31 : decode cX12_signs 31 = .ok (.aload_n 0, 1) := by decide +kernel
theorem dX12_signs_32 : decode cX12_signs 32 = .ok (.dup, 1) := by decide +kernel
theorem dX12_signs_33 : decode cX12_signs 33 = .ok (.getfield 286, 3) := by decide +kernel
theorem dX12_signs_36 : decode cX12_signs 36 = .ok (.iconst 1, 1) := by decide +kernel
theorem dX12_signs_37 : decode cX12_signs 37 = .ok (.isub, 1) := by decide +kernel
theorem dX12_signs_38 : decode cX12_signs 38 = .ok (.putfield 286, 3) := by decide +kernel
theorem dX12_signs_41 : decode cX12_signs 41 = .ok (.aload_n 0, 1) := by decide +kernel
theorem dX12_signs_42 : decode cX12_signs 42 = .ok (.invokevirtual 197, 3) := by decide +kernel
theorem dX12_signs_45 : decode cX12_signs 45 = .ok (.iconst 1, 1) := by decide +kernel
theorem dX12_signs_46 : decode cX12_signs 46 = .ok (.ireturn, 1) := by decide +kernel
theorem dX12_signs_47 : decode cX12_signs 47 = .ok (.aload_n 0, 1) := by decide +kernel
theorem dX12_signs_48 : decode cX12_signs 48 = .ok (.bipush 10, 2) := by decide +kernel
theorem dX12_signs_50 : decode cX12_signs 50 = .ok (.invokevirtual 297, 3) := by decide +kernel
theorem dX12_signs_53 : decode cX12_signs 53 = .ok (.ifCond .eq 7, 3) := by decide +kernel
theorem dX12_signs_56 : decode cX12_signs 56 = .ok (.iconst 3, 1) := by decide +kernel
theorem dX12_signs_57 : decode cX12_signs 57 = .ok (.goto 90, 3) := by decide +kernel
theorem dX12_signs_60 : decode cX12_signs 60 = .ok (.aload_n 0, 1) := by decide +kernel
theorem dX12_signs_61 : decode cX12_signs 61 = .ok (.bipush 11, 2) := by decide +kernel
theorem dX12_signs_63 : decode cX12_signs 63 = .ok (.invokevirtual 297, 3) := by decide +kernel
theorem dX12_signs_66 : decode cX12_signs 66 = .ok (.ifCond .eq 7, 3) := by decide +kernel
theorem dX12_signs_69 : decode cX12_signs 69 = .ok (.iconst 4, 1) := by decide +kernel
theorem dX12_signs_70 : decode cX12_signs 70 = .ok (.goto 77, 3) := by decide +kernel
theorem dX12_signs_73 : decode cX12_signs 73 = .ok (.aload_n 0, 1) := by decide +kernel
theorem dX12_signs_74 : decode cX12_signs 74 = .ok (.getfield 163, 3) := by decide +kernel
theorem dX12_signs_77 : decode cX12_signs 77 = .ok (.iconst 5, 1) := by decide +kernel
theorem dX12_signs_78 : decode cX12_signs 78 = .ok (.if_icmp .ne 12, 3) := by decide +kernel
theorem dX12_signs_81 : decode cX12_signs 81 = .ok (.iconst 5, 1) := by decide +kernel
theorem dX12_signs_82 : decode cX12_signs 82 = .ok (.aload_n 0, 1) := by decide +kernel
theorem dX12_signs_83 : decode cX12_signs 83 = .ok (.getfield 174, 3) := by decide +kernel
theorem dX12_signs_86 : decode cX12_signs 86 = .ok (.iadd, 1) := by decide +kernel
theorem dX12_signs_87 : decode cX12_signs 87 = .ok (.goto 60, 3) := by decide +kernel
theorem dX12_signs_90 : decode cX12_signs 90 = .ok (.aload_n 0, 1) := by decide +kernel
theorem dX12_signs_91 : decode cX12_signs 91 = .ok (.bipush 43, 2) := by decide +kernel
theorem dX12_signs_93 : decode cX12_signs 93 = .ok (.invokevirtual 200, 3) := by decide +kernel
theorem dX12_signs_96 : decode cX12_signs 96 = .ok (.ifCond .eq 8, 3) := by decide +kernel
theorem dX12_signs_99 : decode cX12_signs 99 = .ok (.bipush 11, 2) := by decide +kernel
theorem dX12_signs_101 : decode cX12_signs 101 = .ok (.goto 46, 3) := by decide +kernel
theorem dX12_signs_104 : decode cX12_signs 104 = .ok (.aload_n 0, 1) := by decide +kernel
theorem dX12_signs_105 : decode cX12_signs 105 = .ok (.bipush 45, 2) := by decide +kernel
theorem dX12_signs_107 : decode cX12_signs 107 = .ok (.invokevirtual 200, 3) := by decide +kernel
theorem dX12_signs_110 : decode cX12_signs 110 = .ok (.ifCond .eq 8, 3) := by decide +kernel
theorem dX12_signs_113 : decode cX12_signs 113 = .ok (.bipush 12, 2) := by decide +kernel
theorem dX12_signs_115 : decode cX12_signs 115 = .ok (.goto 32, 3) := by decide +kernel
theorem dX12_signs_118 : decode cX12_signs 118 = .ok (.aload_n 0, 1) := by decide +kernel
theorem dX12_signs_119 : decode cX12_signs 119 = .ok (.bipush 42, 2) := by decide +kernel
theorem dX12_signs_121 : decode cX12_signs 121 = .ok (.invokevirtual 200, 3) := by decide +kernel
theorem dX12_signs_124 : decode cX12_signs 124 = .ok (.ifCond .eq 8, 3) := by decide +kernel
theorem dX12_signs_127 : decode cX12_signs 127 = .ok (.bipush 13, 2) := by decide +kernel
theorem dX12_signs_129 : decode cX12_signs 129 = .ok (.goto 18, 3) := by decide +kernel
theorem dX12_signs_132 : decode cX12_signs 132 = .ok (.aload_n 0, 1) := by decide +kernel
theorem dX12_signs_133 : decode cX12_signs 133 = .ok (.bipush 47, 2) := by decide +kernel
theorem dX12_signs_135 : decode cX12_signs 135 = .ok (.invokevirtual 200, 3) := by decide +kernel
theorem dX12_signs_138 : decode cX12_signs 138 = .ok (.ifCond .eq 8, 3) := by decide +kernel
theorem dX12_signs_141 : decode cX12_signs 141 = .ok (.bipush 14, 2) := by decide +kernel
theorem dX12_signs_143 : decode cX12_signs 143 = .ok (.goto 4, 3) := by decide +kernel
theorem dX12_signs_146 : decode cX12_signs 146 = .ok (.iconst 0, 1) := by decide +kernel
theorem dX12_signs_147 : decode cX12_signs 147 = .ok (.istore_n 1, 1) := by decide +kernel
theorem dX12_signs_148 : decode cX12_signs 148 = .ok (.iload_n 1, 1) := by decide +kernel
theorem dX12_signs_149 : decode cX12_signs 149 = .ok (.ifCond .ne 9, 3) := by decide +kernel
theorem dX12_signs_152 : decode cX12_signs 152 = .ok (.aload_n 0, 1) := by decide +kernel
theorem dX12_signs_153 : decode cX12_signs 153 = .ok (.iconst 1, 1) := by decide +kernel
theorem dX12_signs_154 : decode cX12_signs 154 = .ok (.invokevirtual 187, 3) := by decide +kernel
theorem dX12_signs_157 : decode cX12_signs 157 = .ok (.ireturn, 1) := by decide +kernel
theorem dX12_signs_158 : decode cX12_signs 158 = .ok (.aload_n 0, 1) := by decide +kernel
theorem dX12_signs_159 : decode cX12_signs 159 = .ok (.iload_n 1, 1) := by decide +kernel
theorem dX12_signs_160 : decode cX12_signs 160 = .ok (.invokestatic 274, 3) := by decide +kernel
theorem dX12_signs_163 : decode cX12_signs 163 = .ok (.iconst 4, 1) := by decide +kernel
theorem dX12_signs_164 : decode cX12_signs 164 = .ok (.if_icmp .ne 7, 3) := by decide +kernel
theorem dX12_signs_167 : decode cX12_signs 167 = .ok (.iconst 5, 1) := by decide +kernel
theorem dX12_signs_168 : decode cX12_signs 168 = .ok (.goto 7, 3) := by decide +kernel
theorem dX12_signs_171 : decode cX12_signs 171 = .ok (.iload_n 1, 1) := by decide +kernel
theorem dX12_signs_172 : decode cX12_signs 172 = .ok (.invokestatic 274, 3) := by decide +kernel
theorem dX12_signs_175 : decode cX12_signs 175 = .ok (.invokevirtual 309, 3) := by decide +kernel
theorem dX12_signs_178 : decode cX12_signs 178 = .ok (.iload_n 1, 1) := by decide +kernel
theorem dX12_signs_179 : decode cX12_signs 179 = .ok (.invokestatic 274, 3) := by decide +kernel
theorem dX12_signs_182 : decode cX12_signs 182 = .ok (.iconst 4, 1) := by decide +kernel
theorem dX12_signs_183 : decode cX12_signs 183 = .ok (.if_icmp .ne 34, 3) := by decide +kernel
theorem dX12_signs_186 : decode cX12_signs 186 = .ok (.aload_n 0, 1) := by decide +kernel
theorem dX12_signs_187 : decode cX12_signs 187 = .ok (.getfield 271, 3) := by decide +kernel
theorem dX12_signs_190 : decode cX12_signs 190 = .ok (.ifCond .le 27, 3) := by decide +kernel
theorem dX12_signs_193 : decode cX12_signs 193 = .ok (.aload_n 0, 1) := by decide +kernel
theorem dX12_signs_194 : decode cX12_signs 194 = .ok (.getfield 75, 3) := by decide +kernel
theorem dX12_signs_197 : decode cX12_signs 197 = .ok (.aload_n 0, 1) := by decide +kernel
theorem dX12_signs_198 : decode cX12_signs 198 = .ok (.getfield 271, 3) := by decide +kernel
theorem dX12_signs_201 : decode cX12_signs 201 = .ok (.iconst 1, 1) := by decide +kernel
theorem dX12_signs_202 : decode cX12_signs 202 = .ok (.isub, 1) := by decide +kernel
theorem dX12_signs_203 : decode cX12_signs 203 = .ok (.iaload, 1) := by decide +kernel
theorem dX12_signs_204 : decode cX12_signs 204 = .ok (.invokestatic 274, 3) := by decide +kernel
theorem dX12_signs_207 : decode cX12_signs 207 = .ok (.iconst 4, 1) := by decide +kernel
theorem dX12_signs_208 : decode cX12_signs 208 = .ok (.if_icmp .ne 9, 3) := by decide +kernel
theorem dX12_signs_211 : decode cX12_signs 211 = .ok (.aload_n 0, 1) := by decide +kernel
theorem dX12_signs_212 : decode cX12_signs 212 = .ok (.iconst 1, 1) := by decide +kernel
theorem dX12_signs_213 : decode cX12_signs 213 = .ok (.invokevirtual 187, 3) := by decide +kernel
theorem dX12_signs_216 : decode cX12_signs 216 = .ok (.ireturn, 1) := by decide +kernel
theorem dX12_signs_217 : decode cX12_signs 217 = .ok (.aload_n 0, 1) := by decide +kernel
theorem dX12_signs_218 : decode cX12_signs 218 = .ok (.invokevirtual 300, 3) := by decide +kernel
theorem dX12_signs_221 : decode cX12_signs 221 = .ok (.ifCond .ne 5, 3) := by decide +kernel
theorem dX12_signs_224 : decode cX12_signs 224 = .ok (.iconst 0, 1) := by decide +kernel
theorem dX12_signs_225 : decode cX12_signs 225 = .ok (.ireturn, 1) := by decide +kernel
theorem dX12_signs_226 : decode cX12_signs 226 = .ok (.aload_n 0, 1) := by decide +kernel
theorem dX12_signs_227 : decode cX12_signs 227 = .ok (.iload_n 1, 1) := by decide +kernel
theorem dX12_signs_228 : decode cX12_signs 228 = .ok (.invokevirtual 289, 3) := by decide +kernel
theorem dX12_signs_231 : decode cX12_signs 231 = .ok (.aload_n 0, 1) := by decide +kernel
theorem dX12_signs_232 : decode cX12_signs 232 = .ok (.iconst 1, 1) := by decide +kernel
theorem dX12_signs_233 : decode cX12_signs 233 = .ok (.putfield 306, 3) := by decide +kernel
theorem dX12_signs_236 : decode cX12_signs 236 = .ok (.aload_n 0, 1) := by decide +kernel
theorem dX12_signs_237 : decode cX12_signs 237 = .ok (.iload_n 1, 1) := by decide +kernel
theorem dX12_signs_238 : decode cX12_signs 238 = .ok (.invokestatic 274, 3) := by decide +kernel
theorem dX12_signs_241 : decode cX12_signs 241 = .ok (.iconst 3, 1) := by decide +kernel
theorem dX12_signs_242 : decode cX12_signs 242 = .ok (.if_icmp .ge 7, 3) := by decide +kernel
theorem dX12_signs_245 : decode cX12_signs 245 = .ok (.iconst 1, 1) := by decide +kernel
theorem dX12_signs_246 : decode cX12_signs 246 = .ok (.goto 4, 3) := by decide +kernel
theorem dX12_signs_249 : decode cX12_signs 249 = .ok (.iconst 0, 1) := by decide +kernel
theorem dX12_signs_250 : decode cX12_signs 250 = .ok (.putfield 293, 3) := by decide +kernel
theorem dX12_signs_253 : decode cX12_signs 253 = .ok (.aload_n 0, 1) := by decide +kernel
theorem dX12_signs_254 : decode cX12_signs 254 = .ok (.invokevirtual 197, 3) := by decide +kernel
theorem dX12_signs_257 : decode cX12_signs 257 = .ok (.iconst 1, 1) := by decide +kernel
theorem dX12_signs_258 : decode cX12_signs 258 = .ok (.ireturn, 1) := by decide +kernel
theorem dX12_sumRead_0 : decode cX12_sumRead 0 = .ok (.aload_n 0, 1) := by decide +kernel
theorem dX12_sumRead_1 : decode cX12_sumRead 1 = .ok (.iconst 0, 1) := by decide +kernel
theorem dX12_sumRead_2 : decode cX12_sumRead 2 = .ok (.putfield 271, 3) := by decide +kernel
theorem dX12_sumRead_5 : decode cX12_sumRead 5 = .ok (.aload_n 0, 1) := by decide +kernel
theorem dX12_sumRead_6 : decode cX12_sumRead 6 = .ok (.iconst 0, 1) := by decide +kernel
theorem dX12_sumRead_7 : decode cX12_sumRead 7 = .ok (.putfield 268, 3) := by decide +kernel
theorem dX12_sumRead_10 : decode cX12_sumRead 10 = .ok (.aload_n 0, 1) := by decide +kernel
theorem dX12_sumRead_11 : decode cX12_sumRead 11 = .ok (.iconst 0, 1) := by decide +kernel
theorem dX12_sumRead_12 : decode cX12_sumRead 12 = .ok (.putfield 286, 3) := by decide +kernel
theorem dX12_sumRead_15 : decode cX12_sumRead 15 = .ok (.aload_n 0, 1) := by decide +kernel
theorem dX12_sumRead_16 : decode cX12_sumRead 16 = .ok (.iconst 1, 1) := by decide +kernel
theorem dX12_sumRead_17 : decode cX12_sumRead 17 = .ok (.putfield 306, 3) := by decide +kernel
theorem dX12_sumRead_20 : decode cX12_sumRead 20 = .ok (.aload_n 0, 1) := by decide +kernel
theorem dX12_sumRead_21 : decode cX12_sumRead 21 = .ok (.iconst 1, 1) := by decide +kernel
theorem dX12_sumRead_22 : decode cX12_sumRead 22 = .ok (.putfield 293, 3) := by decide +kernel
theorem dX12_sumRead_25 : decode cX12_sumRead 25 = .ok (.aload_n 0, 1) := by decide +kernel
theorem dX12_sumRead_26 : decode cX12_sumRead 26 = .ok (.bipush 59, 2) := by decide +kernel
theorem dX12_sumRead_28 : decode cX12_sumRead 28 = .ok (.invokevirtual 200, 3) := by decide +kernel
theorem dX12_sumRead_31 : decode cX12_sumRead 31 = .ok (.ifCond .eq 17, 3) := by decide +kernel
theorem dX12_sumRead_34 : decode cX12_sumRead 34 = .ok (.aload_n 0, 1) := by decide +kernel
theorem dX12_sumRead_35 : decode cX12_sumRead 35 = .ok (.getfield 306, 3) := by decide +kernel
theorem dX12_sumRead_38 : decode cX12_sumRead 38 = .ok (.ifCond .ne 10, 3) := by decide +kernel
theorem dX12_sumRead_41 : decode cX12_sumRead 41 = .ok (.aload_n 0, 1) := by decide +kernel
theorem dX12_sumRead_42 : decode cX12_sumRead 42 = .ok (.getfield 286, 3) := by decide +kernel
theorem dX12_sumRead_45 : decode cX12_sumRead 45 = .ok (.ifCond .le 29, 3) := by decide +kernel
theorem dX12_sumRead_48 : decode cX12_sumRead 48 = .ok (.aload_n 0, 1) := by decide +kernel
theorem dX12_sumRead_49 : decode cX12_sumRead 49 = .ok (.getfield 306, 3) := by decide +kernel
theorem dX12_sumRead_52 : decode cX12_sumRead 52 = .ok (.ifCond .eq 13, 3) := by decide +kernel
theorem dX12_sumRead_55 : decode cX12_sumRead 55 = .ok (.aload_n 0, 1) := by decide +kernel
theorem dX12_sumRead_56 : decode cX12_sumRead 56 = .ok (.invokevirtual 312, 3) := by decide +kernel
theorem dX12_sumRead_59 : decode cX12_sumRead 59 = .ok (.ifCond .eq 13, 3) := by decide +kernel
theorem dX12_sumRead_62 : decode cX12_sumRead 62 = .ok (.goto (-37), 3) := by decide +kernel
theorem dX12_sumRead_65 : decode cX12_sumRead 65 = .ok (.aload_n 0, 1) := by decide +kernel
theorem dX12_sumRead_66 : decode cX12_sumRead 66 = .ok (.invokevirtual 315, 3) := by decide +kernel
theorem dX12_sumRead_69 : decode cX12_sumRead 69 = .ok (.ifCond .ne (-44), 3) := by decide +kernel
theorem dX12_sumRead_72 : decode cX12_sumRead 72 = .ok (.iconst 0, 1) := by decide +kernel
theorem dX12_sumRead_73 : decode cX12_sumRead 73 = .ok (.ireturn, 1) := by decide +kernel
theorem dX12_sumRead_74 : decode cX12_sumRead 74 = .ok (.aload_n 0, 1) := by decide +kernel
theorem dX12_sumRead_75 : decode cX12_sumRead 75 = .ok (.iconst 1, 1) := by decide +kernel
theorem dX12_sumRead_76 : decode cX12_sumRead 76 = .ok (.invokevirtual 309, 3) := by decide +kernel
theorem dX12_sumRead_79 : decode cX12_sumRead 79 = .ok (.iconst 1, 1) := by decide +kernel
theorem dX12_sumRead_80 : decode cX12_sumRead 80 = .ok (.ireturn, 1) := by decide +kernel
theorem dX12_bounded_0 : decode cX12_bounded 0 = .ok (.aload_n 0, 1) := by decide +kernel
theorem dX12_bounded_1 : decode cX12_bounded 1 = .ok (.aload_n 0, 1) := by decide +kernel
theorem dX12_bounded_2 : decode cX12_bounded 2 = .ok (.getfield 318, 3) := by decide +kernel
theorem dX12_bounded_5 : decode cX12_bounded 5 = .ok (.ifCond .ne 19, 3) := by decide +kernel
theorem dX12_bounded_8 : decode cX12_bounded 8 = .ok (.lload_n 1, 1) := by decide +kernel
theorem dX12_bounded_9 : decode cX12_bounded 9 = .ok (.ldc2_w 321, 3) := by decide +kernel
theorem dX12_bounded_12 : decode cX12_bounded 12 = .ok (.lcmp, 1) := by decide +kernel
theorem dX12_bounded_13 : decode cX12_bounded 13 = .ok (.ifCond .gt 11, 3) := by decide +kernel
theorem dX12_bounded_16 : decode cX12_bounded 16 = .ok (.lload_n 1, 1) := by decide +kernel
theorem dX12_bounded_17 : decode cX12_bounded 17 = .ok (.ldc2_w 323, 3) := by decide +kernel
theorem dX12_bounded_20 : decode cX12_bounded 20 = .ok (.lcmp, 1) := by decide +kernel
theorem dX12_bounded_21 : decode cX12_bounded 21 = .ok (.ifCond .ge 7, 3) := by decide +kernel
theorem dX12_bounded_24 : decode cX12_bounded 24 = .ok (.iconst 1, 1) := by decide +kernel
theorem dX12_bounded_25 : decode cX12_bounded 25 = .ok (.goto 4, 3) := by decide +kernel
theorem dX12_bounded_28 : decode cX12_bounded 28 = .ok (.iconst 0, 1) := by decide +kernel
theorem dX12_bounded_29 : decode cX12_bounded 29 = .ok (.putfield 318, 3) := by decide +kernel
theorem dX12_bounded_32 : decode cX12_bounded 32 = .ok (.aload_n 0, 1) := by decide +kernel
theorem dX12_bounded_33 : decode cX12_bounded 33 = .ok (.getfield 318, 3) := by decide +kernel
theorem dX12_bounded_36 : decode cX12_bounded 36 = .ok (.ifCond .eq 7, 3) := by decide +kernel
theorem dX12_bounded_39 : decode cX12_bounded 39 = .ok (.lconst 0, 1) := by decide +kernel
theorem dX12_bounded_40 : decode cX12_bounded 40 = .ok (.goto 4, 3) := by decide +kernel
theorem dX12_bounded_43 : decode cX12_bounded 43 = .ok (.lload_n 1, 1) := by decide +kernel
theorem dX12_bounded_44 : decode cX12_bounded 44 = .ok (.lreturn, 1) := by decide +kernel
theorem dX12_compares_0 : decode cX12_compares 0 = .ok (.iload_n 0, 1) := by decide +kernel
theorem dX12_compares_1 : decode cX12_compares 1 = .ok (.tableswitch 95 5 9 #[35, 47, 59, 71, 83], 35) := by decide +kernel
theorem dX12_compares_36 : decode cX12_compares 36 = .ok (.lload_n 1, 1) := by decide +kernel
theorem dX12_compares_37 : decode cX12_compares 37 = .ok (.lload_n 3, 1) := by decide +kernel
theorem dX12_compares_38 : decode cX12_compares 38 = .ok (.lcmp, 1) := by decide +kernel
theorem dX12_compares_39 : decode cX12_compares 39 = .ok (.ifCond .ge 7, 3) := by decide +kernel
theorem dX12_compares_42 : decode cX12_compares 42 = .ok (.iconst 1, 1) := by decide +kernel
theorem dX12_compares_43 : decode cX12_compares 43 = .ok (.goto 4, 3) := by decide +kernel
theorem dX12_compares_46 : decode cX12_compares 46 = .ok (.iconst 0, 1) := by decide +kernel
theorem dX12_compares_47 : decode cX12_compares 47 = .ok (.ireturn, 1) := by decide +kernel
theorem dX12_compares_48 : decode cX12_compares 48 = .ok (.lload_n 1, 1) := by decide +kernel
theorem dX12_compares_49 : decode cX12_compares 49 = .ok (.lload_n 3, 1) := by decide +kernel
theorem dX12_compares_50 : decode cX12_compares 50 = .ok (.lcmp, 1) := by decide +kernel
theorem dX12_compares_51 : decode cX12_compares 51 = .ok (.ifCond .gt 7, 3) := by decide +kernel
theorem dX12_compares_54 : decode cX12_compares 54 = .ok (.iconst 1, 1) := by decide +kernel
theorem dX12_compares_55 : decode cX12_compares 55 = .ok (.goto 4, 3) := by decide +kernel
theorem dX12_compares_58 : decode cX12_compares 58 = .ok (.iconst 0, 1) := by decide +kernel
theorem dX12_compares_59 : decode cX12_compares 59 = .ok (.ireturn, 1) := by decide +kernel
theorem dX12_compares_60 : decode cX12_compares 60 = .ok (.lload_n 1, 1) := by decide +kernel
theorem dX12_compares_61 : decode cX12_compares 61 = .ok (.lload_n 3, 1) := by decide +kernel
theorem dX12_compares_62 : decode cX12_compares 62 = .ok (.lcmp, 1) := by decide +kernel
theorem dX12_compares_63 : decode cX12_compares 63 = .ok (.ifCond .ne 7, 3) := by decide +kernel
theorem dX12_compares_66 : decode cX12_compares 66 = .ok (.iconst 1, 1) := by decide +kernel
theorem dX12_compares_67 : decode cX12_compares 67 = .ok (.goto 4, 3) := by decide +kernel
theorem dX12_compares_70 : decode cX12_compares 70 = .ok (.iconst 0, 1) := by decide +kernel
theorem dX12_compares_71 : decode cX12_compares 71 = .ok (.ireturn, 1) := by decide +kernel
theorem dX12_compares_72 : decode cX12_compares 72 = .ok (.lload_n 1, 1) := by decide +kernel
theorem dX12_compares_73 : decode cX12_compares 73 = .ok (.lload_n 3, 1) := by decide +kernel
theorem dX12_compares_74 : decode cX12_compares 74 = .ok (.lcmp, 1) := by decide +kernel
theorem dX12_compares_75 : decode cX12_compares 75 = .ok (.ifCond .eq 7, 3) := by decide +kernel
theorem dX12_compares_78 : decode cX12_compares 78 = .ok (.iconst 1, 1) := by decide +kernel
theorem dX12_compares_79 : decode cX12_compares 79 = .ok (.goto 4, 3) := by decide +kernel
theorem dX12_compares_82 : decode cX12_compares 82 = .ok (.iconst 0, 1) := by decide +kernel
theorem dX12_compares_83 : decode cX12_compares 83 = .ok (.ireturn, 1) := by decide +kernel
theorem dX12_compares_84 : decode cX12_compares 84 = .ok (.lload_n 1, 1) := by decide +kernel
theorem dX12_compares_85 : decode cX12_compares 85 = .ok (.lload_n 3, 1) := by decide +kernel
theorem dX12_compares_86 : decode cX12_compares 86 = .ok (.lcmp, 1) := by decide +kernel
theorem dX12_compares_87 : decode cX12_compares 87 = .ok (.ifCond .lt 7, 3) := by decide +kernel
theorem dX12_compares_90 : decode cX12_compares 90 = .ok (.iconst 1, 1) := by decide +kernel
theorem dX12_compares_91 : decode cX12_compares 91 = .ok (.goto 4, 3) := by decide +kernel
theorem dX12_compares_94 : decode cX12_compares 94 = .ok (.iconst 0, 1) := by decide +kernel
theorem dX12_compares_95 : decode cX12_compares 95 = .ok (.ireturn, 1) := by decide +kernel
theorem dX12_compares_96 : decode cX12_compares 96 = .ok (.lload_n 1, 1) := by decide +kernel
theorem dX12_compares_97 : decode cX12_compares 97 = .ok (.lload_n 3, 1) := by decide +kernel
theorem dX12_compares_98 : decode cX12_compares 98 = .ok (.lcmp, 1) := by decide +kernel
theorem dX12_compares_99 : decode cX12_compares 99 = .ok (.ifCond .le 7, 3) := by decide +kernel
theorem dX12_compares_102 : decode cX12_compares 102 = .ok (.iconst 1, 1) := by decide +kernel
theorem dX12_compares_103 : decode cX12_compares 103 = .ok (.goto 4, 3) := by decide +kernel
theorem dX12_compares_106 : decode cX12_compares 106 = .ok (.iconst 0, 1) := by decide +kernel
theorem dX12_compares_107 : decode cX12_compares 107 = .ok (.ireturn, 1) := by decide +kernel
theorem dX12_times_0 : decode cX12_times 0 = .ok (.lload_n 1, 1) := by decide +kernel
theorem dX12_times_1 : decode cX12_times 1 = .ok (.lconst 0, 1) := by decide +kernel
theorem dX12_times_2 : decode cX12_times 2 = .ok (.lcmp, 1) := by decide +kernel
theorem dX12_times_3 : decode cX12_times 3 = .ok (.ifCond .eq 45, 3) := by decide +kernel
theorem dX12_times_6 : decode cX12_times 6 = .ok (.lload_n 3, 1) := by decide +kernel
theorem dX12_times_7 : decode cX12_times 7 = .ok (.lconst 0, 1) := by decide +kernel
theorem dX12_times_8 : decode cX12_times 8 = .ok (.lcmp, 1) := by decide +kernel
theorem dX12_times_9 : decode cX12_times 9 = .ok (.ifCond .eq 39, 3) := by decide +kernel
theorem dX12_times_12 : decode cX12_times 12 = .ok (.lload_n 3, 1) := by decide +kernel
theorem dX12_times_13 : decode cX12_times 13 = .ok (.lconst 0, 1) := by decide +kernel
theorem dX12_times_14 : decode cX12_times 14 = .ok (.lcmp, 1) := by decide +kernel
theorem dX12_times_15 : decode cX12_times 15 = .ok (.ifCond .ge 8, 3) := by decide +kernel
theorem dX12_times_18 : decode cX12_times 18 = .ok (.lload_n 3, 1) := by decide +kernel
theorem dX12_times_19 : decode cX12_times 19 = .ok (.lneg, 1) := by decide +kernel
theorem dX12_times_20 : decode cX12_times 20 = .ok (.goto 4, 3) := by decide +kernel
theorem dX12_times_23 : decode cX12_times 23 = .ok (.lload_n 3, 1) := by decide +kernel
theorem dX12_times_24 : decode cX12_times 24 = .ok (.ldc2_w 321, 3) := by decide +kernel
theorem dX12_times_27 : decode cX12_times 27 = .ok (.lload_n 1, 1) := by decide +kernel
theorem dX12_times_28 : decode cX12_times 28 = .ok (.lconst 0, 1) := by decide +kernel
theorem dX12_times_29 : decode cX12_times 29 = .ok (.lcmp, 1) := by decide +kernel
theorem dX12_times_30 : decode cX12_times 30 = .ok (.ifCond .ge 8, 3) := by decide +kernel
theorem dX12_times_33 : decode cX12_times 33 = .ok (.lload_n 1, 1) := by decide +kernel
theorem dX12_times_34 : decode cX12_times 34 = .ok (.lneg, 1) := by decide +kernel
theorem dX12_times_35 : decode cX12_times 35 = .ok (.goto 4, 3) := by decide +kernel
theorem dX12_times_38 : decode cX12_times 38 = .ok (.lload_n 1, 1) := by decide +kernel
theorem dX12_times_39 : decode cX12_times 39 = .ok (.ldiv, 1) := by decide +kernel
theorem dX12_times_40 : decode cX12_times 40 = .ok (.lcmp, 1) := by decide +kernel
theorem dX12_times_41 : decode cX12_times 41 = .ok (.ifCond .le 7, 3) := by decide +kernel
theorem dX12_times_44 : decode cX12_times 44 = .ok (.iconst 1, 1) := by decide +kernel
theorem dX12_times_45 : decode cX12_times 45 = .ok (.goto 4, 3) := by decide +kernel
theorem dX12_times_48 : decode cX12_times 48 = .ok (.iconst 0, 1) := by decide +kernel
theorem dX12_times_49 : decode cX12_times 49 = .ok (.istore 5, 2) := by decide +kernel
theorem dX12_times_51 : decode cX12_times 51 = .ok (.aload_n 0, 1) := by decide +kernel
theorem dX12_times_52 : decode cX12_times 52 = .ok (.aload_n 0, 1) := by decide +kernel
theorem dX12_times_53 : decode cX12_times 53 = .ok (.getfield 318, 3) := by decide +kernel
theorem dX12_times_56 : decode cX12_times 56 = .ok (.ifCond .ne 8, 3) := by decide +kernel
theorem dX12_times_59 : decode cX12_times 59 = .ok (.iload 5, 2) := by decide +kernel
theorem dX12_times_61 : decode cX12_times 61 = .ok (.ifCond .eq 7, 3) := by decide +kernel
theorem dX12_times_64 : decode cX12_times 64 = .ok (.iconst 1, 1) := by decide +kernel
theorem dX12_times_65 : decode cX12_times 65 = .ok (.goto 4, 3) := by decide +kernel
theorem dX12_times_68 : decode cX12_times 68 = .ok (.iconst 0, 1) := by decide +kernel
theorem dX12_times_69 : decode cX12_times 69 = .ok (.putfield 318, 3) := by decide +kernel
theorem dX12_times_72 : decode cX12_times 72 = .ok (.aload_n 0, 1) := by decide +kernel
theorem dX12_times_73 : decode cX12_times 73 = .ok (.getfield 318, 3) := by decide +kernel
theorem dX12_times_76 : decode cX12_times 76 = .ok (.ifCond .eq 7, 3) := by decide +kernel
theorem dX12_times_79 : decode cX12_times 79 = .ok (.lconst 0, 1) := by decide +kernel
theorem dX12_times_80 : decode cX12_times 80 = .ok (.goto 6, 3) := by decide +kernel
theorem dX12_times_83 : decode cX12_times 83 = .ok (.lload_n 1, 1) := by decide +kernel
theorem dX12_times_84 : decode cX12_times 84 = .ok (.lload_n 3, 1) := by decide +kernel
theorem dX12_times_85 : decode cX12_times 85 = .ok (.lmul, 1) := by decide +kernel
theorem dX12_times_86 : decode cX12_times 86 = .ok (.lreturn, 1) := by decide +kernel
theorem dX12_valueOf_0 : decode cX12_valueOf 0 = .ok (.aload_n 0, 1) := by decide +kernel
theorem dX12_valueOf_1 : decode cX12_valueOf 1 = .ok (.getfield 66, 3) := by decide +kernel
theorem dX12_valueOf_4 : decode cX12_valueOf 4 = .ok (.iload_n 1, 1) := by decide +kernel
theorem dX12_valueOf_5 : decode cX12_valueOf 5 = .ok (.iaload, 1) := by decide +kernel
theorem dX12_valueOf_6 : decode cX12_valueOf 6 = .ok (.ifCond .ne 11, 3) := by decide +kernel
theorem dX12_valueOf_9 : decode cX12_valueOf 9 = .ok (.aload_n 0, 1) := by decide +kernel
theorem dX12_valueOf_10 : decode cX12_valueOf 10 = .ok (.getfield 69, 3) := by decide +kernel
theorem dX12_valueOf_13 : decode cX12_valueOf 13 = .ok (.iload_n 1, 1) := by decide +kernel
theorem dX12_valueOf_14 : decode cX12_valueOf 14 = .ok (.iaload, 1) := by decide +kernel
theorem dX12_valueOf_15 : decode cX12_valueOf 15 = .ok (.i2l, 1) := by decide +kernel
theorem dX12_valueOf_16 : decode cX12_valueOf 16 = .ok (.lreturn, 1) := by decide +kernel
theorem dX12_valueOf_17 : decode cX12_valueOf 17 = .ok (.aload_n 0, 1) := by decide +kernel
theorem dX12_valueOf_18 : decode cX12_valueOf 18 = .ok (.getfield 66, 3) := by decide +kernel
theorem dX12_valueOf_21 : decode cX12_valueOf 21 = .ok (.iload_n 1, 1) := by decide +kernel
theorem dX12_valueOf_22 : decode cX12_valueOf 22 = .ok (.iaload, 1) := by decide +kernel
theorem dX12_valueOf_23 : decode cX12_valueOf 23 = .ok (.iconst 1, 1) := by decide +kernel
theorem dX12_valueOf_24 : decode cX12_valueOf 24 = .ok (.if_icmp .ne 15, 3) := by decide +kernel
theorem dX12_valueOf_27 : decode cX12_valueOf 27 = .ok (.aload_n 0, 1) := by decide +kernel
theorem dX12_valueOf_28 : decode cX12_valueOf 28 = .ok (.getfield 81, 3) := by decide +kernel
theorem dX12_valueOf_31 : decode cX12_valueOf 31 = .ok (.aload_n 0, 1) := by decide +kernel
theorem dX12_valueOf_32 : decode cX12_valueOf 32 = .ok (.getfield 69, 3) := by decide +kernel
theorem dX12_valueOf_35 : decode cX12_valueOf 35 = .ok (.iload_n 1, 1) := by decide +kernel
theorem dX12_valueOf_36 : decode cX12_valueOf 36 = .ok (.iaload, 1) := by decide +kernel
theorem dX12_valueOf_37 : decode cX12_valueOf 37 = .ok (.laload, 1) := by decide +kernel
theorem dX12_valueOf_38 : decode cX12_valueOf 38 = .ok (.lreturn, 1) := by decide +kernel
theorem dX12_valueOf_39 : decode cX12_valueOf 39 = .ok (.aload_n 0, 1) := by decide +kernel
theorem dX12_valueOf_40 : decode cX12_valueOf 40 = .ok (.getfield 85, 3) := by decide +kernel
theorem dX12_valueOf_43 : decode cX12_valueOf 43 = .ok (.aload_n 0, 1) := by decide +kernel
theorem dX12_valueOf_44 : decode cX12_valueOf 44 = .ok (.getfield 69, 3) := by decide +kernel
theorem dX12_valueOf_47 : decode cX12_valueOf 47 = .ok (.iload_n 1, 1) := by decide +kernel
theorem dX12_valueOf_48 : decode cX12_valueOf 48 = .ok (.iaload, 1) := by decide +kernel
theorem dX12_valueOf_49 : decode cX12_valueOf 49 = .ok (.laload, 1) := by decide +kernel
theorem dX12_valueOf_50 : decode cX12_valueOf 50 = .ok (.lstore_n 2, 1) := by decide +kernel
theorem dX12_valueOf_51 : decode cX12_valueOf 51 = .ok (.aload_n 0, 1) := by decide +kernel
theorem dX12_valueOf_52 : decode cX12_valueOf 52 = .ok (.getfield 66, 3) := by decide +kernel
theorem dX12_valueOf_55 : decode cX12_valueOf 55 = .ok (.iload_n 1, 1) := by decide +kernel
theorem dX12_valueOf_56 : decode cX12_valueOf 56 = .ok (.iaload, 1) := by decide +kernel
theorem dX12_valueOf_57 : decode cX12_valueOf 57 = .ok (.iconst 2, 1) := by decide +kernel
theorem dX12_valueOf_58 : decode cX12_valueOf 58 = .ok (.if_icmp .ne 15, 3) := by decide +kernel
theorem dX12_valueOf_61 : decode cX12_valueOf 61 = .ok (.lload_n 2, 1) := by decide +kernel
theorem dX12_valueOf_62 : decode cX12_valueOf 62 = .ok (.lconst 0, 1) := by decide +kernel
theorem dX12_valueOf_63 : decode cX12_valueOf 63 = .ok (.lcmp, 1) := by decide +kernel
