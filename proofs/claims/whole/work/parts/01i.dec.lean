theorem dX12_valueOf_64 : decode cX12_valueOf 64 = .ok (.ifCond .ne 7, 3) := by decide +kernel
theorem dX12_valueOf_67 : decode cX12_valueOf 67 = .ok (.lconst 1, 1) := by decide +kernel
theorem dX12_valueOf_68 : decode cX12_valueOf 68 = .ok (.goto 4, 3) := by decide +kernel
theorem dX12_valueOf_71 : decode cX12_valueOf 71 = .ok (.lconst 0, 1) := by decide +kernel
theorem dX12_valueOf_72 : decode cX12_valueOf 72 = .ok (.lreturn, 1) := by decide +kernel
theorem dX12_valueOf_73 : decode cX12_valueOf 73 = .ok (.aload_n 0, 1) := by decide +kernel
theorem dX12_valueOf_74 : decode cX12_valueOf 74 = .ok (.getfield 85, 3) := by decide +kernel
theorem dX12_valueOf_77 : decode cX12_valueOf 77 = .ok (.aload_n 0, 1) := by decide +kernel
theorem dX12_valueOf_78 : decode cX12_valueOf 78 = .ok (.getfield 72, 3) := by decide +kernel
theorem dX12_valueOf_81 : decode cX12_valueOf 81 = .ok (.iload_n 1, 1) := by decide +kernel
theorem dX12_valueOf_82 : decode cX12_valueOf 82 = .ok (.iaload, 1) := by decide +kernel
theorem dX12_valueOf_83 : decode cX12_valueOf 83 = .ok (.laload, 1) := by decide +kernel
theorem dX12_valueOf_84 : decode cX12_valueOf 84 = .ok (.lstore 4, 2) := by decide +kernel
theorem dX12_valueOf_86 : decode cX12_valueOf 86 = .ok (.aload_n 0, 1) := by decide +kernel
theorem dX12_valueOf_87 : decode cX12_valueOf 87 = .ok (.getfield 66, 3) := by decide +kernel
theorem dX12_valueOf_90 : decode cX12_valueOf 90 = .ok (.iload_n 1, 1) := by decide +kernel
theorem dX12_valueOf_91 : decode cX12_valueOf 91 = .ok (.iaload, 1) := by decide +kernel
theorem dX12_valueOf_92 : decode cX12_valueOf 92 = .ok (.tableswitch 167 3 14 #[64, 83, 167, 167, 167, 167, 167, 167, 102, 111, 120, 128], 64) := by decide +kernel
theorem dX12_valueOf_156 : decode cX12_valueOf 156 = .ok (.lload_n 2, 1) := by decide +kernel
theorem dX12_valueOf_157 : decode cX12_valueOf 157 = .ok (.lconst 0, 1) := by decide +kernel
theorem dX12_valueOf_158 : decode cX12_valueOf 158 = .ok (.lcmp, 1) := by decide +kernel
theorem dX12_valueOf_159 : decode cX12_valueOf 159 = .ok (.ifCond .eq 14, 3) := by decide +kernel
theorem dX12_valueOf_162 : decode cX12_valueOf 162 = .ok (.lload 4, 2) := by decide +kernel
theorem dX12_valueOf_164 : decode cX12_valueOf 164 = .ok (.lconst 0, 1) := by decide +kernel
theorem dX12_valueOf_165 : decode cX12_valueOf 165 = .ok (.lcmp, 1) := by decide +kernel
theorem dX12_valueOf_166 : decode cX12_valueOf 166 = .ok (.ifCond .eq 7, 3) := by decide +kernel
theorem dX12_valueOf_169 : decode cX12_valueOf 169 = .ok (.lconst 1, 1) := by decide +kernel
theorem dX12_valueOf_170 : decode cX12_valueOf 170 = .ok (.goto 4, 3) := by decide +kernel
theorem dX12_valueOf_173 : decode cX12_valueOf 173 = .ok (.lconst 0, 1) := by decide +kernel
theorem dX12_valueOf_174 : decode cX12_valueOf 174 = .ok (.lreturn, 1) := by decide +kernel
theorem dX12_valueOf_175 : decode cX12_valueOf 175 = .ok (.lload_n 2, 1) := by decide +kernel
theorem dX12_valueOf_176 : decode cX12_valueOf 176 = .ok (.lconst 0, 1) := by decide +kernel
theorem dX12_valueOf_177 : decode cX12_valueOf 177 = .ok (.lcmp, 1) := by decide +kernel
theorem dX12_valueOf_178 : decode cX12_valueOf 178 = .ok (.ifCond .ne 10, 3) := by decide +kernel
theorem dX12_valueOf_181 : decode cX12_valueOf 181 = .ok (.lload 4, 2) := by decide +kernel
theorem dX12_valueOf_183 : decode cX12_valueOf 183 = .ok (.lconst 0, 1) := by decide +kernel
theorem dX12_valueOf_184 : decode cX12_valueOf 184 = .ok (.lcmp, 1) := by decide +kernel
theorem dX12_valueOf_185 : decode cX12_valueOf 185 = .ok (.ifCond .eq 7, 3) := by decide +kernel
theorem dX12_valueOf_188 : decode cX12_valueOf 188 = .ok (.lconst 1, 1) := by decide +kernel
theorem dX12_valueOf_189 : decode cX12_valueOf 189 = .ok (.goto 4, 3) := by decide +kernel
theorem dX12_valueOf_192 : decode cX12_valueOf 192 = .ok (.lconst 0, 1) := by decide +kernel
theorem dX12_valueOf_193 : decode cX12_valueOf 193 = .ok (.lreturn, 1) := by decide +kernel
theorem dX12_valueOf_194 : decode cX12_valueOf 194 = .ok (.aload_n 0, 1) := by decide +kernel
theorem dX12_valueOf_195 : decode cX12_valueOf 195 = .ok (.lload_n 2, 1) := by decide +kernel
theorem dX12_valueOf_196 : decode cX12_valueOf 196 = .ok (.lload 4, 2) := by decide +kernel
theorem dX12_valueOf_198 : decode cX12_valueOf 198 = .ok (.ladd, 1) := by decide +kernel
theorem dX12_valueOf_199 : decode cX12_valueOf 199 = .ok (.invokevirtual 325, 3) := by decide +kernel
theorem dX12_valueOf_202 : decode cX12_valueOf 202 = .ok (.lreturn, 1) := by decide +kernel
theorem dX12_valueOf_203 : decode cX12_valueOf 203 = .ok (.aload_n 0, 1) := by decide +kernel
theorem dX12_valueOf_204 : decode cX12_valueOf 204 = .ok (.lload_n 2, 1) := by decide +kernel
theorem dX12_valueOf_205 : decode cX12_valueOf 205 = .ok (.lload 4, 2) := by decide +kernel
theorem dX12_valueOf_207 : decode cX12_valueOf 207 = .ok (.lsub, 1) := by decide +kernel
theorem dX12_valueOf_208 : decode cX12_valueOf 208 = .ok (.invokevirtual 325, 3) := by decide +kernel
theorem dX12_valueOf_211 : decode cX12_valueOf 211 = .ok (.lreturn, 1) := by decide +kernel
theorem dX12_valueOf_212 : decode cX12_valueOf 212 = .ok (.aload_n 0, 1) := by decide +kernel
theorem dX12_valueOf_213 : decode cX12_valueOf 213 = .ok (.lload_n 2, 1) := by decide +kernel
theorem dX12_valueOf_214 : decode cX12_valueOf 214 = .ok (.lload 4, 2) := by decide +kernel
theorem dX12_valueOf_216 : decode cX12_valueOf 216 = .ok (.invokevirtual 329, 3) := by decide +kernel
theorem dX12_valueOf_219 : decode cX12_valueOf 219 = .ok (.lreturn, 1) := by decide +kernel
theorem dX12_valueOf_220 : decode cX12_valueOf 220 = .ok (.aload_n 0, 1) := by decide +kernel
theorem dX12_valueOf_221 : decode cX12_valueOf 221 = .ok (.aload_n 0, 1) := by decide +kernel
theorem dX12_valueOf_222 : decode cX12_valueOf 222 = .ok (.getfield 318, 3) := by decide +kernel
theorem dX12_valueOf_225 : decode cX12_valueOf 225 = .ok (.ifCond .ne 10, 3) := by decide +kernel
theorem dX12_valueOf_228 : decode cX12_valueOf 228 = .ok (.lload 4, 2) := by decide +kernel
theorem dX12_valueOf_230 : decode cX12_valueOf 230 = .ok (.lconst 0, 1) := by decide +kernel
theorem dX12_valueOf_231 : decode cX12_valueOf 231 = .ok (.lcmp, 1) := by decide +kernel
theorem dX12_valueOf_232 : decode cX12_valueOf 232 = .ok (.ifCond .ne 7, 3) := by decide +kernel
theorem dX12_valueOf_235 : decode cX12_valueOf 235 = .ok (.iconst 1, 1) := by decide +kernel
theorem dX12_valueOf_236 : decode cX12_valueOf 236 = .ok (.goto 4, 3) := by decide +kernel
theorem dX12_valueOf_239 : decode cX12_valueOf 239 = .ok (.iconst 0, 1) := by decide +kernel
theorem dX12_valueOf_240 : decode cX12_valueOf 240 = .ok (.putfield 318, 3) := by decide +kernel
theorem dX12_valueOf_243 : decode cX12_valueOf 243 = .ok (.aload_n 0, 1) := by decide +kernel
theorem dX12_valueOf_244 : decode cX12_valueOf 244 = .ok (.getfield 318, 3) := by decide +kernel
theorem dX12_valueOf_247 : decode cX12_valueOf 247 = .ok (.ifCond .eq 7, 3) := by decide +kernel
theorem dX12_valueOf_250 : decode cX12_valueOf 250 = .ok (.lconst 0, 1) := by decide +kernel
theorem dX12_valueOf_251 : decode cX12_valueOf 251 = .ok (.goto 7, 3) := by decide +kernel
theorem dX12_valueOf_254 : decode cX12_valueOf 254 = .ok (.lload_n 2, 1) := by decide +kernel
theorem dX12_valueOf_255 : decode cX12_valueOf 255 = .ok (.lload 4, 2) := by decide +kernel
theorem dX12_valueOf_257 : decode cX12_valueOf 257 = .ok (.ldiv, 1) := by decide +kernel
theorem dX12_valueOf_258 : decode cX12_valueOf 258 = .ok (.lreturn, 1) := by decide +kernel
theorem dX12_valueOf_259 : decode cX12_valueOf 259 = .ok (.aload_n 0, 1) := by decide +kernel
theorem dX12_valueOf_260 : decode cX12_valueOf 260 = .ok (.getfield 66, 3) := by decide +kernel
theorem dX12_valueOf_263 : decode cX12_valueOf 263 = .ok (.iload_n 1, 1) := by decide +kernel
theorem dX12_valueOf_264 : decode cX12_valueOf 264 = .ok (.iaload, 1) := by decide +kernel
theorem dX12_valueOf_265 : decode cX12_valueOf 265 = .ok (.lload_n 2, 1) := by decide +kernel
theorem dX12_valueOf_266 : decode cX12_valueOf 266 = .ok (.lload 4, 2) := by decide +kernel
theorem dX12_valueOf_268 : decode cX12_valueOf 268 = .ok (.invokestatic 333, 3) := by decide +kernel
theorem dX12_valueOf_271 : decode cX12_valueOf 271 = .ok (.ifCond .eq 7, 3) := by decide +kernel
theorem dX12_valueOf_274 : decode cX12_valueOf 274 = .ok (.lconst 1, 1) := by decide +kernel
theorem dX12_valueOf_275 : decode cX12_valueOf 275 = .ok (.goto 4, 3) := by decide +kernel
theorem dX12_valueOf_278 : decode cX12_valueOf 278 = .ok (.lconst 0, 1) := by decide +kernel
theorem dX12_valueOf_279 : decode cX12_valueOf 279 = .ok (.lreturn, 1) := by decide +kernel
theorem dX12_begin_0 : decode cX12_begin 0 = .ok (.aload_n 0, 1) := by decide +kernel
theorem dX12_begin_1 : decode cX12_begin 1 = .ok (.iconst 0, 1) := by decide +kernel
theorem dX12_begin_2 : decode cX12_begin 2 = .ok (.invokevirtual 337, 3) := by decide +kernel
theorem dX12_begin_5 : decode cX12_begin 5 = .ok (.aload_n 0, 1) := by decide +kernel
theorem dX12_begin_6 : decode cX12_begin 6 = .ok (.aload_n 0, 1) := by decide +kernel
theorem dX12_begin_7 : decode cX12_begin 7 = .ok (.getfield 24, 3) := by decide +kernel
theorem dX12_begin_10 : decode cX12_begin 10 = .ok (.iconst 2, 1) := by decide +kernel
theorem dX12_begin_11 : decode cX12_begin 11 = .ok (.iaload, 1) := by decide +kernel
theorem dX12_begin_12 : decode cX12_begin 12 = .ok (.i2l, 1) := by decide +kernel
theorem dX12_begin_13 : decode cX12_begin 13 = .ok (.putfield 340, 3) := by decide +kernel
theorem dX12_begin_16 : decode cX12_begin 16 = .ok (.aload_n 0, 1) := by decide +kernel
theorem dX12_begin_17 : decode cX12_begin 17 = .ok (.invokevirtual 344, 3) := by decide +kernel
theorem dX12_begin_20 : decode cX12_begin 20 = .ok (.aload_n 0, 1) := by decide +kernel
theorem dX12_begin_21 : decode cX12_begin 21 = .ok (.iconst 0, 1) := by decide +kernel
theorem dX12_begin_22 : decode cX12_begin 22 = .ok (.putfield 347, 3) := by decide +kernel
theorem dX12_begin_25 : decode cX12_begin 25 = .ok (.aload_n 0, 1) := by decide +kernel
theorem dX12_begin_26 : decode cX12_begin 26 = .ok (.iconst (-1), 1) := by decide +kernel
theorem dX12_begin_27 : decode cX12_begin 27 = .ok (.putfield 121, 3) := by decide +kernel
theorem dX12_begin_30 : decode cX12_begin 30 = .ok (.aload_n 0, 1) := by decide +kernel
theorem dX12_begin_31 : decode cX12_begin 31 = .ok (.iconst 0, 1) := by decide +kernel
theorem dX12_begin_32 : decode cX12_begin 32 = .ok (.putfield 350, 3) := by decide +kernel
theorem dX12_begin_35 : decode cX12_begin 35 = .ok (.aload_n 0, 1) := by decide +kernel
theorem dX12_begin_36 : decode cX12_begin 36 = .ok (.iconst 0, 1) := by decide +kernel
theorem dX12_begin_37 : decode cX12_begin 37 = .ok (.putfield 353, 3) := by decide +kernel
theorem dX12_begin_40 : decode cX12_begin 40 = .ok (.return_, 1) := by decide +kernel
theorem dX12_atFirst_0 : decode cX12_atFirst 0 = .ok (.iconst 0, 1) := by decide +kernel
theorem dX12_atFirst_1 : decode cX12_atFirst 1 = .ok (.istore_n 2, 1) := by decide +kernel
theorem dX12_atFirst_2 : decode cX12_atFirst 2 = .ok (.iload_n 2, 1) := by decide +kernel
theorem dX12_atFirst_3 : decode cX12_atFirst 3 = .ok (.bipush 12, 2) := by decide +kernel
theorem dX12_atFirst_5 : decode cX12_atFirst 5 = .ok (.if_icmp .ge 45, 3) := by decide +kernel
theorem dX12_atFirst_8 : decode cX12_atFirst 8 = .ok (.aload_n 0, 1) := by decide +kernel
theorem dX12_atFirst_9 : decode cX12_atFirst 9 = .ok (.getfield 88, 3) := by decide +kernel
theorem dX12_atFirst_12 : decode cX12_atFirst 12 = .ok (.bipush 12, 2) := by decide +kernel
theorem dX12_atFirst_14 : decode cX12_atFirst 14 = .ok (.iload_n 1, 1) := by decide +kernel
theorem dX12_atFirst_15 : decode cX12_atFirst 15 = .ok (.imul, 1) := by decide +kernel
theorem dX12_atFirst_16 : decode cX12_atFirst 16 = .ok (.iload_n 2, 1) := by decide +kernel
theorem dX12_atFirst_17 : decode cX12_atFirst 17 = .ok (.iadd, 1) := by decide +kernel
theorem dX12_atFirst_18 : decode cX12_atFirst 18 = .ok (.iconst 0, 1) := by decide +kernel
theorem dX12_atFirst_19 : decode cX12_atFirst 19 = .ok (.iastore, 1) := by decide +kernel
theorem dX12_atFirst_20 : decode cX12_atFirst 20 = .ok (.aload_n 0, 1) := by decide +kernel
theorem dX12_atFirst_21 : decode cX12_atFirst 21 = .ok (.getfield 91, 3) := by decide +kernel
theorem dX12_atFirst_24 : decode cX12_atFirst 24 = .ok (.bipush 12, 2) := by decide +kernel
theorem dX12_atFirst_26 : decode cX12_atFirst 26 = .ok (.iload_n 1, 1) := by decide +kernel
theorem dX12_atFirst_27 : decode cX12_atFirst 27 = .ok (.imul, 1) := by decide +kernel
theorem dX12_atFirst_28 : decode cX12_atFirst 28 = .ok (.iload_n 2, 1) := by decide +kernel
theorem dX12_atFirst_29 : decode cX12_atFirst 29 = .ok (.iadd, 1) := by decide +kernel
theorem dX12_atFirst_30 : decode cX12_atFirst 30 = .ok (.iconst (-1), 1) := by decide +kernel
theorem dX12_atFirst_31 : decode cX12_atFirst 31 = .ok (.iastore, 1) := by decide +kernel
theorem dX12_atFirst_32 : decode cX12_atFirst 32 = .ok (.aload_n 0, 1) := by decide +kernel
theorem dX12_atFirst_33 : decode cX12_atFirst 33 = .ok (.getfield 94, 3) := by decide +kernel
theorem dX12_atFirst_36 : decode cX12_atFirst 36 = .ok (.bipush 12, 2) := by decide +kernel
theorem dX12_atFirst_38 : decode cX12_atFirst 38 = .ok (.iload_n 1, 1) := by decide +kernel
theorem dX12_atFirst_39 : decode cX12_atFirst 39 = .ok (.imul, 1) := by decide +kernel
theorem dX12_atFirst_40 : decode cX12_atFirst 40 = .ok (.iload_n 2, 1) := by decide +kernel
theorem dX12_atFirst_41 : decode cX12_atFirst 41 = .ok (.iadd, 1) := by decide +kernel
theorem dX12_atFirst_42 : decode cX12_atFirst 42 = .ok (.iconst 0, 1) := by decide +kernel
theorem dX12_atFirst_43 : decode cX12_atFirst 43 = .ok (.bastore, 1) := by decide +kernel
theorem dX12_atFirst_44 : decode cX12_atFirst 44 = .ok (.iinc 2 1, 3) := by decide +kernel
theorem dX12_atFirst_47 : decode cX12_atFirst 47 = .ok (.goto (-45), 3) := by decide +kernel
theorem dX12_atFirst_50 : decode cX12_atFirst 50 = .ok (.iconst 0, 1) := by decide +kernel
theorem dX12_atFirst_51 : decode cX12_atFirst 51 = .ok (.istore_n 2, 1) := by decide +kernel
theorem dX12_atFirst_52 : decode cX12_atFirst 52 = .ok (.iload_n 2, 1) := by decide +kernel
theorem dX12_atFirst_53 : decode cX12_atFirst 53 = .ok (.bipush 6, 2) := by decide +kernel
theorem dX12_atFirst_55 : decode cX12_atFirst 55 = .ok (.if_icmp .ge 90, 3) := by decide +kernel
theorem dX12_atFirst_58 : decode cX12_atFirst 58 = .ok (.aload_n 0, 1) := by decide +kernel
theorem dX12_atFirst_59 : decode cX12_atFirst 59 = .ok (.getfield 97, 3) := by decide +kernel
theorem dX12_atFirst_62 : decode cX12_atFirst 62 = .ok (.bipush 6, 2) := by decide +kernel
theorem dX12_atFirst_64 : decode cX12_atFirst 64 = .ok (.iload_n 1, 1) := by decide +kernel
theorem dX12_atFirst_65 : decode cX12_atFirst 65 = .ok (.imul, 1) := by decide +kernel
theorem dX12_atFirst_66 : decode cX12_atFirst 66 = .ok (.iload_n 2, 1) := by decide +kernel
theorem dX12_atFirst_67 : decode cX12_atFirst 67 = .ok (.iadd, 1) := by decide +kernel
theorem dX12_atFirst_68 : decode cX12_atFirst 68 = .ok (.aload_n 0, 1) := by decide +kernel
theorem dX12_atFirst_69 : decode cX12_atFirst 69 = .ok (.getfield 30, 3) := by decide +kernel
theorem dX12_atFirst_72 : decode cX12_atFirst 72 = .ok (.iload_n 2, 1) := by decide +kernel
theorem dX12_atFirst_73 : decode cX12_atFirst 73 = .ok (.iaload, 1) := by decide +kernel
theorem dX12_atFirst_74 : decode cX12_atFirst 74 = .ok (.iastore, 1) := by decide +kernel
theorem dX12_atFirst_75 : decode cX12_atFirst 75 = .ok (.aload_n 0, 1) := by decide +kernel
theorem dX12_atFirst_76 : decode cX12_atFirst 76 = .ok (.getfield 100, 3) := by decide +kernel
theorem dX12_atFirst_79 : decode cX12_atFirst 79 = .ok (.bipush 6, 2) := by decide +kernel
theorem dX12_atFirst_81 : decode cX12_atFirst 81 = .ok (.iload_n 1, 1) := by decide +kernel
theorem dX12_atFirst_82 : decode cX12_atFirst 82 = .ok (.imul, 1) := by decide +kernel
theorem dX12_atFirst_83 : decode cX12_atFirst 83 = .ok (.iload_n 2, 1) := by decide +kernel
theorem dX12_atFirst_84 : decode cX12_atFirst 84 = .ok (.iadd, 1) := by decide +kernel
theorem dX12_atFirst_85 : decode cX12_atFirst 85 = .ok (.iconst 0, 1) := by decide +kernel
theorem dX12_atFirst_86 : decode cX12_atFirst 86 = .ok (.iastore, 1) := by decide +kernel
theorem dX12_atFirst_87 : decode cX12_atFirst 87 = .ok (.aload_n 0, 1) := by decide +kernel
theorem dX12_atFirst_88 : decode cX12_atFirst 88 = .ok (.getfield 103, 3) := by decide +kernel
theorem dX12_atFirst_91 : decode cX12_atFirst 91 = .ok (.bipush 6, 2) := by decide +kernel
theorem dX12_atFirst_93 : decode cX12_atFirst 93 = .ok (.iload_n 1, 1) := by decide +kernel
theorem dX12_atFirst_94 : decode cX12_atFirst 94 = .ok (.imul, 1) := by decide +kernel
theorem dX12_atFirst_95 : decode cX12_atFirst 95 = .ok (.iload_n 2, 1) := by decide +kernel
theorem dX12_atFirst_96 : decode cX12_atFirst 96 = .ok (.iadd, 1) := by decide +kernel
theorem dX12_atFirst_97 : decode cX12_atFirst 97 = .ok (.iconst 0, 1) := by decide +kernel
theorem dX12_atFirst_98 : decode cX12_atFirst 98 = .ok (.iastore, 1) := by decide +kernel
theorem dX12_atFirst_99 : decode cX12_atFirst 99 = .ok (.aload_n 0, 1) := by decide +kernel
theorem dX12_atFirst_100 : decode cX12_atFirst 100 = .ok (.getfield 106, 3) := by decide +kernel
theorem dX12_atFirst_103 : decode cX12_atFirst 103 = .ok (.bipush 6, 2) := by decide +kernel
theorem dX12_atFirst_105 : decode cX12_atFirst 105 = .ok (.iload_n 1, 1) := by decide +kernel
theorem dX12_atFirst_106 : decode cX12_atFirst 106 = .ok (.imul, 1) := by decide +kernel
theorem dX12_atFirst_107 : decode cX12_atFirst 107 = .ok (.iload_n 2, 1) := by decide +kernel
theorem dX12_atFirst_108 : decode cX12_atFirst 108 = .ok (.iadd, 1) := by decide +kernel
theorem dX12_atFirst_109 : decode cX12_atFirst 109 = .ok (.iconst 0, 1) := by decide +kernel
theorem dX12_atFirst_110 : decode cX12_atFirst 110 = .ok (.iastore, 1) := by decide +kernel
theorem dX12_atFirst_111 : decode cX12_atFirst 111 = .ok (.aload_n 0, 1) := by decide +kernel
theorem dX12_atFirst_112 : decode cX12_atFirst 112 = .ok (.getfield 109, 3) := by decide +kernel
theorem dX12_atFirst_115 : decode cX12_atFirst 115 = .ok (.bipush 6, 2) := by decide +kernel
theorem dX12_atFirst_117 : decode cX12_atFirst 117 = .ok (.iload_n 1, 1) := by decide +kernel
theorem dX12_atFirst_118 : decode cX12_atFirst 118 = .ok (.imul, 1) := by decide +kernel
theorem dX12_atFirst_119 : decode cX12_atFirst 119 = .ok (.iload_n 2, 1) := by decide +kernel
theorem dX12_atFirst_120 : decode cX12_atFirst 120 = .ok (.iadd, 1) := by decide +kernel
theorem dX12_atFirst_121 : decode cX12_atFirst 121 = .ok (.aload_n 0, 1) := by decide +kernel
theorem dX12_atFirst_122 : decode cX12_atFirst 122 = .ok (.getfield 228, 3) := by decide +kernel
theorem dX12_atFirst_125 : decode cX12_atFirst 125 = .ok (.ifCond .ne 7, 3) := by decide +kernel
theorem dX12_atFirst_128 : decode cX12_atFirst 128 = .ok (.iconst (-1), 1) := by decide +kernel
theorem dX12_atFirst_129 : decode cX12_atFirst 129 = .ok (.goto 9, 3) := by decide +kernel
theorem dX12_atFirst_132 : decode cX12_atFirst 132 = .ok (.iload_n 2, 1) := by decide +kernel
theorem dX12_atFirst_133 : decode cX12_atFirst 133 = .ok (.aload_n 0, 1) := by decide +kernel
theorem dX12_atFirst_134 : decode cX12_atFirst 134 = .ok (.getfield 228, 3) := by decide +kernel
theorem dX12_atFirst_137 : decode cX12_atFirst 137 = .ok (.irem, 1) := by decide +kernel
theorem dX12_atFirst_138 : decode cX12_atFirst 138 = .ok (.iastore, 1) := by decide +kernel
theorem dX12_atFirst_139 : decode cX12_atFirst 139 = .ok (.iinc 2 1, 3) := by decide +kernel
theorem dX12_atFirst_142 : decode cX12_atFirst 142 = .ok (.goto (-90), 3) := by decide +kernel
theorem dX12_atFirst_145 : decode cX12_atFirst 145 = .ok (.aload_n 0, 1) := by decide +kernel
theorem dX12_atFirst_146 : decode cX12_atFirst 146 = .ok (.getfield 112, 3) := by decide +kernel
theorem dX12_atFirst_149 : decode cX12_atFirst 149 = .ok (.iload_n 1, 1) := by decide +kernel
theorem dX12_atFirst_150 : decode cX12_atFirst 150 = .ok (.aload_n 0, 1) := by decide +kernel
theorem dX12_atFirst_151 : decode cX12_atFirst 151 = .ok (.getfield 24, 3) := by decide +kernel
theorem dX12_atFirst_154 : decode cX12_atFirst 154 = .ok (.iconst 0, 1) := by decide +kernel
theorem dX12_atFirst_155 : decode cX12_atFirst 155 = .ok (.iaload, 1) := by decide +kernel
theorem dX12_atFirst_156 : decode cX12_atFirst 156 = .ok (.iastore, 1) := by decide +kernel
theorem dX12_atFirst_157 : decode cX12_atFirst 157 = .ok (.aload_n 0, 1) := by decide +kernel
theorem dX12_atFirst_158 : decode cX12_atFirst 158 = .ok (.getfield 115, 3) := by decide +kernel
theorem dX12_atFirst_161 : decode cX12_atFirst 161 = .ok (.iload_n 1, 1) := by decide +kernel
theorem dX12_atFirst_162 : decode cX12_atFirst 162 = .ok (.iconst 0, 1) := by decide +kernel
theorem dX12_atFirst_163 : decode cX12_atFirst 163 = .ok (.iastore, 1) := by decide +kernel
theorem dX12_atFirst_164 : decode cX12_atFirst 164 = .ok (.return_, 1) := by decide +kernel
theorem dX12_plainTried_0 : decode cX12_plainTried 0 = .ok (.aload_n 0, 1) := by decide +kernel
theorem dX12_plainTried_1 : decode cX12_plainTried 1 = .ok (.iconst 0, 1) := by decide +kernel
theorem dX12_plainTried_2 : decode cX12_plainTried 2 = .ok (.putfield 356, 3) := by decide +kernel
theorem dX12_plainTried_5 : decode cX12_plainTried 5 = .ok (.aload_n 0, 1) := by decide +kernel
theorem dX12_plainTried_6 : decode cX12_plainTried 6 = .ok (.iconst 0, 1) := by decide +kernel
theorem dX12_plainTried_7 : decode cX12_plainTried 7 = .ok (.putfield 359, 3) := by decide +kernel
theorem dX12_plainTried_10 : decode cX12_plainTried 10 = .ok (.aload_n 0, 1) := by decide +kernel
theorem dX12_plainTried_11 : decode cX12_plainTried 11 = .ok (.iconst 0, 1) := by decide +kernel
theorem dX12_plainTried_12 : decode cX12_plainTried 12 = .ok (.putfield 362, 3) := by decide +kernel
theorem dX12_plainTried_15 : decode cX12_plainTried 15 = .ok (.aload_n 0, 1) := by decide +kernel
theorem dX12_plainTried_16 : decode cX12_plainTried 16 = .ok (.iconst 0, 1) := by decide +kernel
theorem dX12_plainTried_17 : decode cX12_plainTried 17 = .ok (.putfield 365, 3) := by decide +kernel
theorem dX12_plainTried_20 : decode cX12_plainTried 20 = .ok (.aload_n 0, 1) := by decide +kernel
theorem dX12_plainTried_21 : decode cX12_plainTried 21 = .ok (.iconst 0, 1) := by decide +kernel
theorem dX12_plainTried_22 : decode cX12_plainTried 22 = .ok (.putfield 368, 3) := by decide +kernel
theorem dX12_plainTried_25 : decode cX12_plainTried 25 = .ok (.aload_n 0, 1) := by decide +kernel
theorem dX12_plainTried_26 : decode cX12_plainTried 26 = .ok (.iconst (-1), 1) := by decide +kernel
theorem dX12_plainTried_27 : decode cX12_plainTried 27 = .ok (.putfield 371, 3) := by decide +kernel
theorem dX12_plainTried_30 : decode cX12_plainTried 30 = .ok (.aload_n 0, 1) := by decide +kernel
theorem dX12_plainTried_31 : decode cX12_plainTried 31 = .ok (.iconst (-1), 1) := by decide +kernel
theorem dX12_plainTried_32 : decode cX12_plainTried 32 = .ok (.putfield 374, 3) := by decide +kernel
theorem dX12_plainTried_35 : decode cX12_plainTried 35 = .ok (.aload_n 0, 1) := by decide +kernel
theorem dX12_plainTried_36 : decode cX12_plainTried 36 = .ok (.iconst (-1), 1) := by decide +kernel
theorem dX12_plainTried_37 : decode cX12_plainTried 37 = .ok (.putfield 377, 3) := by decide +kernel
theorem dX12_plainTried_40 : decode cX12_plainTried 40 = .ok (.aload_n 0, 1) := by decide +kernel
theorem dX12_plainTried_41 : decode cX12_plainTried 41 = .ok (.iconst 0, 1) := by decide +kernel
theorem dX12_plainTried_42 : decode cX12_plainTried 42 = .ok (.putfield 380, 3) := by decide +kernel
theorem dX12_plainTried_45 : decode cX12_plainTried 45 = .ok (.return_, 1) := by decide +kernel
theorem dX12_layTried_0 : decode cX12_layTried 0 = .ok (.iconst 0, 1) := by decide +kernel
theorem dX12_layTried_1 : decode cX12_layTried 1 = .ok (.istore_n 1, 1) := by decide +kernel
theorem dX12_layTried_2 : decode cX12_layTried 2 = .ok (.iload_n 1, 1) := by decide +kernel
theorem dX12_layTried_3 : decode cX12_layTried 3 = .ok (.bipush 12, 2) := by decide +kernel
theorem dX12_layTried_5 : decode cX12_layTried 5 = .ok (.if_icmp .ge 54, 3) := by decide +kernel
theorem dX12_layTried_8 : decode cX12_layTried 8 = .ok (.aload_n 0, 1) := by decide +kernel
theorem dX12_layTried_9 : decode cX12_layTried 9 = .ok (.getfield 88, 3) := by decide +kernel
theorem dX12_layTried_12 : decode cX12_layTried 12 = .ok (.bipush 12, 2) := by decide +kernel
theorem dX12_layTried_14 : decode cX12_layTried 14 = .ok (.iload_n 1, 1) := by decide +kernel
theorem dX12_layTried_15 : decode cX12_layTried 15 = .ok (.iadd, 1) := by decide +kernel
theorem dX12_layTried_16 : decode cX12_layTried 16 = .ok (.aload_n 0, 1) := by decide +kernel
theorem dX12_layTried_17 : decode cX12_layTried 17 = .ok (.getfield 88, 3) := by decide +kernel
theorem dX12_layTried_20 : decode cX12_layTried 20 = .ok (.iload_n 1, 1) := by decide +kernel
theorem dX12_layTried_21 : decode cX12_layTried 21 = .ok (.iaload, 1) := by decide +kernel
theorem dX12_layTried_22 : decode cX12_layTried 22 = .ok (.iastore, 1) := by decide +kernel
theorem dX12_layTried_23 : decode cX12_layTried 23 = .ok (.aload_n 0, 1) := by decide +kernel
theorem dX12_layTried_24 : decode cX12_layTried 24 = .ok (.getfield 91, 3) := by decide +kernel
theorem dX12_layTried_27 : decode cX12_layTried 27 = .ok (.bipush 12, 2) := by decide +kernel
theorem dX12_layTried_29 : decode cX12_layTried 29 = .ok (.iload_n 1, 1) := by decide +kernel
theorem dX12_layTried_30 : decode cX12_layTried 30 = .ok (.iadd, 1) := by decide +kernel
theorem dX12_layTried_31 : decode cX12_layTried 31 = .ok (.aload_n 0, 1) := by decide +kernel
theorem dX12_layTried_32 : decode cX12_layTried 32 = .ok (.getfield 91, 3) := by decide +kernel
theorem dX12_layTried_35 : decode cX12_layTried 35 = .ok (.iload_n 1, 1) := by decide +kernel
theorem dX12_layTried_36 : decode cX12_layTried 36 = .ok (.iaload, 1) := by decide +kernel
theorem dX12_layTried_37 : decode cX12_layTried 37 = .ok (.iastore, 1) := by decide +kernel
theorem dX12_layTried_38 : decode cX12_layTried 38 = .ok (.aload_n 0, 1) := by decide +kernel
theorem dX12_layTried_39 : decode cX12_layTried 39 = .ok (.getfield 94, 3) := by decide +kernel
theorem dX12_layTried_42 : decode cX12_layTried 42 = .ok (.bipush 12, 2) := by decide +kernel
theorem dX12_layTried_44 : decode cX12_layTried 44 = .ok (.iload_n 1, 1) := by decide +kernel
theorem dX12_layTried_45 : decode cX12_layTried 45 = .ok (.iadd, 1) := by decide +kernel
theorem dX12_layTried_46 : decode cX12_layTried 46 = .ok (.aload_n 0, 1) := by decide +kernel
theorem dX12_layTried_47 : decode cX12_layTried 47 = .ok (.getfield 94, 3) := by decide +kernel
theorem dX12_layTried_50 : decode cX12_layTried 50 = .ok (.iload_n 1, 1) := by decide +kernel
theorem dX12_layTried_51 : decode cX12_layTried 51 = .ok (.baload, 1) := by decide +kernel
theorem dX12_layTried_52 : decode cX12_layTried 52 = .ok (.bastore, 1) := by decide +kernel
theorem dX12_layTried_53 : decode cX12_layTried 53 = .ok (.iinc 1 1, 3) := by decide +kernel
theorem dX12_layTried_56 : decode cX12_layTried 56 = .ok (.goto (-54), 3) := by decide +kernel
theorem dX12_layTried_59 : decode cX12_layTried 59 = .ok (.iconst 0, 1) := by decide +kernel
theorem dX12_layTried_60 : decode cX12_layTried 60 = .ok (.istore_n 1, 1) := by decide +kernel
theorem dX12_layTried_61 : decode cX12_layTried 61 = .ok (.iload_n 1, 1) := by decide +kernel
theorem dX12_layTried_62 : decode cX12_layTried 62 = .ok (.bipush 6, 2) := by decide +kernel
theorem dX12_layTried_64 : decode cX12_layTried 64 = .ok (.if_icmp .ge 84, 3) := by decide +kernel
theorem dX12_layTried_67 : decode cX12_layTried 67 = .ok (.aload_n 0, 1) := by decide +kernel
theorem dX12_layTried_68 : decode cX12_layTried 68 = .ok (.getfield 97, 3) := by decide +kernel
theorem dX12_layTried_71 : decode cX12_layTried 71 = .ok (.bipush 6, 2) := by decide +kernel
theorem dX12_layTried_73 : decode cX12_layTried 73 = .ok (.iload_n 1, 1) := by decide +kernel
theorem dX12_layTried_74 : decode cX12_layTried 74 = .ok (.iadd, 1) := by decide +kernel
theorem dX12_layTried_75 : decode cX12_layTried 75 = .ok (.aload_n 0, 1) := by decide +kernel
theorem dX12_layTried_76 : decode cX12_layTried 76 = .ok (.getfield 97, 3) := by decide +kernel
theorem dX12_layTried_79 : decode cX12_layTried 79 = .ok (.iload_n 1, 1) := by decide +kernel
theorem dX12_layTried_80 : decode cX12_layTried 80 = .ok (.iaload, 1) := by decide +kernel
theorem dX12_layTried_81 : decode cX12_layTried 81 = .ok (.iastore, 1) := by decide +kernel
theorem dX12_layTried_82 : decode cX12_layTried 82 = .ok (.aload_n 0, 1) := by decide +kernel
theorem dX12_layTried_83 : decode cX12_layTried 83 = .ok (.getfield 100, 3) := by decide +kernel
theorem dX12_layTried_86 : decode cX12_layTried 86 = .ok (.bipush 6, 2) := by decide +kernel
theorem dX12_layTried_88 : decode cX12_layTried 88 = .ok (.iload_n 1, 1) := by decide +kernel
theorem dX12_layTried_89 : decode cX12_layTried 89 = .ok (.iadd, 1) := by decide +kernel
theorem dX12_layTried_90 : decode cX12_layTried 90 = .ok (.aload_n 0, 1) := by decide +kernel
theorem dX12_layTried_91 : decode cX12_layTried 91 = .ok (.getfield 100, 3) := by decide +kernel
theorem dX12_layTried_94 : decode cX12_layTried 94 = .ok (.iload_n 1, 1) := by decide +kernel
theorem dX12_layTried_95 : decode cX12_layTried 95 = .ok (.iaload, 1) := by decide +kernel
theorem dX12_layTried_96 : decode cX12_layTried 96 = .ok (.iastore, 1) := by decide +kernel
theorem dX12_layTried_97 : decode cX12_layTried 97 = .ok (.aload_n 0, 1) := by decide +kernel
theorem dX12_layTried_98 : decode cX12_layTried 98 = .ok (.getfield 103, 3) := by decide +kernel
theorem dX12_layTried_101 : decode cX12_layTried 101 = .ok (.bipush 6, 2) := by decide +kernel
theorem dX12_layTried_103 : decode cX12_layTried 103 = .ok (.iload_n 1, 1) := by decide +kernel
theorem dX12_layTried_104 : decode cX12_layTried 104 = .ok (.iadd, 1) := by decide +kernel
theorem dX12_layTried_105 : decode cX12_layTried 105 = .ok (.aload_n 0, 1) := by decide +kernel
theorem dX12_layTried_106 : decode cX12_layTried 106 = .ok (.getfield 103, 3) := by decide +kernel
theorem dX12_layTried_109 : decode cX12_layTried 109 = .ok (.iload_n 1, 1) := by decide +kernel
theorem dX12_layTried_110 : decode cX12_layTried 110 = .ok (.iaload, 1) := by decide +kernel
theorem dX12_layTried_111 : decode cX12_layTried 111 = .ok (.iastore, 1) := by decide +kernel
theorem dX12_layTried_112 : decode cX12_layTried 112 = .ok (.aload_n 0, 1) := by decide +kernel
theorem dX12_layTried_113 : decode cX12_layTried 113 = .ok (.getfield 106, 3) := by decide +kernel
theorem dX12_layTried_116 : decode cX12_layTried 116 = .ok (.bipush 6, 2) := by decide +kernel
theorem dX12_layTried_118 : decode cX12_layTried 118 = .ok (.iload_n 1, 1) := by decide +kernel
theorem dX12_layTried_119 : decode cX12_layTried 119 = .ok (.iadd, 1) := by decide +kernel
theorem dX12_layTried_120 : decode cX12_layTried 120 = .ok (.aload_n 0, 1) := by decide +kernel
theorem dX12_layTried_121 : decode cX12_layTried 121 = .ok (.getfield 106, 3) := by decide +kernel
theorem dX12_layTried_124 : decode cX12_layTried 124 = .ok (.iload_n 1, 1) := by decide +kernel
theorem dX12_layTried_125 : decode cX12_layTried 125 = .ok (.iaload, 1) := by decide +kernel
theorem dX12_layTried_126 : decode cX12_layTried 126 = .ok (.iastore, 1) := by decide +kernel
theorem dX12_layTried_127 : decode cX12_layTried 127 = .ok (.aload_n 0, 1) := by decide +kernel
theorem dX12_layTried_128 : decode cX12_layTried 128 = .ok (.getfield 109, 3) := by decide +kernel
theorem dX12_layTried_131 : decode cX12_layTried 131 = .ok (.bipush 6, 2) := by decide +kernel
theorem dX12_layTried_133 : decode cX12_layTried 133 = .ok (.iload_n 1, 1) := by decide +kernel
theorem dX12_layTried_134 : decode cX12_layTried 134 = .ok (.iadd, 1) := by decide +kernel
theorem dX12_layTried_135 : decode cX12_layTried 135 = .ok (.aload_n 0, 1) := by decide +kernel
theorem dX12_layTried_136 : decode cX12_layTried 136 = .ok (.getfield 109, 3) := by decide +kernel
theorem dX12_layTried_139 : decode cX12_layTried 139 = .ok (.iload_n 1, 1) := by decide +kernel
theorem dX12_layTried_140 : decode cX12_layTried 140 = .ok (.iaload, 1) := by decide +kernel
theorem dX12_layTried_141 : decode cX12_layTried 141 = .ok (.iastore, 1) := by decide +kernel
theorem dX12_layTried_142 : decode cX12_layTried 142 = .ok (.iinc 1 1, 3) := by decide +kernel
theorem dX12_layTried_145 : decode cX12_layTried 145 = .ok (.goto (-84), 3) := by decide +kernel
theorem dX12_layTried_148 : decode cX12_layTried 148 = .ok (.aload_n 0, 1) := by decide +kernel
theorem dX12_layTried_149 : decode cX12_layTried 149 = .ok (.getfield 112, 3) := by decide +kernel
theorem dX12_layTried_152 : decode cX12_layTried 152 = .ok (.iconst 1, 1) := by decide +kernel
theorem dX12_layTried_153 : decode cX12_layTried 153 = .ok (.aload_n 0, 1) := by decide +kernel
theorem dX12_layTried_154 : decode cX12_layTried 154 = .ok (.getfield 112, 3) := by decide +kernel
theorem dX12_layTried_157 : decode cX12_layTried 157 = .ok (.iconst 0, 1) := by decide +kernel
theorem dX12_layTried_158 : decode cX12_layTried 158 = .ok (.iaload, 1) := by decide +kernel
theorem dX12_layTried_159 : decode cX12_layTried 159 = .ok (.iastore, 1) := by decide +kernel
theorem dX12_layTried_160 : decode cX12_layTried 160 = .ok (.aload_n 0, 1) := by decide +kernel
theorem dX12_layTried_161 : decode cX12_layTried 161 = .ok (.getfield 115, 3) := by decide +kernel
theorem dX12_layTried_164 : decode cX12_layTried 164 = .ok (.iconst 1, 1) := by decide +kernel
theorem dX12_layTried_165 : decode cX12_layTried 165 = .ok (.aload_n 0, 1) := by decide +kernel
theorem dX12_layTried_166 : decode cX12_layTried 166 = .ok (.getfield 115, 3) := by decide +kernel
theorem dX12_layTried_169 : decode cX12_layTried 169 = .ok (.iconst 0, 1) := by decide +kernel
theorem dX12_layTried_170 : decode cX12_layTried 170 = .ok (.iaload, 1) := by decide +kernel
theorem dX12_layTried_171 : decode cX12_layTried 171 = .ok (.iastore, 1) := by decide +kernel
theorem dX12_layTried_172 : decode cX12_layTried 172 = .ok (.aload_n 0, 1) := by decide +kernel
theorem dX12_layTried_173 : decode cX12_layTried 173 = .ok (.invokevirtual 344, 3) := by decide +kernel
theorem dX12_layTried_176 : decode cX12_layTried 176 = .ok (.return_, 1) := by decide +kernel
theorem dX12_isMan_0 : decode cX12_isMan 0 = .ok (.iload_n 1, 1) := by decide +kernel
theorem dX12_isMan_1 : decode cX12_isMan 1 = .ok (.ifCond .lt 15, 3) := by decide +kernel
theorem dX12_isMan_4 : decode cX12_isMan 4 = .ok (.iload_n 1, 1) := by decide +kernel
theorem dX12_isMan_5 : decode cX12_isMan 5 = .ok (.aload_n 0, 1) := by decide +kernel
theorem dX12_isMan_6 : decode cX12_isMan 6 = .ok (.getfield 222, 3) := by decide +kernel
theorem dX12_isMan_9 : decode cX12_isMan 9 = .ok (.if_icmp .ge 7, 3) := by decide +kernel
theorem dX12_isMan_12 : decode cX12_isMan 12 = .ok (.iconst 1, 1) := by decide +kernel
theorem dX12_isMan_13 : decode cX12_isMan 13 = .ok (.goto 4, 3) := by decide +kernel
theorem dX12_isMan_16 : decode cX12_isMan 16 = .ok (.iconst 0, 1) := by decide +kernel
theorem dX12_isMan_17 : decode cX12_isMan 17 = .ok (.ireturn, 1) := by decide +kernel
theorem dX12_isThought_0 : decode cX12_isThought 0 = .ok (.iload_n 1, 1) := by decide +kernel
theorem dX12_isThought_1 : decode cX12_isThought 1 = .ok (.ifCond .lt 15, 3) := by decide +kernel
theorem dX12_isThought_4 : decode cX12_isThought 4 = .ok (.iload_n 1, 1) := by decide +kernel
theorem dX12_isThought_5 : decode cX12_isThought 5 = .ok (.aload_n 0, 1) := by decide +kernel
theorem dX12_isThought_6 : decode cX12_isThought 6 = .ok (.getfield 225, 3) := by decide +kernel
theorem dX12_isThought_9 : decode cX12_isThought 9 = .ok (.if_icmp .ge 7, 3) := by decide +kernel
theorem dX12_isThought_12 : decode cX12_isThought 12 = .ok (.iconst 1, 1) := by decide +kernel
theorem dX12_isThought_13 : decode cX12_isThought 13 = .ok (.goto 4, 3) := by decide +kernel
theorem dX12_isThought_16 : decode cX12_isThought 16 = .ok (.iconst 0, 1) := by decide +kernel
theorem dX12_isThought_17 : decode cX12_isThought 17 = .ok (.ireturn, 1) := by decide +kernel
theorem dX12_isReader_0 : decode cX12_isReader 0 = .ok (.iload_n 1, 1) := by decide +kernel
theorem dX12_isReader_1 : decode cX12_isReader 1 = .ok (.ifCond .lt 15, 3) := by decide +kernel
theorem dX12_isReader_4 : decode cX12_isReader 4 = .ok (.iload_n 1, 1) := by decide +kernel
theorem dX12_isReader_5 : decode cX12_isReader 5 = .ok (.aload_n 0, 1) := by decide +kernel
theorem dX12_isReader_6 : decode cX12_isReader 6 = .ok (.getfield 228, 3) := by decide +kernel
theorem dX12_isReader_9 : decode cX12_isReader 9 = .ok (.if_icmp .ge 7, 3) := by decide +kernel
theorem dX12_isReader_12 : decode cX12_isReader 12 = .ok (.iconst 1, 1) := by decide +kernel
theorem dX12_isReader_13 : decode cX12_isReader 13 = .ok (.goto 4, 3) := by decide +kernel
theorem dX12_isReader_16 : decode cX12_isReader 16 = .ok (.iconst 0, 1) := by decide +kernel
theorem dX12_isReader_17 : decode cX12_isReader 17 = .ok (.ireturn, 1) := by decide +kernel
theorem dX12_wilesOf_0 : decode cX12_wilesOf 0 = .ok (.aload_n 0, 1) := by decide +kernel
theorem dX12_wilesOf_1 : decode cX12_wilesOf 1 = .ok (.getfield 359, 3) := by decide +kernel
theorem dX12_wilesOf_4 : decode cX12_wilesOf 4 = .ok (.ifCond .eq 7, 3) := by decide +kernel
theorem dX12_wilesOf_7 : decode cX12_wilesOf 7 = .ok (.iconst 0, 1) := by decide +kernel
theorem dX12_wilesOf_8 : decode cX12_wilesOf 8 = .ok (.goto 9, 3) := by decide +kernel
theorem dX12_wilesOf_11 : decode cX12_wilesOf 11 = .ok (.aload_n 0, 1) := by decide +kernel
theorem dX12_wilesOf_12 : decode cX12_wilesOf 12 = .ok (.getfield 33, 3) := by decide +kernel
theorem dX12_wilesOf_15 : decode cX12_wilesOf 15 = .ok (.iload_n 1, 1) := by decide +kernel
theorem dX12_wilesOf_16 : decode cX12_wilesOf 16 = .ok (.iaload, 1) := by decide +kernel
theorem dX12_wilesOf_17 : decode cX12_wilesOf 17 = .ok (.ireturn, 1) := by decide +kernel
theorem dX12_skillIn_0 : decode cX12_skillIn 0 = .ok (.iload_n 1, 1) := by decide +kernel
theorem dX12_skillIn_1 : decode cX12_skillIn 1 = .ok (.ifCond .ge 7, 3) := by decide +kernel
theorem dX12_skillIn_4 : decode cX12_skillIn 4 = .ok (.iconst 0, 1) := by decide +kernel
theorem dX12_skillIn_5 : decode cX12_skillIn 5 = .ok (.goto 36, 3) := by decide +kernel
theorem dX12_skillIn_8 : decode cX12_skillIn 8 = .ok (.aload_n 0, 1) := by decide +kernel
theorem dX12_skillIn_9 : decode cX12_skillIn 9 = .ok (.getfield 365, 3) := by decide +kernel
theorem dX12_skillIn_12 : decode cX12_skillIn 12 = .ok (.ifCond .eq 8, 3) := by decide +kernel
theorem dX12_skillIn_15 : decode cX12_skillIn 15 = .ok (.bipush 9, 2) := by decide +kernel
theorem dX12_skillIn_17 : decode cX12_skillIn 17 = .ok (.goto 24, 3) := by decide +kernel
theorem dX12_skillIn_20 : decode cX12_skillIn 20 = .ok (.iload_n 1, 1) := by decide +kernel
theorem dX12_skillIn_21 : decode cX12_skillIn 21 = .ok (.aload_n 0, 1) := by decide +kernel
theorem dX12_skillIn_22 : decode cX12_skillIn 22 = .ok (.getfield 377, 3) := by decide +kernel
theorem dX12_skillIn_25 : decode cX12_skillIn 25 = .ok (.if_icmp .ne 10, 3) := by decide +kernel
theorem dX12_skillIn_28 : decode cX12_skillIn 28 = .ok (.aload_n 0, 1) := by decide +kernel
theorem dX12_skillIn_29 : decode cX12_skillIn 29 = .ok (.getfield 380, 3) := by decide +kernel
theorem dX12_skillIn_32 : decode cX12_skillIn 32 = .ok (.goto 9, 3) := by decide +kernel
theorem dX12_skillIn_35 : decode cX12_skillIn 35 = .ok (.aload_n 0, 1) := by decide +kernel
theorem dX12_skillIn_36 : decode cX12_skillIn 36 = .ok (.getfield 51, 3) := by decide +kernel
theorem dX12_skillIn_39 : decode cX12_skillIn 39 = .ok (.iload_n 1, 1) := by decide +kernel
theorem dX12_skillIn_40 : decode cX12_skillIn 40 = .ok (.iaload, 1) := by decide +kernel
theorem dX12_skillIn_41 : decode cX12_skillIn 41 = .ok (.ireturn, 1) := by decide +kernel
theorem dX12_knows_0 : decode cX12_knows 0 = .ok (.aload_n 0, 1) := by decide +kernel
theorem dX12_knows_1 : decode cX12_knows 1 = .ok (.getfield 362, 3) := by decide +kernel
theorem dX12_knows_4 : decode cX12_knows 4 = .ok (.ifCond .ne 21, 3) := by decide +kernel
theorem dX12_knows_7 : decode cX12_knows 7 = .ok (.aload_n 0, 1) := by decide +kernel
theorem dX12_knows_8 : decode cX12_knows 8 = .ok (.getfield 54, 3) := by decide +kernel
theorem dX12_knows_11 : decode cX12_knows 11 = .ok (.iload_n 1, 1) := by decide +kernel
theorem dX12_knows_12 : decode cX12_knows 12 = .ok (.iaload, 1) := by decide +kernel
theorem dX12_knows_13 : decode cX12_knows 13 = .ok (.aload_n 0, 1) := by decide +kernel
theorem dX12_knows_14 : decode cX12_knows 14 = .ok (.getfield 45, 3) := by decide +kernel
theorem dX12_knows_17 : decode cX12_knows 17 = .ok (.iload_n 2, 1) := by decide +kernel
theorem dX12_knows_18 : decode cX12_knows 18 = .ok (.iaload, 1) := by decide +kernel
theorem dX12_knows_19 : decode cX12_knows 19 = .ok (.invokestatic 383, 3) := by decide +kernel
theorem dX12_knows_22 : decode cX12_knows 22 = .ok (.ifCond .eq 7, 3) := by decide +kernel
theorem dX12_knows_25 : decode cX12_knows 25 = .ok (.iconst 1, 1) := by decide +kernel
theorem dX12_knows_26 : decode cX12_knows 26 = .ok (.goto 4, 3) := by decide +kernel
theorem dX12_knows_29 : decode cX12_knows 29 = .ok (.iconst 0, 1) := by decide +kernel
theorem dX12_knows_30 : decode cX12_knows 30 = .ok (.ireturn, 1) := by decide +kernel
theorem dX12_there_0 : decode cX12_there 0 = .ok (.iconst 0, 1) := by decide +kernel
theorem dX12_there_1 : decode cX12_there 1 = .ok (.istore_n 3, 1) := by decide +kernel
theorem dX12_there_2 : decode cX12_there 2 = .ok (.iconst 0, 1) := by decide +kernel
theorem dX12_there_3 : decode cX12_there 3 = .ok (.istore 4, 2) := by decide +kernel
theorem dX12_there_5 : decode cX12_there 5 = .ok (.iload 4, 2) := by decide +kernel
theorem dX12_there_7 : decode cX12_there 7 = .ok (.aload_n 0, 1) := by decide +kernel
theorem dX12_there_8 : decode cX12_there 8 = .ok (.getfield 225, 3) := by decide +kernel
theorem dX12_there_11 : decode cX12_there 11 = .ok (.if_icmp .ge 49, 3) := by decide +kernel
theorem dX12_there_14 : decode cX12_there 14 = .ok (.iload_n 3, 1) := by decide +kernel
theorem dX12_there_15 : decode cX12_there 15 = .ok (.aload_n 0, 1) := by decide +kernel
theorem dX12_there_16 : decode cX12_there 16 = .ok (.getfield 88, 3) := by decide +kernel
theorem dX12_there_19 : decode cX12_there 19 = .ok (.bipush 12, 2) := by decide +kernel
theorem dX12_there_21 : decode cX12_there 21 = .ok (.iload_n 1, 1) := by decide +kernel
theorem dX12_there_22 : decode cX12_there 22 = .ok (.imul, 1) := by decide +kernel
theorem dX12_there_23 : decode cX12_there 23 = .ok (.iload 4, 2) := by decide +kernel
theorem dX12_there_25 : decode cX12_there 25 = .ok (.iadd, 1) := by decide +kernel
theorem dX12_there_26 : decode cX12_there 26 = .ok (.iaload, 1) := by decide +kernel
theorem dX12_there_27 : decode cX12_there 27 = .ok (.iconst 1, 1) := by decide +kernel
theorem dX12_there_28 : decode cX12_there 28 = .ok (.if_icmp .ne 23, 3) := by decide +kernel
theorem dX12_there_31 : decode cX12_there 31 = .ok (.aload_n 0, 1) := by decide +kernel
theorem dX12_there_32 : decode cX12_there 32 = .ok (.getfield 91, 3) := by decide +kernel
theorem dX12_there_35 : decode cX12_there 35 = .ok (.bipush 12, 2) := by decide +kernel
theorem dX12_there_37 : decode cX12_there 37 = .ok (.iload_n 1, 1) := by decide +kernel
theorem dX12_there_38 : decode cX12_there 38 = .ok (.imul, 1) := by decide +kernel
theorem dX12_there_39 : decode cX12_there 39 = .ok (.iload 4, 2) := by decide +kernel
theorem dX12_there_41 : decode cX12_there 41 = .ok (.iadd, 1) := by decide +kernel
theorem dX12_there_42 : decode cX12_there 42 = .ok (.iaload, 1) := by decide +kernel
theorem dX12_there_43 : decode cX12_there 43 = .ok (.iload_n 2, 1) := by decide +kernel
theorem dX12_there_44 : decode cX12_there 44 = .ok (.if_icmp .ne 7, 3) := by decide +kernel
theorem dX12_there_47 : decode cX12_there 47 = .ok (.iconst 1, 1) := by decide +kernel
theorem dX12_there_48 : decode cX12_there 48 = .ok (.goto 4, 3) := by decide +kernel
theorem dX12_there_51 : decode cX12_there 51 = .ok (.iconst 0, 1) := by decide +kernel
theorem dX12_there_52 : decode cX12_there 52 = .ok (.iadd, 1) := by decide +kernel
theorem dX12_there_53 : decode cX12_there 53 = .ok (.istore_n 3, 1) := by decide +kernel
theorem dX12_there_54 : decode cX12_there 54 = .ok (.iinc 4 1, 3) := by decide +kernel
theorem dX12_there_57 : decode cX12_there 57 = .ok (.goto (-52), 3) := by decide +kernel
theorem dX12_there_60 : decode cX12_there 60 = .ok (.iload_n 3, 1) := by decide +kernel
theorem dX12_there_61 : decode cX12_there 61 = .ok (.ireturn, 1) := by decide +kernel
theorem dX12_layNames_0 : decode cX12_layNames 0 = .ok (.aload_n 0, 1) := by decide +kernel
theorem dX12_layNames_1 : decode cX12_layNames 1 = .ok (.getfield 81, 3) := by decide +kernel
theorem dX12_layNames_4 : decode cX12_layNames 4 = .ok (.iconst 0, 1) := by decide +kernel
theorem dX12_layNames_5 : decode cX12_layNames 5 = .ok (.iload_n 2, 1) := by decide +kernel
theorem dX12_layNames_6 : decode cX12_layNames 6 = .ok (.i2l, 1) := by decide +kernel
theorem dX12_layNames_7 : decode cX12_layNames 7 = .ok (.lastore, 1) := by decide +kernel
theorem dX12_layNames_8 : decode cX12_layNames 8 = .ok (.aload_n 0, 1) := by decide +kernel
theorem dX12_layNames_9 : decode cX12_layNames 9 = .ok (.getfield 81, 3) := by decide +kernel
theorem dX12_layNames_12 : decode cX12_layNames 12 = .ok (.iconst 1, 1) := by decide +kernel
theorem dX12_layNames_13 : decode cX12_layNames 13 = .ok (.iload_n 3, 1) := by decide +kernel
theorem dX12_layNames_14 : decode cX12_layNames 14 = .ok (.i2l, 1) := by decide +kernel
theorem dX12_layNames_15 : decode cX12_layNames 15 = .ok (.lastore, 1) := by decide +kernel
theorem dX12_layNames_16 : decode cX12_layNames 16 = .ok (.aload_n 0, 1) := by decide +kernel
theorem dX12_layNames_17 : decode cX12_layNames 17 = .ok (.getfield 81, 3) := by decide +kernel
theorem dX12_layNames_20 : decode cX12_layNames 20 = .ok (.iconst 2, 1) := by decide +kernel
theorem dX12_layNames_21 : decode cX12_layNames 21 = .ok (.aload_n 0, 1) := by decide +kernel
theorem dX12_layNames_22 : decode cX12_layNames 22 = .ok (.getfield 97, 3) := by decide +kernel
theorem dX12_layNames_25 : decode cX12_layNames 25 = .ok (.bipush 6, 2) := by decide +kernel
theorem dX12_layNames_27 : decode cX12_layNames 27 = .ok (.iload_n 1, 1) := by decide +kernel
theorem dX12_layNames_28 : decode cX12_layNames 28 = .ok (.imul, 1) := by decide +kernel
theorem dX12_layNames_29 : decode cX12_layNames 29 = .ok (.iload 4, 2) := by decide +kernel
theorem dX12_layNames_31 : decode cX12_layNames 31 = .ok (.iadd, 1) := by decide +kernel
theorem dX12_layNames_32 : decode cX12_layNames 32 = .ok (.iaload, 1) := by decide +kernel
theorem dX12_layNames_33 : decode cX12_layNames 33 = .ok (.i2l, 1) := by decide +kernel
theorem dX12_layNames_34 : decode cX12_layNames 34 = .ok (.lastore, 1) := by decide +kernel
theorem dX12_layNames_35 : decode cX12_layNames 35 = .ok (.aload_n 0, 1) := by decide +kernel
theorem dX12_layNames_36 : decode cX12_layNames 36 = .ok (.getfield 81, 3) := by decide +kernel
theorem dX12_layNames_39 : decode cX12_layNames 39 = .ok (.iconst 3, 1) := by decide +kernel
theorem dX12_layNames_40 : decode cX12_layNames 40 = .ok (.aload_n 0, 1) := by decide +kernel
theorem dX12_layNames_41 : decode cX12_layNames 41 = .ok (.iload 4, 2) := by decide +kernel
theorem dX12_layNames_43 : decode cX12_layNames 43 = .ok (.invokevirtual 386, 3) := by decide +kernel
theorem dX12_layNames_46 : decode cX12_layNames 46 = .ok (.i2l, 1) := by decide +kernel
theorem dX12_layNames_47 : decode cX12_layNames 47 = .ok (.lastore, 1) := by decide +kernel
theorem dX12_layNames_48 : decode cX12_layNames 48 = .ok (.aload_n 0, 1) := by decide +kernel
theorem dX12_layNames_49 : decode cX12_layNames 49 = .ok (.getfield 81, 3) := by decide +kernel
theorem dX12_layNames_52 : decode cX12_layNames 52 = .ok (.iconst 4, 1) := by decide +kernel
theorem dX12_layNames_53 : decode cX12_layNames 53 = .ok (.aload_n 0, 1) := by decide +kernel
theorem dX12_layNames_54 : decode cX12_layNames 54 = .ok (.getfield 106, 3) := by decide +kernel
theorem dX12_layNames_57 : decode cX12_layNames 57 = .ok (.bipush 6, 2) := by decide +kernel
theorem dX12_layNames_59 : decode cX12_layNames 59 = .ok (.iload_n 1, 1) := by decide +kernel
theorem dX12_layNames_60 : decode cX12_layNames 60 = .ok (.imul, 1) := by decide +kernel
theorem dX12_layNames_61 : decode cX12_layNames 61 = .ok (.iload 4, 2) := by decide +kernel
theorem dX12_layNames_63 : decode cX12_layNames 63 = .ok (.iadd, 1) := by decide +kernel
theorem dX12_layNames_64 : decode cX12_layNames 64 = .ok (.iaload, 1) := by decide +kernel
theorem dX12_layNames_65 : decode cX12_layNames 65 = .ok (.i2l, 1) := by decide +kernel
theorem dX12_layNames_66 : decode cX12_layNames 66 = .ok (.lastore, 1) := by decide +kernel
theorem dX12_layNames_67 : decode cX12_layNames 67 = .ok (.aload_n 0, 1) := by decide +kernel
theorem dX12_layNames_68 : decode cX12_layNames 68 = .ok (.getfield 81, 3) := by decide +kernel
theorem dX12_layNames_71 : decode cX12_layNames 71 = .ok (.iconst 5, 1) := by decide +kernel
theorem dX12_layNames_72 : decode cX12_layNames 72 = .ok (.aload_n 0, 1) := by decide +kernel
theorem dX12_layNames_73 : decode cX12_layNames 73 = .ok (.iload_n 1, 1) := by decide +kernel
theorem dX12_layNames_74 : decode cX12_layNames 74 = .ok (.iload 4, 2) := by decide +kernel
theorem dX12_layNames_76 : decode cX12_layNames 76 = .ok (.invokevirtual 389, 3) := by decide +kernel
theorem dX12_layNames_79 : decode cX12_layNames 79 = .ok (.i2l, 1) := by decide +kernel
theorem dX12_layNames_80 : decode cX12_layNames 80 = .ok (.lastore, 1) := by decide +kernel
theorem dX12_layNames_81 : decode cX12_layNames 81 = .ok (.aload_n 0, 1) := by decide +kernel
theorem dX12_layNames_82 : decode cX12_layNames 82 = .ok (.getfield 81, 3) := by decide +kernel
theorem dX12_layNames_85 : decode cX12_layNames 85 = .ok (.bipush 6, 2) := by decide +kernel
theorem dX12_layNames_87 : decode cX12_layNames 87 = .ok (.aload_n 0, 1) := by decide +kernel
theorem dX12_layNames_88 : decode cX12_layNames 88 = .ok (.getfield 115, 3) := by decide +kernel
theorem dX12_layNames_91 : decode cX12_layNames 91 = .ok (.iload_n 1, 1) := by decide +kernel
theorem dX12_layNames_92 : decode cX12_layNames 92 = .ok (.iaload, 1) := by decide +kernel
theorem dX12_layNames_93 : decode cX12_layNames 93 = .ok (.i2l, 1) := by decide +kernel
theorem dX12_layNames_94 : decode cX12_layNames 94 = .ok (.lastore, 1) := by decide +kernel
theorem dX12_layNames_95 : decode cX12_layNames 95 = .ok (.return_, 1) := by decide +kernel
theorem dX12_lawOf_0 : decode cX12_lawOf 0 = .ok (.aload_n 0, 1) := by decide +kernel
theorem dX12_lawOf_1 : decode cX12_lawOf 1 = .ok (.iconst 0, 1) := by decide +kernel
theorem dX12_lawOf_2 : decode cX12_lawOf 2 = .ok (.putfield 318, 3) := by decide +kernel
theorem dX12_lawOf_5 : decode cX12_lawOf 5 = .ok (.aload_n 0, 1) := by decide +kernel
theorem dX12_lawOf_6 : decode cX12_lawOf 6 = .ok (.getfield 60, 3) := by decide +kernel
theorem dX12_lawOf_9 : decode cX12_lawOf 9 = .ok (.iload_n 1, 1) := by decide +kernel
theorem dX12_lawOf_10 : decode cX12_lawOf 10 = .ok (.iaload, 1) := by decide +kernel
theorem dX12_lawOf_11 : decode cX12_lawOf 11 = .ok (.istore_n 2, 1) := by decide +kernel
theorem dX12_lawOf_12 : decode cX12_lawOf 12 = .ok (.iload_n 2, 1) := by decide +kernel
theorem dX12_lawOf_13 : decode cX12_lawOf 13 = .ok (.aload_n 0, 1) := by decide +kernel
theorem dX12_lawOf_14 : decode cX12_lawOf 14 = .ok (.getfield 63, 3) := by decide +kernel
theorem dX12_lawOf_17 : decode cX12_lawOf 17 = .ok (.iload_n 1, 1) := by decide +kernel
theorem dX12_lawOf_18 : decode cX12_lawOf 18 = .ok (.iaload, 1) := by decide +kernel
theorem dX12_lawOf_19 : decode cX12_lawOf 19 = .ok (.if_icmp .ge 20, 3) := by decide +kernel
theorem dX12_lawOf_22 : decode cX12_lawOf 22 = .ok (.aload_n 0, 1) := by decide +kernel
theorem dX12_lawOf_23 : decode cX12_lawOf 23 = .ok (.getfield 85, 3) := by decide +kernel
theorem dX12_lawOf_26 : decode cX12_lawOf 26 = .ok (.iload_n 2, 1) := by decide +kernel
theorem dX12_lawOf_27 : decode cX12_lawOf 27 = .ok (.aload_n 0, 1) := by decide +kernel
theorem dX12_lawOf_28 : decode cX12_lawOf 28 = .ok (.iload_n 2, 1) := by decide +kernel
theorem dX12_lawOf_29 : decode cX12_lawOf 29 = .ok (.invokevirtual 392, 3) := by decide +kernel
theorem dX12_lawOf_32 : decode cX12_lawOf 32 = .ok (.lastore, 1) := by decide +kernel
theorem dX12_lawOf_33 : decode cX12_lawOf 33 = .ok (.iinc 2 1, 3) := by decide +kernel
theorem dX12_lawOf_36 : decode cX12_lawOf 36 = .ok (.goto (-24), 3) := by decide +kernel
theorem dX12_lawOf_39 : decode cX12_lawOf 39 = .ok (.aload_n 0, 1) := by decide +kernel
theorem dX12_lawOf_40 : decode cX12_lawOf 40 = .ok (.getfield 318, 3) := by decide +kernel
theorem dX12_lawOf_43 : decode cX12_lawOf 43 = .ok (.ifCond .eq 7, 3) := by decide +kernel
theorem dX12_lawOf_46 : decode cX12_lawOf 46 = .ok (.lconst 0, 1) := by decide +kernel
theorem dX12_lawOf_47 : decode cX12_lawOf 47 = .ok (.goto 16, 3) := by decide +kernel
theorem dX12_lawOf_50 : decode cX12_lawOf 50 = .ok (.aload_n 0, 1) := by decide +kernel
theorem dX12_lawOf_51 : decode cX12_lawOf 51 = .ok (.getfield 85, 3) := by decide +kernel
theorem dX12_lawOf_54 : decode cX12_lawOf 54 = .ok (.aload_n 0, 1) := by decide +kernel
theorem dX12_lawOf_55 : decode cX12_lawOf 55 = .ok (.getfield 63, 3) := by decide +kernel
theorem dX12_lawOf_58 : decode cX12_lawOf 58 = .ok (.iload_n 1, 1) := by decide +kernel
theorem dX12_lawOf_59 : decode cX12_lawOf 59 = .ok (.iaload, 1) := by decide +kernel
theorem dX12_lawOf_60 : decode cX12_lawOf 60 = .ok (.iconst 1, 1) := by decide +kernel
theorem dX12_lawOf_61 : decode cX12_lawOf 61 = .ok (.isub, 1) := by decide +kernel
theorem dX12_lawOf_62 : decode cX12_lawOf 62 = .ok (.laload, 1) := by decide +kernel
theorem dX12_lawOf_63 : decode cX12_lawOf 63 = .ok (.lreturn, 1) := by decide +kernel
theorem dX12_within_0 : decode cX12_within 0 = .ok (.iload_n 0, 1) := by decide +kernel
theorem dX12_within_1 : decode cX12_within 1 = .ok (.ifCond .ge 7, 3) := by decide +kernel
theorem dX12_within_4 : decode cX12_within 4 = .ok (.iconst 0, 1) := by decide +kernel
theorem dX12_within_5 : decode cX12_within 5 = .ok (.goto 13, 3) := by decide +kernel
theorem dX12_within_8 : decode cX12_within 8 = .ok (.iload_n 0, 1) := by decide +kernel
theorem dX12_within_9 : decode cX12_within 9 = .ok (.iload_n 1, 1) := by decide +kernel
theorem dX12_within_10 : decode cX12_within 10 = .ok (.if_icmp .le 7, 3) := by decide +kernel
theorem dX12_within_13 : decode cX12_within 13 = .ok (.iload_n 1, 1) := by decide +kernel
theorem dX12_within_14 : decode cX12_within 14 = .ok (.goto 4, 3) := by decide +kernel
theorem dX12_within_17 : decode cX12_within 17 = .ok (.iload_n 0, 1) := by decide +kernel
theorem dX12_within_18 : decode cX12_within 18 = .ok (.ireturn, 1) := by decide +kernel
theorem dX12_boundLaw_0 : decode cX12_boundLaw 0 = .ok (.aload_n 0, 1) := by decide +kernel
theorem dX12_boundLaw_1 : decode cX12_boundLaw 1 = .ok (.getfield 57, 3) := by decide +kernel
theorem dX12_boundLaw_4 : decode cX12_boundLaw 4 = .ok (.iload_n 1, 1) := by decide +kernel
theorem dX12_boundLaw_5 : decode cX12_boundLaw 5 = .ok (.baload, 1) := by decide +kernel
theorem dX12_boundLaw_6 : decode cX12_boundLaw 6 = .ok (.ifCond .ne 5, 3) := by decide +kernel
theorem dX12_boundLaw_9 : decode cX12_boundLaw 9 = .ok (.iload_n 2, 1) := by decide +kernel
theorem dX12_boundLaw_10 : decode cX12_boundLaw 10 = .ok (.ireturn, 1) := by decide +kernel
theorem dX12_boundLaw_11 : decode cX12_boundLaw 11 = .ok (.aload_n 0, 1) := by decide +kernel
theorem dX12_boundLaw_12 : decode cX12_boundLaw 12 = .ok (.iload_n 1, 1) := by decide +kernel
theorem dX12_boundLaw_13 : decode cX12_boundLaw 13 = .ok (.invokevirtual 396, 3) := by decide +kernel
theorem dX12_boundLaw_16 : decode cX12_boundLaw 16 = .ok (.lstore 4, 2) := by decide +kernel
theorem dX12_boundLaw_18 : decode cX12_boundLaw 18 = .ok (.aload_n 0, 1) := by decide +kernel
theorem dX12_boundLaw_19 : decode cX12_boundLaw 19 = .ok (.getfield 318, 3) := by decide +kernel
theorem dX12_boundLaw_22 : decode cX12_boundLaw 22 = .ok (.ifCond .eq 5, 3) := by decide +kernel
theorem dX12_boundLaw_25 : decode cX12_boundLaw 25 = .ok (.iload_n 2, 1) := by decide +kernel
theorem dX12_boundLaw_26 : decode cX12_boundLaw 26 = .ok (.ireturn, 1) := by decide +kernel
theorem dX12_boundLaw_27 : decode cX12_boundLaw 27 = .ok (.lload 4, 2) := by decide +kernel
theorem dX12_boundLaw_29 : decode cX12_boundLaw 29 = .ok (.lconst 0, 1) := by decide +kernel
theorem dX12_boundLaw_30 : decode cX12_boundLaw 30 = .ok (.lcmp, 1) := by decide +kernel
theorem dX12_boundLaw_31 : decode cX12_boundLaw 31 = .ok (.ifCond .ge 7, 3) := by decide +kernel
theorem dX12_boundLaw_34 : decode cX12_boundLaw 34 = .ok (.iconst 0, 1) := by decide +kernel
theorem dX12_boundLaw_35 : decode cX12_boundLaw 35 = .ok (.goto 18, 3) := by decide +kernel
theorem dX12_boundLaw_38 : decode cX12_boundLaw 38 = .ok (.lload 4, 2) := by decide +kernel
theorem dX12_boundLaw_40 : decode cX12_boundLaw 40 = .ok (.iload_n 3, 1) := by decide +kernel
theorem dX12_boundLaw_41 : decode cX12_boundLaw 41 = .ok (.i2l, 1) := by decide +kernel
theorem dX12_boundLaw_42 : decode cX12_boundLaw 42 = .ok (.lcmp, 1) := by decide +kernel
theorem dX12_boundLaw_43 : decode cX12_boundLaw 43 = .ok (.ifCond .le 7, 3) := by decide +kernel
theorem dX12_boundLaw_46 : decode cX12_boundLaw 46 = .ok (.iload_n 3, 1) := by decide +kernel
theorem dX12_boundLaw_47 : decode cX12_boundLaw 47 = .ok (.goto 6, 3) := by decide +kernel
theorem dX12_boundLaw_50 : decode cX12_boundLaw 50 = .ok (.lload 4, 2) := by decide +kernel
theorem dX12_boundLaw_52 : decode cX12_boundLaw 52 = .ok (.l2i, 1) := by decide +kernel
theorem dX12_boundLaw_53 : decode cX12_boundLaw 53 = .ok (.ireturn, 1) := by decide +kernel
theorem dX12_readOf_0 : decode cX12_readOf 0 = .ok (.aload_n 0, 1) := by decide +kernel
theorem dX12_readOf_1 : decode cX12_readOf 1 = .ok (.iload_n 1, 1) := by decide +kernel
theorem dX12_readOf_2 : decode cX12_readOf 2 = .ok (.aload_n 0, 1) := by decide +kernel
theorem dX12_readOf_3 : decode cX12_readOf 3 = .ok (.getfield 39, 3) := by decide +kernel
theorem dX12_readOf_6 : decode cX12_readOf 6 = .ok (.iload_n 2, 1) := by decide +kernel
theorem dX12_readOf_7 : decode cX12_readOf 7 = .ok (.iaload, 1) := by decide +kernel
theorem dX12_readOf_8 : decode cX12_readOf 8 = .ok (.aload_n 0, 1) := by decide +kernel
theorem dX12_readOf_9 : decode cX12_readOf 9 = .ok (.iload 4, 2) := by decide +kernel
theorem dX12_readOf_11 : decode cX12_readOf 11 = .ok (.invokevirtual 399, 3) := by decide +kernel
theorem dX12_readOf_14 : decode cX12_readOf 14 = .ok (.iload_n 3, 1) := by decide +kernel
theorem dX12_readOf_15 : decode cX12_readOf 15 = .ok (.invokevirtual 402, 3) := by decide +kernel
theorem dX12_readOf_18 : decode cX12_readOf 18 = .ok (.aload_n 0, 1) := by decide +kernel
theorem dX12_readOf_19 : decode cX12_readOf 19 = .ok (.iconst 0, 1) := by decide +kernel
theorem dX12_readOf_20 : decode cX12_readOf 20 = .ok (.bipush 10, 2) := by decide +kernel
theorem dX12_readOf_22 : decode cX12_readOf 22 = .ok (.aload_n 0, 1) := by decide +kernel
theorem dX12_readOf_23 : decode cX12_readOf 23 = .ok (.iload 4, 2) := by decide +kernel
theorem dX12_readOf_25 : decode cX12_readOf 25 = .ok (.invokevirtual 399, 3) := by decide +kernel
theorem dX12_readOf_28 : decode cX12_readOf 28 = .ok (.imul, 1) := by decide +kernel
theorem dX12_readOf_29 : decode cX12_readOf 29 = .ok (.iconst 5, 1) := by decide +kernel
theorem dX12_readOf_30 : decode cX12_readOf 30 = .ok (.aload_n 0, 1) := by decide +kernel
theorem dX12_readOf_31 : decode cX12_readOf 31 = .ok (.iload_n 3, 1) := by decide +kernel
theorem dX12_readOf_32 : decode cX12_readOf 32 = .ok (.invokevirtual 386, 3) := by decide +kernel
theorem dX12_readOf_35 : decode cX12_readOf 35 = .ok (.imul, 1) := by decide +kernel
theorem dX12_readOf_36 : decode cX12_readOf 36 = .ok (.isub, 1) := by decide +kernel
theorem dX12_readOf_37 : decode cX12_readOf 37 = .ok (.bipush 10, 2) := by decide +kernel
theorem dX12_readOf_39 : decode cX12_readOf 39 = .ok (.aload_n 0, 1) := by decide +kernel
theorem dX12_readOf_40 : decode cX12_readOf 40 = .ok (.getfield 106, 3) := by decide +kernel
theorem dX12_readOf_43 : decode cX12_readOf 43 = .ok (.bipush 6, 2) := by decide +kernel
theorem dX12_readOf_45 : decode cX12_readOf 45 = .ok (.iload_n 1, 1) := by decide +kernel
theorem dX12_readOf_46 : decode cX12_readOf 46 = .ok (.imul, 1) := by decide +kernel
theorem dX12_readOf_47 : decode cX12_readOf 47 = .ok (.iload_n 3, 1) := by decide +kernel
theorem dX12_readOf_48 : decode cX12_readOf 48 = .ok (.iadd, 1) := by decide +kernel
theorem dX12_readOf_49 : decode cX12_readOf 49 = .ok (.iaload, 1) := by decide +kernel
theorem dX12_readOf_50 : decode cX12_readOf 50 = .ok (.imul, 1) := by decide +kernel
theorem dX12_readOf_51 : decode cX12_readOf 51 = .ok (.isub, 1) := by decide +kernel
theorem dX12_readOf_52 : decode cX12_readOf 52 = .ok (.bipush 100, 2) := by decide +kernel
theorem dX12_readOf_54 : decode cX12_readOf 54 = .ok (.invokestatic 406, 3) := by decide +kernel
theorem dX12_readOf_57 : decode cX12_readOf 57 = .ok (.bipush 100, 2) := by decide +kernel
theorem dX12_readOf_59 : decode cX12_readOf 59 = .ok (.invokevirtual 409, 3) := by decide +kernel
theorem dX12_readOf_62 : decode cX12_readOf 62 = .ok (.ireturn, 1) := by decide +kernel
theorem dX12_number1_0 : decode cX12_number1 0 = .ok (.aload_n 0, 1) := by decide +kernel
theorem dX12_number1_1 : decode cX12_number1 1 = .ok (.aload_n 0, 1) := by decide +kernel
theorem dX12_number1_2 : decode cX12_number1 2 = .ok (.getfield 340, 3) := by decide +kernel
theorem dX12_number1_5 : decode cX12_number1 5 = .ok (.ldc2_w 413, 3) := by decide +kernel
theorem dX12_number1_8 : decode cX12_number1 8 = .ok (.lmul, 1) := by decide +kernel
theorem dX12_number1_9 : decode cX12_number1 9 = .ok (.ldc2_w 415, 3) := by decide +kernel
theorem dX12_number1_12 : decode cX12_number1 12 = .ok (.ladd, 1) := by decide +kernel
theorem dX12_number1_13 : decode cX12_number1 13 = .ok (.ldc2_w 417, 3) := by decide +kernel
theorem dX12_number1_16 : decode cX12_number1 16 = .ok (.land, 1) := by decide +kernel
theorem dX12_number1_17 : decode cX12_number1 17 = .ok (.putfield 340, 3) := by decide +kernel
theorem dX12_number1_20 : decode cX12_number1 20 = .ok (.aload_n 0, 1) := by decide +kernel
theorem dX12_number1_21 : decode cX12_number1 21 = .ok (.getfield 340, 3) := by decide +kernel
theorem dX12_number1_24 : decode cX12_number1 24 = .ok (.ldc2_w 419, 3) := by decide +kernel
theorem dX12_number1_27 : decode cX12_number1 27 = .ok (.ldiv, 1) := by decide +kernel
theorem dX12_number1_28 : decode cX12_number1 28 = .ok (.iload_n 1, 1) := by decide +kernel
theorem dX12_number1_29 : decode cX12_number1 29 = .ok (.i2l, 1) := by decide +kernel
theorem dX12_number1_30 : decode cX12_number1 30 = .ok (.lrem, 1) := by decide +kernel
theorem dX12_number1_31 : decode cX12_number1 31 = .ok (.l2i, 1) := by decide +kernel
theorem dX12_number1_32 : decode cX12_number1 32 = .ok (.ireturn, 1) := by decide +kernel
theorem dX12_isReadAt_0 : decode cX12_isReadAt 0 = .ok (.aload_n 0, 1) := by decide +kernel
theorem dX12_isReadAt_1 : decode cX12_isReadAt 1 = .ok (.iload 4, 2) := by decide +kernel
theorem dX12_isReadAt_3 : decode cX12_isReadAt 3 = .ok (.iload_n 2, 1) := by decide +kernel
theorem dX12_isReadAt_4 : decode cX12_isReadAt 4 = .ok (.invokevirtual 421, 3) := by decide +kernel
theorem dX12_isReadAt_7 : decode cX12_isReadAt 7 = .ok (.ifCond .ne 5, 3) := by decide +kernel
theorem dX12_isReadAt_10 : decode cX12_isReadAt 10 = .ok (.iconst 0, 1) := by decide +kernel
theorem dX12_isReadAt_11 : decode cX12_isReadAt 11 = .ok (.ireturn, 1) := by decide +kernel
theorem dX12_isReadAt_12 : decode cX12_isReadAt 12 = .ok (.aload_n 0, 1) := by decide +kernel
theorem dX12_isReadAt_13 : decode cX12_isReadAt 13 = .ok (.iload_n 1, 1) := by decide +kernel
theorem dX12_isReadAt_14 : decode cX12_isReadAt 14 = .ok (.iload_n 2, 1) := by decide +kernel
theorem dX12_isReadAt_15 : decode cX12_isReadAt 15 = .ok (.iload_n 3, 1) := by decide +kernel
theorem dX12_isReadAt_16 : decode cX12_isReadAt 16 = .ok (.iload 4, 2) := by decide +kernel
theorem dX12_isReadAt_18 : decode cX12_isReadAt 18 = .ok (.invokevirtual 424, 3) := by decide +kernel
theorem dX12_isReadAt_21 : decode cX12_isReadAt 21 = .ok (.istore 5, 2) := by decide +kernel
theorem dX12_isReadAt_23 : decode cX12_isReadAt 23 = .ok (.iload 5, 2) := by decide +kernel
theorem dX12_isReadAt_25 : decode cX12_isReadAt 25 = .ok (.ifCond .eq 10, 3) := by decide +kernel
theorem dX12_isReadAt_28 : decode cX12_isReadAt 28 = .ok (.iload 5, 2) := by decide +kernel
theorem dX12_isReadAt_30 : decode cX12_isReadAt 30 = .ok (.bipush 100, 2) := by decide +kernel
theorem dX12_isReadAt_32 : decode cX12_isReadAt 32 = .ok (.if_icmp .ne 16, 3) := by decide +kernel
theorem dX12_isReadAt_35 : decode cX12_isReadAt 35 = .ok (.iload 5, 2) := by decide +kernel
theorem dX12_isReadAt_37 : decode cX12_isReadAt 37 = .ok (.bipush 100, 2) := by decide +kernel
theorem dX12_isReadAt_39 : decode cX12_isReadAt 39 = .ok (.if_icmp .ne 7, 3) := by decide +kernel
theorem dX12_isReadAt_42 : decode cX12_isReadAt 42 = .ok (.iconst 1, 1) := by decide +kernel
theorem dX12_isReadAt_43 : decode cX12_isReadAt 43 = .ok (.goto 4, 3) := by decide +kernel
theorem dX12_isReadAt_46 : decode cX12_isReadAt 46 = .ok (.iconst 0, 1) := by decide +kernel
theorem dX12_isReadAt_47 : decode cX12_isReadAt 47 = .ok (.ireturn, 1) := by decide +kernel
theorem dX12_isReadAt_48 : decode cX12_isReadAt 48 = .ok (.aload_n 0, 1) := by decide +kernel
theorem dX12_isReadAt_49 : decode cX12_isReadAt 49 = .ok (.getfield 356, 3) := by decide +kernel
theorem dX12_isReadAt_52 : decode cX12_isReadAt 52 = .ok (.ifCond .eq 22, 3) := by decide +kernel
theorem dX12_isReadAt_55 : decode cX12_isReadAt 55 = .ok (.iload 5, 2) := by decide +kernel
theorem dX12_isReadAt_57 : decode cX12_isReadAt 57 = .ok (.aload_n 0, 1) := by decide +kernel
theorem dX12_isReadAt_58 : decode cX12_isReadAt 58 = .ok (.bipush 100, 2) := by decide +kernel
theorem dX12_isReadAt_60 : decode cX12_isReadAt 60 = .ok (.invokevirtual 428, 3) := by decide +kernel
theorem dX12_isReadAt_63 : decode cX12_isReadAt 63 = .ok (.if_icmp .le 7, 3) := by decide +kernel
theorem dX12_isReadAt_66 : decode cX12_isReadAt 66 = .ok (.iconst 1, 1) := by decide +kernel
theorem dX12_isReadAt_67 : decode cX12_isReadAt 67 = .ok (.goto 19, 3) := by decide +kernel
theorem dX12_isReadAt_70 : decode cX12_isReadAt 70 = .ok (.iconst 0, 1) := by decide +kernel
theorem dX12_isReadAt_71 : decode cX12_isReadAt 71 = .ok (.goto 15, 3) := by decide +kernel
theorem dX12_isReadAt_74 : decode cX12_isReadAt 74 = .ok (.iload 5, 2) := by decide +kernel
theorem dX12_isReadAt_76 : decode cX12_isReadAt 76 = .ok (.bipush 50, 2) := by decide +kernel
theorem dX12_isReadAt_78 : decode cX12_isReadAt 78 = .ok (.if_icmp .lt 7, 3) := by decide +kernel
theorem dX12_isReadAt_81 : decode cX12_isReadAt 81 = .ok (.iconst 1, 1) := by decide +kernel
theorem dX12_isReadAt_82 : decode cX12_isReadAt 82 = .ok (.goto 4, 3) := by decide +kernel
theorem dX12_isReadAt_85 : decode cX12_isReadAt 85 = .ok (.iconst 0, 1) := by decide +kernel
theorem dX12_isReadAt_86 : decode cX12_isReadAt 86 = .ok (.ireturn, 1) := by decide +kernel
theorem dX12_visits_0 : decode cX12_visits 0 = .ok (.aload_n 0, 1) := by decide +kernel
theorem dX12_visits_1 : decode cX12_visits 1 = .ok (.getfield 109, 3) := by decide +kernel
theorem dX12_visits_4 : decode cX12_visits 4 = .ok (.bipush 6, 2) := by decide +kernel
theorem dX12_visits_6 : decode cX12_visits 6 = .ok (.iload_n 1, 1) := by decide +kernel
theorem dX12_visits_7 : decode cX12_visits 7 = .ok (.imul, 1) := by decide +kernel
theorem dX12_visits_8 : decode cX12_visits 8 = .ok (.iload_n 2, 1) := by decide +kernel
theorem dX12_visits_9 : decode cX12_visits 9 = .ok (.iadd, 1) := by decide +kernel
theorem dX12_visits_10 : decode cX12_visits 10 = .ok (.iaload, 1) := by decide +kernel
theorem dX12_visits_11 : decode cX12_visits 11 = .ok (.istore_n 3, 1) := by decide +kernel
theorem dX12_visits_12 : decode cX12_visits 12 = .ok (.iload_n 3, 1) := by decide +kernel
theorem dX12_visits_13 : decode cX12_visits 13 = .ok (.ifCond .ge 4, 3) := by decide +kernel
theorem dX12_visits_16 : decode cX12_visits 16 = .ok (.return_, 1) := by decide +kernel
theorem dX12_visits_17 : decode cX12_visits 17 = .ok (.iconst 0, 1) := by decide +kernel
theorem dX12_visits_18 : decode cX12_visits 18 = .ok (.istore 4, 2) := by decide +kernel
theorem dX12_visits_20 : decode cX12_visits 20 = .ok (.iconst 0, 1) := by decide +kernel
theorem dX12_visits_21 : decode cX12_visits 21 = .ok (.istore 5, 2) := by decide +kernel
theorem dX12_visits_23 : decode cX12_visits 23 = .ok (.iload 5, 2) := by decide +kernel
theorem dX12_visits_25 : decode cX12_visits 25 = .ok (.aload_n 0, 1) := by decide +kernel
theorem dX12_visits_26 : decode cX12_visits 26 = .ok (.getfield 225, 3) := by decide +kernel
theorem dX12_visits_29 : decode cX12_visits 29 = .ok (.if_icmp .ge 108, 3) := by decide +kernel
theorem dX12_visits_32 : decode cX12_visits 32 = .ok (.aload_n 0, 1) := by decide +kernel
theorem dX12_visits_33 : decode cX12_visits 33 = .ok (.getfield 88, 3) := by decide +kernel
theorem dX12_visits_36 : decode cX12_visits 36 = .ok (.bipush 12, 2) := by decide +kernel
theorem dX12_visits_38 : decode cX12_visits 38 = .ok (.iload_n 1, 1) := by decide +kernel
theorem dX12_visits_39 : decode cX12_visits 39 = .ok (.imul, 1) := by decide +kernel
theorem dX12_visits_40 : decode cX12_visits 40 = .ok (.iload 5, 2) := by decide +kernel
theorem dX12_visits_42 : decode cX12_visits 42 = .ok (.iadd, 1) := by decide +kernel
theorem dX12_visits_43 : decode cX12_visits 43 = .ok (.iaload, 1) := by decide +kernel
theorem dX12_visits_44 : decode cX12_visits 44 = .ok (.iconst 1, 1) := by decide +kernel
theorem dX12_visits_45 : decode cX12_visits 45 = .ok (.if_icmp .ne 86, 3) := by decide +kernel
theorem dX12_visits_48 : decode cX12_visits 48 = .ok (.aload_n 0, 1) := by decide +kernel
theorem dX12_visits_49 : decode cX12_visits 49 = .ok (.getfield 91, 3) := by decide +kernel
theorem dX12_visits_52 : decode cX12_visits 52 = .ok (.bipush 12, 2) := by decide +kernel
theorem dX12_visits_54 : decode cX12_visits 54 = .ok (.iload_n 1, 1) := by decide +kernel
theorem dX12_visits_55 : decode cX12_visits 55 = .ok (.imul, 1) := by decide +kernel
theorem dX12_visits_56 : decode cX12_visits 56 = .ok (.iload 5, 2) := by decide +kernel
theorem dX12_visits_58 : decode cX12_visits 58 = .ok (.iadd, 1) := by decide +kernel
theorem dX12_visits_59 : decode cX12_visits 59 = .ok (.iaload, 1) := by decide +kernel
theorem dX12_visits_60 : decode cX12_visits 60 = .ok (.iload_n 2, 1) := by decide +kernel
theorem dX12_visits_61 : decode cX12_visits 61 = .ok (.if_icmp .ne 70, 3) := by decide +kernel
theorem dX12_visits_64 : decode cX12_visits 64 = .ok (.aload_n 0, 1) := by decide +kernel
theorem dX12_visits_65 : decode cX12_visits 65 = .ok (.iload_n 1, 1) := by decide +kernel
theorem dX12_visits_66 : decode cX12_visits 66 = .ok (.iload 5, 2) := by decide +kernel
theorem dX12_visits_68 : decode cX12_visits 68 = .ok (.iload_n 2, 1) := by decide +kernel
theorem dX12_visits_69 : decode cX12_visits 69 = .ok (.iload_n 3, 1) := by decide +kernel
theorem dX12_visits_70 : decode cX12_visits 70 = .ok (.invokevirtual 431, 3) := by decide +kernel
theorem dX12_visits_73 : decode cX12_visits 73 = .ok (.ifCond .ne 6, 3) := by decide +kernel
theorem dX12_visits_76 : decode cX12_visits 76 = .ok (.goto 55, 3) := by decide +kernel
theorem dX12_visits_79 : decode cX12_visits 79 = .ok (.aload_n 0, 1) := by decide +kernel
theorem dX12_visits_80 : decode cX12_visits 80 = .ok (.getfield 94, 3) := by decide +kernel
theorem dX12_visits_83 : decode cX12_visits 83 = .ok (.bipush 12, 2) := by decide +kernel
theorem dX12_visits_85 : decode cX12_visits 85 = .ok (.iload_n 1, 1) := by decide +kernel
theorem dX12_visits_86 : decode cX12_visits 86 = .ok (.imul, 1) := by decide +kernel
theorem dX12_visits_87 : decode cX12_visits 87 = .ok (.iload 5, 2) := by decide +kernel
theorem dX12_visits_89 : decode cX12_visits 89 = .ok (.iadd, 1) := by decide +kernel
theorem dX12_visits_90 : decode cX12_visits 90 = .ok (.iconst 1, 1) := by decide +kernel
theorem dX12_visits_91 : decode cX12_visits 91 = .ok (.bastore, 1) := by decide +kernel
theorem dX12_visits_92 : decode cX12_visits 92 = .ok (.aload_n 0, 1) := by decide +kernel
theorem dX12_visits_93 : decode cX12_visits 93 = .ok (.dup, 1) := by decide +kernel
theorem dX12_visits_94 : decode cX12_visits 94 = .ok (.getfield 435, 3) := by decide +kernel
theorem dX12_visits_97 : decode cX12_visits 97 = .ok (.iconst 1, 1) := by decide +kernel
theorem dX12_visits_98 : decode cX12_visits 98 = .ok (.iload 5, 2) := by decide +kernel
theorem dX12_visits_100 : decode cX12_visits 100 = .ok (.ishl, 1) := by decide +kernel
theorem dX12_visits_101 : decode cX12_visits 101 = .ok (.ior, 1) := by decide +kernel
theorem dX12_visits_102 : decode cX12_visits 102 = .ok (.putfield 435, 3) := by decide +kernel
theorem dX12_visits_105 : decode cX12_visits 105 = .ok (.aload_n 0, 1) := by decide +kernel
theorem dX12_visits_106 : decode cX12_visits 106 = .ok (.getfield 39, 3) := by decide +kernel
theorem dX12_visits_109 : decode cX12_visits 109 = .ok (.iload 5, 2) := by decide +kernel
theorem dX12_visits_111 : decode cX12_visits 111 = .ok (.iaload, 1) := by decide +kernel
theorem dX12_visits_112 : decode cX12_visits 112 = .ok (.iload 4, 2) := by decide +kernel
theorem dX12_visits_114 : decode cX12_visits 114 = .ok (.if_icmp .le 13, 3) := by decide +kernel
theorem dX12_visits_117 : decode cX12_visits 117 = .ok (.aload_n 0, 1) := by decide +kernel
theorem dX12_visits_118 : decode cX12_visits 118 = .ok (.getfield 39, 3) := by decide +kernel
theorem dX12_visits_121 : decode cX12_visits 121 = .ok (.iload 5, 2) := by decide +kernel
theorem dX12_visits_123 : decode cX12_visits 123 = .ok (.iaload, 1) := by decide +kernel
theorem dX12_visits_124 : decode cX12_visits 124 = .ok (.goto 5, 3) := by decide +kernel
theorem dX12_visits_127 : decode cX12_visits 127 = .ok (.iload 4, 2) := by decide +kernel
theorem dX12_visits_129 : decode cX12_visits 129 = .ok (.istore 4, 2) := by decide +kernel
theorem dX12_visits_131 : decode cX12_visits 131 = .ok (.iinc 5 1, 3) := by decide +kernel
theorem dX12_visits_134 : decode cX12_visits 134 = .ok (.goto (-111), 3) := by decide +kernel
theorem dX12_visits_137 : decode cX12_visits 137 = .ok (.iload 4, 2) := by decide +kernel
theorem dX12_visits_139 : decode cX12_visits 139 = .ok (.ifCond .le 111, 3) := by decide +kernel
theorem dX12_visits_142 : decode cX12_visits 142 = .ok (.aload_n 0, 1) := by decide +kernel
theorem dX12_visits_143 : decode cX12_visits 143 = .ok (.iload_n 1, 1) := by decide +kernel
theorem dX12_visits_144 : decode cX12_visits 144 = .ok (.iload 4, 2) := by decide +kernel
theorem dX12_visits_146 : decode cX12_visits 146 = .ok (.aload_n 0, 1) := by decide +kernel
theorem dX12_visits_147 : decode cX12_visits 147 = .ok (.iload_n 3, 1) := by decide +kernel
theorem dX12_visits_148 : decode cX12_visits 148 = .ok (.invokevirtual 399, 3) := by decide +kernel
theorem dX12_visits_151 : decode cX12_visits 151 = .ok (.iload_n 2, 1) := by decide +kernel
theorem dX12_visits_152 : decode cX12_visits 152 = .ok (.invokevirtual 402, 3) := by decide +kernel
theorem dX12_visits_155 : decode cX12_visits 155 = .ok (.aload_n 0, 1) := by decide +kernel
theorem dX12_visits_156 : decode cX12_visits 156 = .ok (.iconst 1, 1) := by decide +kernel
theorem dX12_visits_157 : decode cX12_visits 157 = .ok (.iload 4, 2) := by decide +kernel
theorem dX12_visits_159 : decode cX12_visits 159 = .ok (.aload_n 0, 1) := by decide +kernel
theorem dX12_visits_160 : decode cX12_visits 160 = .ok (.getfield 112, 3) := by decide +kernel
theorem dX12_visits_163 : decode cX12_visits 163 = .ok (.iload_n 1, 1) := by decide +kernel
theorem dX12_visits_164 : decode cX12_visits 164 = .ok (.iaload, 1) := by decide +kernel
theorem dX12_visits_165 : decode cX12_visits 165 = .ok (.imul, 1) := by decide +kernel
theorem dX12_visits_166 : decode cX12_visits 166 = .ok (.bipush 100, 2) := by decide +kernel
theorem dX12_visits_168 : decode cX12_visits 168 = .ok (.idiv, 1) := by decide +kernel
theorem dX12_visits_169 : decode cX12_visits 169 = .ok (.sipush 999, 3) := by decide +kernel
theorem dX12_visits_172 : decode cX12_visits 172 = .ok (.invokevirtual 409, 3) := by decide +kernel
theorem dX12_visits_175 : decode cX12_visits 175 = .ok (.istore 5, 2) := by decide +kernel
theorem dX12_visits_177 : decode cX12_visits 177 = .ok (.bipush 6, 2) := by decide +kernel
theorem dX12_visits_179 : decode cX12_visits 179 = .ok (.iload_n 1, 1) := by decide +kernel
theorem dX12_visits_180 : decode cX12_visits 180 = .ok (.imul, 1) := by decide +kernel
theorem dX12_visits_181 : decode cX12_visits 181 = .ok (.iload_n 2, 1) := by decide +kernel
theorem dX12_visits_182 : decode cX12_visits 182 = .ok (.iadd, 1) := by decide +kernel
theorem dX12_visits_183 : decode cX12_visits 183 = .ok (.istore 6, 2) := by decide +kernel
theorem dX12_visits_185 : decode cX12_visits 185 = .ok (.iload 5, 2) := by decide +kernel
theorem dX12_visits_187 : decode cX12_visits 187 = .ok (.aload_n 0, 1) := by decide +kernel
theorem dX12_visits_188 : decode cX12_visits 188 = .ok (.getfield 97, 3) := by decide +kernel
theorem dX12_visits_191 : decode cX12_visits 191 = .ok (.iload 6, 2) := by decide +kernel
theorem dX12_visits_193 : decode cX12_visits 193 = .ok (.iaload, 1) := by decide +kernel
theorem dX12_visits_194 : decode cX12_visits 194 = .ok (.if_icmp .ge 8, 3) := by decide +kernel
theorem dX12_visits_197 : decode cX12_visits 197 = .ok (.iload 5, 2) := by decide +kernel
theorem dX12_visits_199 : decode cX12_visits 199 = .ok (.goto 10, 3) := by decide +kernel
theorem dX12_visits_202 : decode cX12_visits 202 = .ok (.aload_n 0, 1) := by decide +kernel
theorem dX12_visits_203 : decode cX12_visits 203 = .ok (.getfield 97, 3) := by decide +kernel
theorem dX12_visits_206 : decode cX12_visits 206 = .ok (.iload 6, 2) := by decide +kernel
theorem dX12_visits_208 : decode cX12_visits 208 = .ok (.iaload, 1) := by decide +kernel
theorem dX12_visits_209 : decode cX12_visits 209 = .ok (.istore 7, 2) := by decide +kernel
theorem dX12_visits_211 : decode cX12_visits 211 = .ok (.aload_n 0, 1) := by decide +kernel
theorem dX12_visits_212 : decode cX12_visits 212 = .ok (.getfield 97, 3) := by decide +kernel
theorem dX12_visits_215 : decode cX12_visits 215 = .ok (.iload 6, 2) := by decide +kernel
theorem dX12_visits_217 : decode cX12_visits 217 = .ok (.dup2, 1) := by decide +kernel
theorem dX12_visits_218 : decode cX12_visits 218 = .ok (.iaload, 1) := by decide +kernel
theorem dX12_visits_219 : decode cX12_visits 219 = .ok (.iload 7, 2) := by decide +kernel
theorem dX12_visits_221 : decode cX12_visits 221 = .ok (.isub, 1) := by decide +kernel
theorem dX12_visits_222 : decode cX12_visits 222 = .ok (.iastore, 1) := by decide +kernel
theorem dX12_visits_223 : decode cX12_visits 223 = .ok (.aload_n 0, 1) := by decide +kernel
theorem dX12_visits_224 : decode cX12_visits 224 = .ok (.getfield 100, 3) := by decide +kernel
theorem dX12_visits_227 : decode cX12_visits 227 = .ok (.iload 6, 2) := by decide +kernel
theorem dX12_visits_229 : decode cX12_visits 229 = .ok (.dup2, 1) := by decide +kernel
theorem dX12_visits_230 : decode cX12_visits 230 = .ok (.iaload, 1) := by decide +kernel
theorem dX12_visits_231 : decode cX12_visits 231 = .ok (.iload 7, 2) := by decide +kernel
theorem dX12_visits_233 : decode cX12_visits 233 = .ok (.iadd, 1) := by decide +kernel
theorem dX12_visits_234 : decode cX12_visits 234 = .ok (.iastore, 1) := by decide +kernel
theorem dX12_visits_235 : decode cX12_visits 235 = .ok (.aload_n 0, 1) := by decide +kernel
theorem dX12_visits_236 : decode cX12_visits 236 = .ok (.getfield 103, 3) := by decide +kernel
theorem dX12_visits_239 : decode cX12_visits 239 = .ok (.iload 6, 2) := by decide +kernel
theorem dX12_visits_241 : decode cX12_visits 241 = .ok (.dup2, 1) := by decide +kernel
theorem dX12_visits_242 : decode cX12_visits 242 = .ok (.iaload, 1) := by decide +kernel
theorem dX12_visits_243 : decode cX12_visits 243 = .ok (.iload 5, 2) := by decide +kernel
theorem dX12_visits_245 : decode cX12_visits 245 = .ok (.iload 7, 2) := by decide +kernel
theorem dX12_visits_247 : decode cX12_visits 247 = .ok (.isub, 1) := by decide +kernel
theorem dX12_visits_248 : decode cX12_visits 248 = .ok (.iadd, 1) := by decide +kernel
theorem dX12_visits_249 : decode cX12_visits 249 = .ok (.iastore, 1) := by decide +kernel
theorem dX12_visits_250 : decode cX12_visits 250 = .ok (.aload_n 0, 1) := by decide +kernel
theorem dX12_visits_251 : decode cX12_visits 251 = .ok (.getfield 106, 3) := by decide +kernel
theorem dX12_visits_254 : decode cX12_visits 254 = .ok (.bipush 6, 2) := by decide +kernel
theorem dX12_visits_256 : decode cX12_visits 256 = .ok (.iload_n 1, 1) := by decide +kernel
theorem dX12_visits_257 : decode cX12_visits 257 = .ok (.imul, 1) := by decide +kernel
theorem dX12_visits_258 : decode cX12_visits 258 = .ok (.iload_n 2, 1) := by decide +kernel
theorem dX12_visits_259 : decode cX12_visits 259 = .ok (.iadd, 1) := by decide +kernel
theorem dX12_visits_260 : decode cX12_visits 260 = .ok (.iconst 0, 1) := by decide +kernel
theorem dX12_visits_261 : decode cX12_visits 261 = .ok (.iastore, 1) := by decide +kernel
theorem dX12_visits_262 : decode cX12_visits 262 = .ok (.return_, 1) := by decide +kernel
theorem dX12_fades_0 : decode cX12_fades 0 = .ok (.aload_n 0, 1) := by decide +kernel
theorem dX12_fades_1 : decode cX12_fades 1 = .ok (.getfield 91, 3) := by decide +kernel
theorem dX12_fades_4 : decode cX12_fades 4 = .ok (.bipush 12, 2) := by decide +kernel
theorem dX12_fades_6 : decode cX12_fades 6 = .ok (.iload_n 1, 1) := by decide +kernel
theorem dX12_fades_7 : decode cX12_fades 7 = .ok (.imul, 1) := by decide +kernel
theorem dX12_fades_8 : decode cX12_fades 8 = .ok (.iload_n 2, 1) := by decide +kernel
theorem dX12_fades_9 : decode cX12_fades 9 = .ok (.iadd, 1) := by decide +kernel
theorem dX12_fades_10 : decode cX12_fades 10 = .ok (.iaload, 1) := by decide +kernel
theorem dX12_fades_11 : decode cX12_fades 11 = .ok (.istore_n 3, 1) := by decide +kernel
theorem dX12_fades_12 : decode cX12_fades 12 = .ok (.aload_n 0, 1) := by decide +kernel
theorem dX12_fades_13 : decode cX12_fades 13 = .ok (.iload_n 1, 1) := by decide +kernel
theorem dX12_fades_14 : decode cX12_fades 14 = .ok (.aload_n 0, 1) := by decide +kernel
theorem dX12_fades_15 : decode cX12_fades 15 = .ok (.getfield 39, 3) := by decide +kernel
theorem dX12_fades_18 : decode cX12_fades 18 = .ok (.iload_n 2, 1) := by decide +kernel
theorem dX12_fades_19 : decode cX12_fades 19 = .ok (.iaload, 1) := by decide +kernel
theorem dX12_fades_20 : decode cX12_fades 20 = .ok (.iconst 0, 1) := by decide +kernel
theorem dX12_fades_21 : decode cX12_fades 21 = .ok (.iload_n 3, 1) := by decide +kernel
theorem dX12_fades_22 : decode cX12_fades 22 = .ok (.invokevirtual 402, 3) := by decide +kernel
theorem dX12_fades_25 : decode cX12_fades 25 = .ok (.aload_n 0, 1) := by decide +kernel
theorem dX12_fades_26 : decode cX12_fades 26 = .ok (.iconst 2, 1) := by decide +kernel
theorem dX12_fades_27 : decode cX12_fades 27 = .ok (.bipush 8, 2) := by decide +kernel
theorem dX12_fades_29 : decode cX12_fades 29 = .ok (.aload_n 0, 1) := by decide +kernel
theorem dX12_fades_30 : decode cX12_fades 30 = .ok (.iload_n 3, 1) := by decide +kernel
theorem dX12_fades_31 : decode cX12_fades 31 = .ok (.invokevirtual 386, 3) := by decide +kernel
theorem dX12_fades_34 : decode cX12_fades 34 = .ok (.iadd, 1) := by decide +kernel
theorem dX12_fades_35 : decode cX12_fades 35 = .ok (.bipush 99, 2) := by decide +kernel
theorem dX12_fades_37 : decode cX12_fades 37 = .ok (.invokevirtual 409, 3) := by decide +kernel
theorem dX12_fades_40 : decode cX12_fades 40 = .ok (.istore 4, 2) := by decide +kernel
theorem dX12_fades_42 : decode cX12_fades 42 = .ok (.aload_n 0, 1) := by decide +kernel
theorem dX12_fades_43 : decode cX12_fades 43 = .ok (.getfield 115, 3) := by decide +kernel
theorem dX12_fades_46 : decode cX12_fades 46 = .ok (.iload_n 1, 1) := by decide +kernel
theorem dX12_fades_47 : decode cX12_fades 47 = .ok (.iaload, 1) := by decide +kernel
theorem dX12_fades_48 : decode cX12_fades 48 = .ok (.aload_n 0, 1) := by decide +kernel
theorem dX12_fades_49 : decode cX12_fades 49 = .ok (.getfield 42, 3) := by decide +kernel
theorem dX12_fades_52 : decode cX12_fades 52 = .ok (.iload_n 2, 1) := by decide +kernel
theorem dX12_fades_53 : decode cX12_fades 53 = .ok (.iaload, 1) := by decide +kernel
theorem dX12_fades_54 : decode cX12_fades 54 = .ok (.isub, 1) := by decide +kernel
theorem dX12_fades_55 : decode cX12_fades 55 = .ok (.iload 4, 2) := by decide +kernel
theorem dX12_fades_57 : decode cX12_fades 57 = .ok (.if_icmp .gt 4, 3) := by decide +kernel
theorem dX12_fades_60 : decode cX12_fades 60 = .ok (.return_, 1) := by decide +kernel
theorem dX12_fades_61 : decode cX12_fades 61 = .ok (.aload_n 0, 1) := by decide +kernel
theorem dX12_fades_62 : decode cX12_fades 62 = .ok (.getfield 88, 3) := by decide +kernel
theorem dX12_fades_65 : decode cX12_fades 65 = .ok (.bipush 12, 2) := by decide +kernel
theorem dX12_fades_67 : decode cX12_fades 67 = .ok (.iload_n 1, 1) := by decide +kernel
theorem dX12_fades_68 : decode cX12_fades 68 = .ok (.imul, 1) := by decide +kernel
theorem dX12_fades_69 : decode cX12_fades 69 = .ok (.iload_n 2, 1) := by decide +kernel
theorem dX12_fades_70 : decode cX12_fades 70 = .ok (.iadd, 1) := by decide +kernel
theorem dX12_fades_71 : decode cX12_fades 71 = .ok (.iconst 2, 1) := by decide +kernel
theorem dX12_fades_72 : decode cX12_fades 72 = .ok (.iastore, 1) := by decide +kernel
theorem dX12_fades_73 : decode cX12_fades 73 = .ok (.aload_n 0, 1) := by decide +kernel
theorem dX12_fades_74 : decode cX12_fades 74 = .ok (.getfield 91, 3) := by decide +kernel
theorem dX12_fades_77 : decode cX12_fades 77 = .ok (.bipush 12, 2) := by decide +kernel
theorem dX12_fades_79 : decode cX12_fades 79 = .ok (.iload_n 1, 1) := by decide +kernel
theorem dX12_fades_80 : decode cX12_fades 80 = .ok (.imul, 1) := by decide +kernel
theorem dX12_fades_81 : decode cX12_fades 81 = .ok (.iload_n 2, 1) := by decide +kernel
theorem dX12_fades_82 : decode cX12_fades 82 = .ok (.iadd, 1) := by decide +kernel
theorem dX12_fades_83 : decode cX12_fades 83 = .ok (.iconst (-1), 1) := by decide +kernel
theorem dX12_fades_84 : decode cX12_fades 84 = .ok (.iastore, 1) := by decide +kernel
theorem dX12_fades_85 : decode cX12_fades 85 = .ok (.return_, 1) := by decide +kernel
theorem dX12_weekGoes_0 : decode cX12_weekGoes 0 = .ok (.aload_n 0, 1) := by decide +kernel
theorem dX12_weekGoes_1 : decode cX12_weekGoes 1 = .ok (.iconst 0, 1) := by decide +kernel
theorem dX12_weekGoes_2 : decode cX12_weekGoes 2 = .ok (.putfield 435, 3) := by decide +kernel
theorem dX12_weekGoes_5 : decode cX12_weekGoes 5 = .ok (.iconst 0, 1) := by decide +kernel
theorem dX12_weekGoes_6 : decode cX12_weekGoes 6 = .ok (.istore_n 2, 1) := by decide +kernel
theorem dX12_weekGoes_7 : decode cX12_weekGoes 7 = .ok (.iload_n 2, 1) := by decide +kernel
theorem dX12_weekGoes_8 : decode cX12_weekGoes 8 = .ok (.aload_n 0, 1) := by decide +kernel
theorem dX12_weekGoes_9 : decode cX12_weekGoes 9 = .ok (.getfield 225, 3) := by decide +kernel
theorem dX12_weekGoes_12 : decode cX12_weekGoes 12 = .ok (.if_icmp .ge 91, 3) := by decide +kernel
theorem dX12_weekGoes_15 : decode cX12_weekGoes 15 = .ok (.aload_n 0, 1) := by decide +kernel
theorem dX12_weekGoes_16 : decode cX12_weekGoes 16 = .ok (.getfield 88, 3) := by decide +kernel
theorem dX12_weekGoes_19 : decode cX12_weekGoes 19 = .ok (.bipush 12, 2) := by decide +kernel
theorem dX12_weekGoes_21 : decode cX12_weekGoes 21 = .ok (.iload_n 1, 1) := by decide +kernel
theorem dX12_weekGoes_22 : decode cX12_weekGoes 22 = .ok (.imul, 1) := by decide +kernel
theorem dX12_weekGoes_23 : decode cX12_weekGoes 23 = .ok (.iload_n 2, 1) := by decide +kernel
theorem dX12_weekGoes_24 : decode cX12_weekGoes 24 = .ok (.iadd, 1) := by decide +kernel
theorem dX12_weekGoes_25 : decode cX12_weekGoes 25 = .ok (.iaload, 1) := by decide +kernel
theorem dX12_weekGoes_26 : decode cX12_weekGoes 26 = .ok (.ifCond .ne 71, 3) := by decide +kernel
theorem dX12_weekGoes_29 : decode cX12_weekGoes 29 = .ok (.aload_n 0, 1) := by decide +kernel
theorem dX12_weekGoes_30 : decode cX12_weekGoes 30 = .ok (.getfield 42, 3) := by decide +kernel
theorem dX12_weekGoes_33 : decode cX12_weekGoes 33 = .ok (.iload_n 2, 1) := by decide +kernel
theorem dX12_weekGoes_34 : decode cX12_weekGoes 34 = .ok (.iaload, 1) := by decide +kernel
theorem dX12_weekGoes_35 : decode cX12_weekGoes 35 = .ok (.aload_n 0, 1) := by decide +kernel
theorem dX12_weekGoes_36 : decode cX12_weekGoes 36 = .ok (.getfield 115, 3) := by decide +kernel
theorem dX12_weekGoes_39 : decode cX12_weekGoes 39 = .ok (.iload_n 1, 1) := by decide +kernel
theorem dX12_weekGoes_40 : decode cX12_weekGoes 40 = .ok (.iaload, 1) := by decide +kernel
theorem dX12_weekGoes_41 : decode cX12_weekGoes 41 = .ok (.if_icmp .ne 56, 3) := by decide +kernel
theorem dX12_weekGoes_44 : decode cX12_weekGoes 44 = .ok (.aload_n 0, 1) := by decide +kernel
theorem dX12_weekGoes_45 : decode cX12_weekGoes 45 = .ok (.getfield 36, 3) := by decide +kernel
theorem dX12_weekGoes_48 : decode cX12_weekGoes 48 = .ok (.iload_n 2, 1) := by decide +kernel
theorem dX12_weekGoes_49 : decode cX12_weekGoes 49 = .ok (.iaload, 1) := by decide +kernel
theorem dX12_weekGoes_50 : decode cX12_weekGoes 50 = .ok (.aload_n 0, 1) := by decide +kernel
theorem dX12_weekGoes_51 : decode cX12_weekGoes 51 = .ok (.getfield 371, 3) := by decide +kernel
theorem dX12_weekGoes_54 : decode cX12_weekGoes 54 = .ok (.if_icmp .eq 43, 3) := by decide +kernel
theorem dX12_weekGoes_57 : decode cX12_weekGoes 57 = .ok (.iload_n 2, 1) := by decide +kernel
theorem dX12_weekGoes_58 : decode cX12_weekGoes 58 = .ok (.aload_n 0, 1) := by decide +kernel
theorem dX12_weekGoes_59 : decode cX12_weekGoes 59 = .ok (.getfield 374, 3) := by decide +kernel
theorem dX12_weekGoes_62 : decode cX12_weekGoes 62 = .ok (.if_icmp .ne 6, 3) := by decide +kernel
theorem dX12_weekGoes_65 : decode cX12_weekGoes 65 = .ok (.goto 32, 3) := by decide +kernel
theorem dX12_weekGoes_68 : decode cX12_weekGoes 68 = .ok (.aload_n 0, 1) := by decide +kernel
theorem dX12_weekGoes_69 : decode cX12_weekGoes 69 = .ok (.getfield 88, 3) := by decide +kernel
theorem dX12_weekGoes_72 : decode cX12_weekGoes 72 = .ok (.bipush 12, 2) := by decide +kernel
theorem dX12_weekGoes_74 : decode cX12_weekGoes 74 = .ok (.iload_n 1, 1) := by decide +kernel
theorem dX12_weekGoes_75 : decode cX12_weekGoes 75 = .ok (.imul, 1) := by decide +kernel
theorem dX12_weekGoes_76 : decode cX12_weekGoes 76 = .ok (.iload_n 2, 1) := by decide +kernel
theorem dX12_weekGoes_77 : decode cX12_weekGoes 77 = .ok (.iadd, 1) := by decide +kernel
theorem dX12_weekGoes_78 : decode cX12_weekGoes 78 = .ok (.iconst 1, 1) := by decide +kernel
theorem dX12_weekGoes_79 : decode cX12_weekGoes 79 = .ok (.iastore, 1) := by decide +kernel
theorem dX12_weekGoes_80 : decode cX12_weekGoes 80 = .ok (.aload_n 0, 1) := by decide +kernel
theorem dX12_weekGoes_81 : decode cX12_weekGoes 81 = .ok (.getfield 91, 3) := by decide +kernel
theorem dX12_weekGoes_84 : decode cX12_weekGoes 84 = .ok (.bipush 12, 2) := by decide +kernel
theorem dX12_weekGoes_86 : decode cX12_weekGoes 86 = .ok (.iload_n 1, 1) := by decide +kernel
theorem dX12_weekGoes_87 : decode cX12_weekGoes 87 = .ok (.imul, 1) := by decide +kernel
theorem dX12_weekGoes_88 : decode cX12_weekGoes 88 = .ok (.iload_n 2, 1) := by decide +kernel
theorem dX12_weekGoes_89 : decode cX12_weekGoes 89 = .ok (.iadd, 1) := by decide +kernel
theorem dX12_weekGoes_90 : decode cX12_weekGoes 90 = .ok (.aload_n 0, 1) := by decide +kernel
theorem dX12_weekGoes_91 : decode cX12_weekGoes 91 = .ok (.getfield 36, 3) := by decide +kernel
theorem dX12_weekGoes_94 : decode cX12_weekGoes 94 = .ok (.iload_n 2, 1) := by decide +kernel
theorem dX12_weekGoes_95 : decode cX12_weekGoes 95 = .ok (.iaload, 1) := by decide +kernel
theorem dX12_weekGoes_96 : decode cX12_weekGoes 96 = .ok (.iastore, 1) := by decide +kernel
theorem dX12_weekGoes_97 : decode cX12_weekGoes 97 = .ok (.iinc 2 1, 3) := by decide +kernel
theorem dX12_weekGoes_100 : decode cX12_weekGoes 100 = .ok (.goto (-93), 3) := by decide +kernel
theorem dX12_weekGoes_103 : decode cX12_weekGoes 103 = .ok (.iconst 0, 1) := by decide +kernel
theorem dX12_weekGoes_104 : decode cX12_weekGoes 104 = .ok (.istore_n 2, 1) := by decide +kernel
theorem dX12_weekGoes_105 : decode cX12_weekGoes 105 = .ok (.iload_n 2, 1) := by decide +kernel
theorem dX12_weekGoes_106 : decode cX12_weekGoes 106 = .ok (.aload_n 0, 1) := by decide +kernel
theorem dX12_weekGoes_107 : decode cX12_weekGoes 107 = .ok (.getfield 222, 3) := by decide +kernel
theorem dX12_weekGoes_110 : decode cX12_weekGoes 110 = .ok (.if_icmp .ge 34, 3) := by decide +kernel
theorem dX12_weekGoes_113 : decode cX12_weekGoes 113 = .ok (.aload_n 0, 1) := by decide +kernel
theorem dX12_weekGoes_114 : decode cX12_weekGoes 114 = .ok (.getfield 368, 3) := by decide +kernel
theorem dX12_weekGoes_117 : decode cX12_weekGoes 117 = .ok (.ifCond .ne 15, 3) := by decide +kernel
theorem dX12_weekGoes_120 : decode cX12_weekGoes 120 = .ok (.aload_n 0, 1) := by decide +kernel
theorem dX12_weekGoes_121 : decode cX12_weekGoes 121 = .ok (.getfield 115, 3) := by decide +kernel
theorem dX12_weekGoes_124 : decode cX12_weekGoes 124 = .ok (.iload_n 1, 1) := by decide +kernel
theorem dX12_weekGoes_125 : decode cX12_weekGoes 125 = .ok (.iaload, 1) := by decide +kernel
theorem dX12_weekGoes_126 : decode cX12_weekGoes 126 = .ok (.iconst 4, 1) := by decide +kernel
theorem dX12_weekGoes_127 : decode cX12_weekGoes 127 = .ok (.irem, 1) := by decide +kernel
theorem dX12_weekGoes_128 : decode cX12_weekGoes 128 = .ok (.iconst 3, 1) := by decide +kernel
theorem dX12_weekGoes_129 : decode cX12_weekGoes 129 = .ok (.if_icmp .ne 15, 3) := by decide +kernel
theorem dX12_weekGoes_132 : decode cX12_weekGoes 132 = .ok (.aload_n 0, 1) := by decide +kernel
theorem dX12_weekGoes_133 : decode cX12_weekGoes 133 = .ok (.iload_n 1, 1) := by decide +kernel
theorem dX12_weekGoes_134 : decode cX12_weekGoes 134 = .ok (.iload_n 2, 1) := by decide +kernel
theorem dX12_weekGoes_135 : decode cX12_weekGoes 135 = .ok (.invokevirtual 438, 3) := by decide +kernel
theorem dX12_weekGoes_138 : decode cX12_weekGoes 138 = .ok (.iinc 2 1, 3) := by decide +kernel
theorem dX12_weekGoes_141 : decode cX12_weekGoes 141 = .ok (.goto (-36), 3) := by decide +kernel
theorem dX12_weekGoes_144 : decode cX12_weekGoes 144 = .ok (.iconst 0, 1) := by decide +kernel
theorem dX12_weekGoes_145 : decode cX12_weekGoes 145 = .ok (.istore_n 2, 1) := by decide +kernel
theorem dX12_weekGoes_146 : decode cX12_weekGoes 146 = .ok (.iload_n 2, 1) := by decide +kernel
theorem dX12_weekGoes_147 : decode cX12_weekGoes 147 = .ok (.aload_n 0, 1) := by decide +kernel
theorem dX12_weekGoes_148 : decode cX12_weekGoes 148 = .ok (.getfield 225, 3) := by decide +kernel
theorem dX12_weekGoes_151 : decode cX12_weekGoes 151 = .ok (.if_icmp .ge 30, 3) := by decide +kernel
theorem dX12_weekGoes_154 : decode cX12_weekGoes 154 = .ok (.aload_n 0, 1) := by decide +kernel
theorem dX12_weekGoes_155 : decode cX12_weekGoes 155 = .ok (.getfield 88, 3) := by decide +kernel
theorem dX12_weekGoes_158 : decode cX12_weekGoes 158 = .ok (.bipush 12, 2) := by decide +kernel
theorem dX12_weekGoes_160 : decode cX12_weekGoes 160 = .ok (.iload_n 1, 1) := by decide +kernel
theorem dX12_weekGoes_161 : decode cX12_weekGoes 161 = .ok (.imul, 1) := by decide +kernel
theorem dX12_weekGoes_162 : decode cX12_weekGoes 162 = .ok (.iload_n 2, 1) := by decide +kernel
theorem dX12_weekGoes_163 : decode cX12_weekGoes 163 = .ok (.iadd, 1) := by decide +kernel
theorem dX12_weekGoes_164 : decode cX12_weekGoes 164 = .ok (.iaload, 1) := by decide +kernel
theorem dX12_weekGoes_165 : decode cX12_weekGoes 165 = .ok (.iconst 1, 1) := by decide +kernel
theorem dX12_weekGoes_166 : decode cX12_weekGoes 166 = .ok (.if_icmp .ne 9, 3) := by decide +kernel
theorem dX12_weekGoes_169 : decode cX12_weekGoes 169 = .ok (.aload_n 0, 1) := by decide +kernel
theorem dX12_weekGoes_170 : decode cX12_weekGoes 170 = .ok (.iload_n 1, 1) := by decide +kernel
theorem dX12_weekGoes_171 : decode cX12_weekGoes 171 = .ok (.iload_n 2, 1) := by decide +kernel
theorem dX12_weekGoes_172 : decode cX12_weekGoes 172 = .ok (.invokevirtual 442, 3) := by decide +kernel
theorem dX12_weekGoes_175 : decode cX12_weekGoes 175 = .ok (.iinc 2 1, 3) := by decide +kernel
theorem dX12_weekGoes_178 : decode cX12_weekGoes 178 = .ok (.goto (-32), 3) := by decide +kernel
theorem dX12_weekGoes_181 : decode cX12_weekGoes 181 = .ok (.aload_n 0, 1) := by decide +kernel
theorem dX12_weekGoes_182 : decode cX12_weekGoes 182 = .ok (.getfield 115, 3) := by decide +kernel
theorem dX12_weekGoes_185 : decode cX12_weekGoes 185 = .ok (.iload_n 1, 1) := by decide +kernel
theorem dX12_weekGoes_186 : decode cX12_weekGoes 186 = .ok (.dup2, 1) := by decide +kernel
theorem dX12_weekGoes_187 : decode cX12_weekGoes 187 = .ok (.iaload, 1) := by decide +kernel
theorem dX12_weekGoes_188 : decode cX12_weekGoes 188 = .ok (.iconst 1, 1) := by decide +kernel
theorem dX12_weekGoes_189 : decode cX12_weekGoes 189 = .ok (.iadd, 1) := by decide +kernel
theorem dX12_weekGoes_190 : decode cX12_weekGoes 190 = .ok (.iastore, 1) := by decide +kernel
theorem dX12_weekGoes_191 : decode cX12_weekGoes 191 = .ok (.return_, 1) := by decide +kernel
theorem dX12_goMany_0 : decode cX12_goMany 0 = .ok (.iconst 0, 1) := by decide +kernel
theorem dX12_goMany_1 : decode cX12_goMany 1 = .ok (.istore_n 2, 1) := by decide +kernel
theorem dX12_goMany_2 : decode cX12_goMany 2 = .ok (.iload_n 2, 1) := by decide +kernel
theorem dX12_goMany_3 : decode cX12_goMany 3 = .ok (.iload_n 1, 1) := by decide +kernel
theorem dX12_goMany_4 : decode cX12_goMany 4 = .ok (.if_icmp .ge 14, 3) := by decide +kernel
theorem dX12_goMany_7 : decode cX12_goMany 7 = .ok (.aload_n 0, 1) := by decide +kernel
theorem dX12_goMany_8 : decode cX12_goMany 8 = .ok (.iconst 1, 1) := by decide +kernel
theorem dX12_goMany_9 : decode cX12_goMany 9 = .ok (.invokevirtual 445, 3) := by decide +kernel
theorem dX12_goMany_12 : decode cX12_goMany 12 = .ok (.iinc 2 1, 3) := by decide +kernel
theorem dX12_goMany_15 : decode cX12_goMany 15 = .ok (.goto (-13), 3) := by decide +kernel
theorem dX12_goMany_18 : decode cX12_goMany 18 = .ok (.return_, 1) := by decide +kernel
theorem dX12_are_0 : decode cX12_are 0 = .ok (.iconst 0, 1) := by decide +kernel
theorem dX12_are_1 : decode cX12_are 1 = .ok (.istore_n 3, 1) := by decide +kernel
theorem dX12_are_2 : decode cX12_are 2 = .ok (.iconst 0, 1) := by decide +kernel
theorem dX12_are_3 : decode cX12_are 3 = .ok (.istore 4, 2) := by decide +kernel
theorem dX12_are_5 : decode cX12_are 5 = .ok (.iload 4, 2) := by decide +kernel
theorem dX12_are_7 : decode cX12_are 7 = .ok (.aload_n 0, 1) := by decide +kernel
theorem dX12_are_8 : decode cX12_are 8 = .ok (.getfield 225, 3) := by decide +kernel
theorem dX12_are_11 : decode cX12_are 11 = .ok (.if_icmp .ge 33, 3) := by decide +kernel
theorem dX12_are_14 : decode cX12_are 14 = .ok (.iload_n 3, 1) := by decide +kernel
theorem dX12_are_15 : decode cX12_are 15 = .ok (.aload_n 0, 1) := by decide +kernel
theorem dX12_are_16 : decode cX12_are 16 = .ok (.getfield 88, 3) := by decide +kernel
theorem dX12_are_19 : decode cX12_are 19 = .ok (.bipush 12, 2) := by decide +kernel
theorem dX12_are_21 : decode cX12_are 21 = .ok (.iload_n 1, 1) := by decide +kernel
theorem dX12_are_22 : decode cX12_are 22 = .ok (.imul, 1) := by decide +kernel
theorem dX12_are_23 : decode cX12_are 23 = .ok (.iload 4, 2) := by decide +kernel
theorem dX12_are_25 : decode cX12_are 25 = .ok (.iadd, 1) := by decide +kernel
theorem dX12_are_26 : decode cX12_are 26 = .ok (.iaload, 1) := by decide +kernel
theorem dX12_are_27 : decode cX12_are 27 = .ok (.iload_n 2, 1) := by decide +kernel
theorem dX12_are_28 : decode cX12_are 28 = .ok (.if_icmp .ne 7, 3) := by decide +kernel
theorem dX12_are_31 : decode cX12_are 31 = .ok (.iconst 1, 1) := by decide +kernel
theorem dX12_are_32 : decode cX12_are 32 = .ok (.goto 4, 3) := by decide +kernel
theorem dX12_are_35 : decode cX12_are 35 = .ok (.iconst 0, 1) := by decide +kernel
theorem dX12_are_36 : decode cX12_are 36 = .ok (.iadd, 1) := by decide +kernel
theorem dX12_are_37 : decode cX12_are 37 = .ok (.istore_n 3, 1) := by decide +kernel
theorem dX12_are_38 : decode cX12_are 38 = .ok (.iinc 4 1, 3) := by decide +kernel
theorem dX12_are_41 : decode cX12_are 41 = .ok (.goto (-36), 3) := by decide +kernel
theorem dX12_are_44 : decode cX12_are 44 = .ok (.iload_n 3, 1) := by decide +kernel
theorem dX12_are_45 : decode cX12_are 45 = .ok (.ireturn, 1) := by decide +kernel
theorem dX12_paidAll_0 : decode cX12_paidAll 0 = .ok (.iconst 0, 1) := by decide +kernel
theorem dX12_paidAll_1 : decode cX12_paidAll 1 = .ok (.istore_n 2, 1) := by decide +kernel
theorem dX12_paidAll_2 : decode cX12_paidAll 2 = .ok (.iconst 0, 1) := by decide +kernel
theorem dX12_paidAll_3 : decode cX12_paidAll 3 = .ok (.istore_n 3, 1) := by decide +kernel
theorem dX12_paidAll_4 : decode cX12_paidAll 4 = .ok (.iload_n 3, 1) := by decide +kernel
theorem dX12_paidAll_5 : decode cX12_paidAll 5 = .ok (.aload_n 0, 1) := by decide +kernel
theorem dX12_paidAll_6 : decode cX12_paidAll 6 = .ok (.getfield 222, 3) := by decide +kernel
theorem dX12_paidAll_9 : decode cX12_paidAll 9 = .ok (.if_icmp .ge 23, 3) := by decide +kernel
theorem dX12_paidAll_12 : decode cX12_paidAll 12 = .ok (.iload_n 2, 1) := by decide +kernel
theorem dX12_paidAll_13 : decode cX12_paidAll 13 = .ok (.aload_n 0, 1) := by decide +kernel
theorem dX12_paidAll_14 : decode cX12_paidAll 14 = .ok (.getfield 100, 3) := by decide +kernel
theorem dX12_paidAll_17 : decode cX12_paidAll 17 = .ok (.bipush 6, 2) := by decide +kernel
theorem dX12_paidAll_19 : decode cX12_paidAll 19 = .ok (.iload_n 1, 1) := by decide +kernel
theorem dX12_paidAll_20 : decode cX12_paidAll 20 = .ok (.imul, 1) := by decide +kernel
theorem dX12_paidAll_21 : decode cX12_paidAll 21 = .ok (.iload_n 3, 1) := by decide +kernel
theorem dX12_paidAll_22 : decode cX12_paidAll 22 = .ok (.iadd, 1) := by decide +kernel
theorem dX12_paidAll_23 : decode cX12_paidAll 23 = .ok (.iaload, 1) := by decide +kernel
theorem dX12_paidAll_24 : decode cX12_paidAll 24 = .ok (.iadd, 1) := by decide +kernel
theorem dX12_paidAll_25 : decode cX12_paidAll 25 = .ok (.istore_n 2, 1) := by decide +kernel
theorem dX12_paidAll_26 : decode cX12_paidAll 26 = .ok (.iinc 3 1, 3) := by decide +kernel
theorem dX12_paidAll_29 : decode cX12_paidAll 29 = .ok (.goto (-25), 3) := by decide +kernel
theorem dX12_paidAll_32 : decode cX12_paidAll 32 = .ok (.iload_n 2, 1) := by decide +kernel
theorem dX12_paidAll_33 : decode cX12_paidAll 33 = .ok (.ireturn, 1) := by decide +kernel
theorem dX12_owedAll_0 : decode cX12_owedAll 0 = .ok (.iconst 0, 1) := by decide +kernel
theorem dX12_owedAll_1 : decode cX12_owedAll 1 = .ok (.istore_n 2, 1) := by decide +kernel
theorem dX12_owedAll_2 : decode cX12_owedAll 2 = .ok (.iconst 0, 1) := by decide +kernel
theorem dX12_owedAll_3 : decode cX12_owedAll 3 = .ok (.istore_n 3, 1) := by decide +kernel
theorem dX12_owedAll_4 : decode cX12_owedAll 4 = .ok (.iload_n 3, 1) := by decide +kernel
theorem dX12_owedAll_5 : decode cX12_owedAll 5 = .ok (.aload_n 0, 1) := by decide +kernel
theorem dX12_owedAll_6 : decode cX12_owedAll 6 = .ok (.getfield 222, 3) := by decide +kernel
theorem dX12_owedAll_9 : decode cX12_owedAll 9 = .ok (.if_icmp .ge 23, 3) := by decide +kernel
theorem dX12_owedAll_12 : decode cX12_owedAll 12 = .ok (.iload_n 2, 1) := by decide +kernel
theorem dX12_owedAll_13 : decode cX12_owedAll 13 = .ok (.aload_n 0, 1) := by decide +kernel
theorem dX12_owedAll_14 : decode cX12_owedAll 14 = .ok (.getfield 103, 3) := by decide +kernel
theorem dX12_owedAll_17 : decode cX12_owedAll 17 = .ok (.bipush 6, 2) := by decide +kernel
theorem dX12_owedAll_19 : decode cX12_owedAll 19 = .ok (.iload_n 1, 1) := by decide +kernel
theorem dX12_owedAll_20 : decode cX12_owedAll 20 = .ok (.imul, 1) := by decide +kernel
theorem dX12_owedAll_21 : decode cX12_owedAll 21 = .ok (.iload_n 3, 1) := by decide +kernel
theorem dX12_owedAll_22 : decode cX12_owedAll 22 = .ok (.iadd, 1) := by decide +kernel
theorem dX12_owedAll_23 : decode cX12_owedAll 23 = .ok (.iaload, 1) := by decide +kernel
theorem dX12_owedAll_24 : decode cX12_owedAll 24 = .ok (.iadd, 1) := by decide +kernel
theorem dX12_owedAll_25 : decode cX12_owedAll 25 = .ok (.istore_n 2, 1) := by decide +kernel
theorem dX12_owedAll_26 : decode cX12_owedAll 26 = .ok (.iinc 3 1, 3) := by decide +kernel
theorem dX12_owedAll_29 : decode cX12_owedAll 29 = .ok (.goto (-25), 3) := by decide +kernel
theorem dX12_owedAll_32 : decode cX12_owedAll 32 = .ok (.iload_n 2, 1) := by decide +kernel
theorem dX12_owedAll_33 : decode cX12_owedAll 33 = .ok (.ireturn, 1) := by decide +kernel
theorem dX12_more_0 : decode cX12_more 0 = .ok (.aload_n 0, 1) := by decide +kernel
theorem dX12_more_1 : decode cX12_more 1 = .ok (.iconst 1, 1) := by decide +kernel
theorem dX12_more_2 : decode cX12_more 2 = .ok (.invokevirtual 448, 3) := by decide +kernel
theorem dX12_more_5 : decode cX12_more 5 = .ok (.aload_n 0, 1) := by decide +kernel
theorem dX12_more_6 : decode cX12_more 6 = .ok (.iconst 1, 1) := by decide +kernel
theorem dX12_more_7 : decode cX12_more 7 = .ok (.invokevirtual 451, 3) := by decide +kernel
theorem dX12_more_10 : decode cX12_more 10 = .ok (.iadd, 1) := by decide +kernel
theorem dX12_more_11 : decode cX12_more 11 = .ok (.aload_n 0, 1) := by decide +kernel
theorem dX12_more_12 : decode cX12_more 12 = .ok (.iconst 0, 1) := by decide +kernel
theorem dX12_more_13 : decode cX12_more 13 = .ok (.invokevirtual 448, 3) := by decide +kernel
theorem dX12_more_16 : decode cX12_more 16 = .ok (.isub, 1) := by decide +kernel
theorem dX12_more_17 : decode cX12_more 17 = .ok (.aload_n 0, 1) := by decide +kernel
theorem dX12_more_18 : decode cX12_more 18 = .ok (.iconst 0, 1) := by decide +kernel
theorem dX12_more_19 : decode cX12_more 19 = .ok (.invokevirtual 451, 3) := by decide +kernel
theorem dX12_more_22 : decode cX12_more 22 = .ok (.isub, 1) := by decide +kernel
theorem dX12_more_23 : decode cX12_more 23 = .ok (.ireturn, 1) := by decide +kernel
theorem dX12_moreOf_0 : decode cX12_moreOf 0 = .ok (.aload_n 0, 1) := by decide +kernel
theorem dX12_moreOf_1 : decode cX12_moreOf 1 = .ok (.getfield 100, 3) := by decide +kernel
theorem dX12_moreOf_4 : decode cX12_moreOf 4 = .ok (.bipush 6, 2) := by decide +kernel
theorem dX12_moreOf_6 : decode cX12_moreOf 6 = .ok (.iload_n 1, 1) := by decide +kernel
theorem dX12_moreOf_7 : decode cX12_moreOf 7 = .ok (.iadd, 1) := by decide +kernel
theorem dX12_moreOf_8 : decode cX12_moreOf 8 = .ok (.iaload, 1) := by decide +kernel
theorem dX12_moreOf_9 : decode cX12_moreOf 9 = .ok (.aload_n 0, 1) := by decide +kernel
theorem dX12_moreOf_10 : decode cX12_moreOf 10 = .ok (.getfield 103, 3) := by decide +kernel
theorem dX12_moreOf_13 : decode cX12_moreOf 13 = .ok (.bipush 6, 2) := by decide +kernel
theorem dX12_moreOf_15 : decode cX12_moreOf 15 = .ok (.iload_n 1, 1) := by decide +kernel
theorem dX12_moreOf_16 : decode cX12_moreOf 16 = .ok (.iadd, 1) := by decide +kernel
theorem dX12_moreOf_17 : decode cX12_moreOf 17 = .ok (.iaload, 1) := by decide +kernel
theorem dX12_moreOf_18 : decode cX12_moreOf 18 = .ok (.iadd, 1) := by decide +kernel
theorem dX12_moreOf_19 : decode cX12_moreOf 19 = .ok (.aload_n 0, 1) := by decide +kernel
theorem dX12_moreOf_20 : decode cX12_moreOf 20 = .ok (.getfield 100, 3) := by decide +kernel
theorem dX12_moreOf_23 : decode cX12_moreOf 23 = .ok (.iload_n 1, 1) := by decide +kernel
theorem dX12_moreOf_24 : decode cX12_moreOf 24 = .ok (.iaload, 1) := by decide +kernel
theorem dX12_moreOf_25 : decode cX12_moreOf 25 = .ok (.isub, 1) := by decide +kernel
theorem dX12_moreOf_26 : decode cX12_moreOf 26 = .ok (.aload_n 0, 1) := by decide +kernel
theorem dX12_moreOf_27 : decode cX12_moreOf 27 = .ok (.getfield 103, 3) := by decide +kernel
theorem dX12_moreOf_30 : decode cX12_moreOf 30 = .ok (.iload_n 1, 1) := by decide +kernel
theorem dX12_moreOf_31 : decode cX12_moreOf 31 = .ok (.iaload, 1) := by decide +kernel
theorem dX12_moreOf_32 : decode cX12_moreOf 32 = .ok (.isub, 1) := by decide +kernel
theorem dX12_moreOf_33 : decode cX12_moreOf 33 = .ok (.ireturn, 1) := by decide +kernel
theorem dX12_fails_0 : decode cX12_fails 0 = .ok (.aload_n 0, 1) := by decide +kernel
theorem dX12_fails_1 : decode cX12_fails 1 = .ok (.iload_n 1, 1) := by decide +kernel
theorem dX12_fails_2 : decode cX12_fails 2 = .ok (.putfield 145, 3) := by decide +kernel
theorem dX12_fails_5 : decode cX12_fails 5 = .ok (.iconst 0, 1) := by decide +kernel
theorem dX12_fails_6 : decode cX12_fails 6 = .ok (.ireturn, 1) := by decide +kernel
theorem dX12_thought_0 : decode cX12_thought 0 = .ok (.aload_n 0, 1) := by decide +kernel
theorem dX12_thought_1 : decode cX12_thought 1 = .ok (.iconst 0, 1) := by decide +kernel
