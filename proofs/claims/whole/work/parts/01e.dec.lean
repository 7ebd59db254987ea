theorem dX10_copy_119 : decode cX10_copy 119 = .ok (.invokestatic 70, 3) := by decide +kernel
theorem dX10_copy_122 : decode cX10_copy 122 = .ok (.aload_n 1, 1) := by decide +kernel
theorem dX10_copy_123 : decode cX10_copy 123 = .ok (.getfield 30, 3) := by decide +kernel
theorem dX10_copy_126 : decode cX10_copy 126 = .ok (.iconst 0, 1) := by decide +kernel
theorem dX10_copy_127 : decode cX10_copy 127 = .ok (.aload_n 0, 1) := by decide +kernel
theorem dX10_copy_128 : decode cX10_copy 128 = .ok (.getfield 30, 3) := by decide +kernel
theorem dX10_copy_131 : decode cX10_copy 131 = .ok (.iconst 0, 1) := by decide +kernel
theorem dX10_copy_132 : decode cX10_copy 132 = .ok (.bipush 12, 2) := by decide +kernel
theorem dX10_copy_134 : decode cX10_copy 134 = .ok (.invokestatic 70, 3) := by decide +kernel
theorem dX10_copy_137 : decode cX10_copy 137 = .ok (.aload_n 1, 1) := by decide +kernel
theorem dX10_copy_138 : decode cX10_copy 138 = .ok (.getfield 33, 3) := by decide +kernel
theorem dX10_copy_141 : decode cX10_copy 141 = .ok (.iconst 0, 1) := by decide +kernel
theorem dX10_copy_142 : decode cX10_copy 142 = .ok (.aload_n 0, 1) := by decide +kernel
theorem dX10_copy_143 : decode cX10_copy 143 = .ok (.getfield 33, 3) := by decide +kernel
theorem dX10_copy_146 : decode cX10_copy 146 = .ok (.iconst 0, 1) := by decide +kernel
theorem dX10_copy_147 : decode cX10_copy 147 = .ok (.bipush 12, 2) := by decide +kernel
theorem dX10_copy_149 : decode cX10_copy 149 = .ok (.invokestatic 70, 3) := by decide +kernel
theorem dX10_copy_152 : decode cX10_copy 152 = .ok (.aload_n 1, 1) := by decide +kernel
theorem dX10_copy_153 : decode cX10_copy 153 = .ok (.getfield 36, 3) := by decide +kernel
theorem dX10_copy_156 : decode cX10_copy 156 = .ok (.iconst 0, 1) := by decide +kernel
theorem dX10_copy_157 : decode cX10_copy 157 = .ok (.aload_n 0, 1) := by decide +kernel
theorem dX10_copy_158 : decode cX10_copy 158 = .ok (.getfield 36, 3) := by decide +kernel
theorem dX10_copy_161 : decode cX10_copy 161 = .ok (.iconst 0, 1) := by decide +kernel
theorem dX10_copy_162 : decode cX10_copy 162 = .ok (.bipush 12, 2) := by decide +kernel
theorem dX10_copy_164 : decode cX10_copy 164 = .ok (.invokestatic 70, 3) := by decide +kernel
theorem dX10_copy_167 : decode cX10_copy 167 = .ok (.aload_n 1, 1) := by decide +kernel
theorem dX10_copy_168 : decode cX10_copy 168 = .ok (.getfield 39, 3) := by decide +kernel
theorem dX10_copy_171 : decode cX10_copy 171 = .ok (.iconst 0, 1) := by decide +kernel
theorem dX10_copy_172 : decode cX10_copy 172 = .ok (.aload_n 0, 1) := by decide +kernel
theorem dX10_copy_173 : decode cX10_copy 173 = .ok (.getfield 39, 3) := by decide +kernel
theorem dX10_copy_176 : decode cX10_copy 176 = .ok (.iconst 0, 1) := by decide +kernel
theorem dX10_copy_177 : decode cX10_copy 177 = .ok (.iconst 4, 1) := by decide +kernel
theorem dX10_copy_178 : decode cX10_copy 178 = .ok (.invokestatic 70, 3) := by decide +kernel
theorem dX10_copy_181 : decode cX10_copy 181 = .ok (.aload_n 1, 1) := by decide +kernel
theorem dX10_copy_182 : decode cX10_copy 182 = .ok (.getfield 42, 3) := by decide +kernel
theorem dX10_copy_185 : decode cX10_copy 185 = .ok (.iconst 0, 1) := by decide +kernel
theorem dX10_copy_186 : decode cX10_copy 186 = .ok (.aload_n 0, 1) := by decide +kernel
theorem dX10_copy_187 : decode cX10_copy 187 = .ok (.getfield 42, 3) := by decide +kernel
theorem dX10_copy_190 : decode cX10_copy 190 = .ok (.iconst 0, 1) := by decide +kernel
theorem dX10_copy_191 : decode cX10_copy 191 = .ok (.iconst 4, 1) := by decide +kernel
theorem dX10_copy_192 : decode cX10_copy 192 = .ok (.invokestatic 70, 3) := by decide +kernel
theorem dX10_copy_195 : decode cX10_copy 195 = .ok (.return_, 1) := by decide +kernel
theorem dX10_goWeeks_0 : decode cX10_goWeeks 0 = .ok (.iconst 0, 1) := by decide +kernel
theorem dX10_goWeeks_1 : decode cX10_goWeeks 1 = .ok (.istore_n 3, 1) := by decide +kernel
theorem dX10_goWeeks_2 : decode cX10_goWeeks 2 = .ok (.iload_n 3, 1) := by decide +kernel
theorem dX10_goWeeks_3 : decode cX10_goWeeks 3 = .ok (.iload_n 1, 1) := by decide +kernel
theorem dX10_goWeeks_4 : decode cX10_goWeeks 4 = .ok (.if_icmp .ge 116, 3) := by decide +kernel
theorem dX10_goWeeks_7 : decode cX10_goWeeks 7 = .ok (.aload_n 0, 1) := by decide +kernel
theorem dX10_goWeeks_8 : decode cX10_goWeeks 8 = .ok (.invokevirtual 90, 3) := by decide +kernel
theorem dX10_goWeeks_11 : decode cX10_goWeeks 11 = .ok (.aload_n 0, 1) := by decide +kernel
theorem dX10_goWeeks_12 : decode cX10_goWeeks 12 = .ok (.getfield 53, 3) := by decide +kernel
theorem dX10_goWeeks_15 : decode cX10_goWeeks 15 = .ok (.iconst 4, 1) := by decide +kernel
theorem dX10_goWeeks_16 : decode cX10_goWeeks 16 = .ok (.irem, 1) := by decide +kernel
theorem dX10_goWeeks_17 : decode cX10_goWeeks 17 = .ok (.iconst 3, 1) := by decide +kernel
theorem dX10_goWeeks_18 : decode cX10_goWeeks 18 = .ok (.if_icmp .ne 18, 3) := by decide +kernel
theorem dX10_goWeeks_21 : decode cX10_goWeeks 21 = .ok (.aload_n 0, 1) := by decide +kernel
theorem dX10_goWeeks_22 : decode cX10_goWeeks 22 = .ok (.getfield 49, 3) := by decide +kernel
theorem dX10_goWeeks_25 : decode cX10_goWeeks 25 = .ok (.getfield 93, 3) := by decide +kernel
theorem dX10_goWeeks_28 : decode cX10_goWeeks 28 = .ok (.bipush 6, 2) := by decide +kernel
theorem dX10_goWeeks_30 : decode cX10_goWeeks 30 = .ok (.invokestatic 96, 3) := by decide +kernel
theorem dX10_goWeeks_33 : decode cX10_goWeeks 33 = .ok (.goto 4, 3) := by decide +kernel
theorem dX10_goWeeks_36 : decode cX10_goWeeks 36 = .ok (.iconst 0, 1) := by decide +kernel
theorem dX10_goWeeks_37 : decode cX10_goWeeks 37 = .ok (.istore 4, 2) := by decide +kernel
theorem dX10_goWeeks_39 : decode cX10_goWeeks 39 = .ok (.iconst 0, 1) := by decide +kernel
theorem dX10_goWeeks_40 : decode cX10_goWeeks 40 = .ok (.istore 5, 2) := by decide +kernel
theorem dX10_goWeeks_42 : decode cX10_goWeeks 42 = .ok (.iload 5, 2) := by decide +kernel
theorem dX10_goWeeks_44 : decode cX10_goWeeks 44 = .ok (.iload 4, 2) := by decide +kernel
theorem dX10_goWeeks_46 : decode cX10_goWeeks 46 = .ok (.if_icmp .ge 54, 3) := by decide +kernel
theorem dX10_goWeeks_49 : decode cX10_goWeeks 49 = .ok (.aload_n 0, 1) := by decide +kernel
theorem dX10_goWeeks_50 : decode cX10_goWeeks 50 = .ok (.getfield 49, 3) := by decide +kernel
theorem dX10_goWeeks_53 : decode cX10_goWeeks 53 = .ok (.aload_n 0, 1) := by decide +kernel
theorem dX10_goWeeks_54 : decode cX10_goWeeks 54 = .ok (.getfield 27, 3) := by decide +kernel
theorem dX10_goWeeks_57 : decode cX10_goWeeks 57 = .ok (.iload 5, 2) := by decide +kernel
theorem dX10_goWeeks_59 : decode cX10_goWeeks 59 = .ok (.iaload, 1) := by decide +kernel
theorem dX10_goWeeks_60 : decode cX10_goWeeks 60 = .ok (.invokevirtual 102, 3) := by decide +kernel
theorem dX10_goWeeks_63 : decode cX10_goWeeks 63 = .ok (.ifCond .eq 31, 3) := by decide +kernel
theorem dX10_goWeeks_66 : decode cX10_goWeeks 66 = .ok (.aload_n 0, 1) := by decide +kernel
theorem dX10_goWeeks_67 : decode cX10_goWeeks 67 = .ok (.iload 5, 2) := by decide +kernel
theorem dX10_goWeeks_69 : decode cX10_goWeeks 69 = .ok (.aload_n 0, 1) := by decide +kernel
theorem dX10_goWeeks_70 : decode cX10_goWeeks 70 = .ok (.iload 5, 2) := by decide +kernel
theorem dX10_goWeeks_72 : decode cX10_goWeeks 72 = .ok (.aload_n 0, 1) := by decide +kernel
theorem dX10_goWeeks_73 : decode cX10_goWeeks 73 = .ok (.getfield 27, 3) := by decide +kernel
theorem dX10_goWeeks_76 : decode cX10_goWeeks 76 = .ok (.iload 5, 2) := by decide +kernel
theorem dX10_goWeeks_78 : decode cX10_goWeeks 78 = .ok (.iaload, 1) := by decide +kernel
theorem dX10_goWeeks_79 : decode cX10_goWeeks 79 = .ok (.iload_n 2, 1) := by decide +kernel
theorem dX10_goWeeks_80 : decode cX10_goWeeks 80 = .ok (.invokevirtual 106, 3) := by decide +kernel
theorem dX10_goWeeks_83 : decode cX10_goWeeks 83 = .ok (.invokevirtual 110, 3) := by decide +kernel
theorem dX10_goWeeks_86 : decode cX10_goWeeks 86 = .ok (.aload_n 0, 1) := by decide +kernel
theorem dX10_goWeeks_87 : decode cX10_goWeeks 87 = .ok (.getfield 24, 3) := by decide +kernel
theorem dX10_goWeeks_90 : decode cX10_goWeeks 90 = .ok (.iload 5, 2) := by decide +kernel
theorem dX10_goWeeks_92 : decode cX10_goWeeks 92 = .ok (.iconst 0, 1) := by decide +kernel
theorem dX10_goWeeks_93 : decode cX10_goWeeks 93 = .ok (.iastore, 1) := by decide +kernel
theorem dX10_goWeeks_94 : decode cX10_goWeeks 94 = .ok (.iinc 5 1, 3) := by decide +kernel
theorem dX10_goWeeks_97 : decode cX10_goWeeks 97 = .ok (.goto (-55), 3) := by decide +kernel
theorem dX10_goWeeks_100 : decode cX10_goWeeks 100 = .ok (.aload_n 0, 1) := by decide +kernel
theorem dX10_goWeeks_101 : decode cX10_goWeeks 101 = .ok (.invokevirtual 114, 3) := by decide +kernel
theorem dX10_goWeeks_104 : decode cX10_goWeeks 104 = .ok (.aload_n 0, 1) := by decide +kernel
theorem dX10_goWeeks_105 : decode cX10_goWeeks 105 = .ok (.dup, 1) := by decide +kernel
theorem dX10_goWeeks_106 : decode cX10_goWeeks 106 = .ok (.getfield 53, 3) := by decide +kernel
theorem dX10_goWeeks_109 : decode cX10_goWeeks 109 = .ok (.iconst 1, 1) := by decide +kernel
theorem dX10_goWeeks_110 : decode cX10_goWeeks 110 = .ok (.iadd, 1) := by decide +kernel
theorem dX10_goWeeks_111 : decode cX10_goWeeks 111 = .ok (.putfield 53, 3) := by decide +kernel
theorem dX10_goWeeks_114 : decode cX10_goWeeks 114 = .ok (.iinc 3 1, 3) := by decide +kernel
theorem dX10_goWeeks_117 : decode cX10_goWeeks 117 = .ok (.goto (-115), 3) := by decide +kernel
theorem dX10_goWeeks_120 : decode cX10_goWeeks 120 = .ok (.return_, 1) := by decide +kernel
theorem dX10_think_0 : decode cX10_think 0 = .ok (.iconst 0, 1) := by decide +kernel
theorem dX10_think_1 : decode cX10_think 1 = .ok (.istore_n 1, 1) := by decide +kernel
theorem dX10_think_2 : decode cX10_think 2 = .ok (.iload_n 1, 1) := by decide +kernel
theorem dX10_think_3 : decode cX10_think 3 = .ok (.aload_n 0, 1) := by decide +kernel
theorem dX10_think_4 : decode cX10_think 4 = .ok (.getfield 49, 3) := by decide +kernel
theorem dX10_think_7 : decode cX10_think 7 = .ok (.getfield 117, 3) := by decide +kernel
theorem dX10_think_10 : decode cX10_think 10 = .ok (.if_icmp .ge 62, 3) := by decide +kernel
theorem dX10_think_13 : decode cX10_think 13 = .ok (.iload_n 1, 1) := by decide +kernel
theorem dX10_think_14 : decode cX10_think 14 = .ok (.bipush 12, 2) := by decide +kernel
theorem dX10_think_16 : decode cX10_think 16 = .ok (.if_icmp .ge 56, 3) := by decide +kernel
theorem dX10_think_19 : decode cX10_think 19 = .ok (.aload_n 0, 1) := by decide +kernel
theorem dX10_think_20 : decode cX10_think 20 = .ok (.getfield 30, 3) := by decide +kernel
theorem dX10_think_23 : decode cX10_think 23 = .ok (.iload_n 1, 1) := by decide +kernel
theorem dX10_think_24 : decode cX10_think 24 = .ok (.iaload, 1) := by decide +kernel
theorem dX10_think_25 : decode cX10_think 25 = .ok (.ifCond .ne 41, 3) := by decide +kernel
theorem dX10_think_28 : decode cX10_think 28 = .ok (.aload_n 0, 1) := by decide +kernel
theorem dX10_think_29 : decode cX10_think 29 = .ok (.getfield 49, 3) := by decide +kernel
theorem dX10_think_32 : decode cX10_think 32 = .ok (.getfield 120, 3) := by decide +kernel
theorem dX10_think_35 : decode cX10_think 35 = .ok (.iload_n 1, 1) := by decide +kernel
theorem dX10_think_36 : decode cX10_think 36 = .ok (.iaload, 1) := by decide +kernel
theorem dX10_think_37 : decode cX10_think 37 = .ok (.aload_n 0, 1) := by decide +kernel
theorem dX10_think_38 : decode cX10_think 38 = .ok (.getfield 53, 3) := by decide +kernel
theorem dX10_think_41 : decode cX10_think 41 = .ok (.if_icmp .ne 25, 3) := by decide +kernel
theorem dX10_think_44 : decode cX10_think 44 = .ok (.aload_n 0, 1) := by decide +kernel
theorem dX10_think_45 : decode cX10_think 45 = .ok (.getfield 30, 3) := by decide +kernel
theorem dX10_think_48 : decode cX10_think 48 = .ok (.iload_n 1, 1) := by decide +kernel
theorem dX10_think_49 : decode cX10_think 49 = .ok (.iconst 1, 1) := by decide +kernel
theorem dX10_think_50 : decode cX10_think 50 = .ok (.iastore, 1) := by decide +kernel
theorem dX10_think_51 : decode cX10_think 51 = .ok (.aload_n 0, 1) := by decide +kernel
theorem dX10_think_52 : decode cX10_think 52 = .ok (.getfield 33, 3) := by decide +kernel
theorem dX10_think_55 : decode cX10_think 55 = .ok (.iload_n 1, 1) := by decide +kernel
theorem dX10_think_56 : decode cX10_think 56 = .ok (.aload_n 0, 1) := by decide +kernel
theorem dX10_think_57 : decode cX10_think 57 = .ok (.getfield 49, 3) := by decide +kernel
theorem dX10_think_60 : decode cX10_think 60 = .ok (.getfield 123, 3) := by decide +kernel
theorem dX10_think_63 : decode cX10_think 63 = .ok (.iload_n 1, 1) := by decide +kernel
theorem dX10_think_64 : decode cX10_think 64 = .ok (.iaload, 1) := by decide +kernel
theorem dX10_think_65 : decode cX10_think 65 = .ok (.iastore, 1) := by decide +kernel
theorem dX10_think_66 : decode cX10_think 66 = .ok (.iinc 1 1, 3) := by decide +kernel
theorem dX10_think_69 : decode cX10_think 69 = .ok (.goto (-67), 3) := by decide +kernel
theorem dX10_think_72 : decode cX10_think 72 = .ok (.return_, 1) := by decide +kernel
theorem dX10_pay_0 : decode cX10_pay 0 = .ok (.aload_n 0, 1) := by decide +kernel
theorem dX10_pay_1 : decode cX10_pay 1 = .ok (.getfield 49, 3) := by decide +kernel
theorem dX10_pay_4 : decode cX10_pay 4 = .ok (.iload_n 1, 1) := by decide +kernel
theorem dX10_pay_5 : decode cX10_pay 5 = .ok (.invokevirtual 126, 3) := by decide +kernel
theorem dX10_pay_8 : decode cX10_pay 8 = .ok (.ifCond .eq 46, 3) := by decide +kernel
theorem dX10_pay_11 : decode cX10_pay 11 = .ok (.iload_n 2, 1) := by decide +kernel
theorem dX10_pay_12 : decode cX10_pay 12 = .ok (.aload_n 0, 1) := by decide +kernel
theorem dX10_pay_13 : decode cX10_pay 13 = .ok (.getfield 9, 3) := by decide +kernel
theorem dX10_pay_16 : decode cX10_pay 16 = .ok (.iload_n 1, 1) := by decide +kernel
theorem dX10_pay_17 : decode cX10_pay 17 = .ok (.iaload, 1) := by decide +kernel
theorem dX10_pay_18 : decode cX10_pay 18 = .ok (.invokestatic 96, 3) := by decide +kernel
theorem dX10_pay_21 : decode cX10_pay 21 = .ok (.istore_n 3, 1) := by decide +kernel
theorem dX10_pay_22 : decode cX10_pay 22 = .ok (.aload_n 0, 1) := by decide +kernel
theorem dX10_pay_23 : decode cX10_pay 23 = .ok (.getfield 9, 3) := by decide +kernel
theorem dX10_pay_26 : decode cX10_pay 26 = .ok (.iload_n 1, 1) := by decide +kernel
theorem dX10_pay_27 : decode cX10_pay 27 = .ok (.dup2, 1) := by decide +kernel
theorem dX10_pay_28 : decode cX10_pay 28 = .ok (.iaload, 1) := by decide +kernel
theorem dX10_pay_29 : decode cX10_pay 29 = .ok (.iload_n 3, 1) := by decide +kernel
theorem dX10_pay_30 : decode cX10_pay 30 = .ok (.isub, 1) := by decide +kernel
theorem dX10_pay_31 : decode cX10_pay 31 = .ok (.iastore, 1) := by decide +kernel
theorem dX10_pay_32 : decode cX10_pay 32 = .ok (.aload_n 0, 1) := by decide +kernel
theorem dX10_pay_33 : decode cX10_pay 33 = .ok (.getfield 18, 3) := by decide +kernel
theorem dX10_pay_36 : decode cX10_pay 36 = .ok (.iload_n 1, 1) := by decide +kernel
theorem dX10_pay_37 : decode cX10_pay 37 = .ok (.dup2, 1) := by decide +kernel
theorem dX10_pay_38 : decode cX10_pay 38 = .ok (.iaload, 1) := by decide +kernel
theorem dX10_pay_39 : decode cX10_pay 39 = .ok (.iload_n 3, 1) := by decide +kernel
theorem dX10_pay_40 : decode cX10_pay 40 = .ok (.iadd, 1) := by decide +kernel
theorem dX10_pay_41 : decode cX10_pay 41 = .ok (.iastore, 1) := by decide +kernel
theorem dX10_pay_42 : decode cX10_pay 42 = .ok (.aload_n 0, 1) := by decide +kernel
theorem dX10_pay_43 : decode cX10_pay 43 = .ok (.getfield 21, 3) := by decide +kernel
theorem dX10_pay_46 : decode cX10_pay 46 = .ok (.iload_n 1, 1) := by decide +kernel
theorem dX10_pay_47 : decode cX10_pay 47 = .ok (.dup2, 1) := by decide +kernel
theorem dX10_pay_48 : decode cX10_pay 48 = .ok (.iaload, 1) := by decide +kernel
theorem dX10_pay_49 : decode cX10_pay 49 = .ok (.iload_n 2, 1) := by decide +kernel
theorem dX10_pay_50 : decode cX10_pay 50 = .ok (.iload_n 3, 1) := by decide +kernel
theorem dX10_pay_51 : decode cX10_pay 51 = .ok (.isub, 1) := by decide +kernel
theorem dX10_pay_52 : decode cX10_pay 52 = .ok (.iadd, 1) := by decide +kernel
theorem dX10_pay_53 : decode cX10_pay 53 = .ok (.iastore, 1) := by decide +kernel
theorem dX10_pay_54 : decode cX10_pay 54 = .ok (.return_, 1) := by decide +kernel
theorem dX10_forget_0 : decode cX10_forget 0 = .ok (.iconst 0, 1) := by decide +kernel
theorem dX10_forget_1 : decode cX10_forget 1 = .ok (.istore_n 1, 1) := by decide +kernel
theorem dX10_forget_2 : decode cX10_forget 2 = .ok (.iload_n 1, 1) := by decide +kernel
theorem dX10_forget_3 : decode cX10_forget 3 = .ok (.aload_n 0, 1) := by decide +kernel
theorem dX10_forget_4 : decode cX10_forget 4 = .ok (.getfield 49, 3) := by decide +kernel
theorem dX10_forget_7 : decode cX10_forget 7 = .ok (.getfield 117, 3) := by decide +kernel
theorem dX10_forget_10 : decode cX10_forget 10 = .ok (.if_icmp .ge 61, 3) := by decide +kernel
theorem dX10_forget_13 : decode cX10_forget 13 = .ok (.iload_n 1, 1) := by decide +kernel
theorem dX10_forget_14 : decode cX10_forget 14 = .ok (.bipush 12, 2) := by decide +kernel
theorem dX10_forget_16 : decode cX10_forget 16 = .ok (.if_icmp .ge 55, 3) := by decide +kernel
theorem dX10_forget_19 : decode cX10_forget 19 = .ok (.aload_n 0, 1) := by decide +kernel
theorem dX10_forget_20 : decode cX10_forget 20 = .ok (.getfield 30, 3) := by decide +kernel
theorem dX10_forget_23 : decode cX10_forget 23 = .ok (.iload_n 1, 1) := by decide +kernel
theorem dX10_forget_24 : decode cX10_forget 24 = .ok (.iaload, 1) := by decide +kernel
theorem dX10_forget_25 : decode cX10_forget 25 = .ok (.iconst 1, 1) := by decide +kernel
theorem dX10_forget_26 : decode cX10_forget 26 = .ok (.if_icmp .ne 39, 3) := by decide +kernel
theorem dX10_forget_29 : decode cX10_forget 29 = .ok (.aload_n 0, 1) := by decide +kernel
theorem dX10_forget_30 : decode cX10_forget 30 = .ok (.getfield 53, 3) := by decide +kernel
theorem dX10_forget_33 : decode cX10_forget 33 = .ok (.aload_n 0, 1) := by decide +kernel
theorem dX10_forget_34 : decode cX10_forget 34 = .ok (.getfield 49, 3) := by decide +kernel
theorem dX10_forget_37 : decode cX10_forget 37 = .ok (.getfield 120, 3) := by decide +kernel
theorem dX10_forget_40 : decode cX10_forget 40 = .ok (.iload_n 1, 1) := by decide +kernel
theorem dX10_forget_41 : decode cX10_forget 41 = .ok (.iaload, 1) := by decide +kernel
theorem dX10_forget_42 : decode cX10_forget 42 = .ok (.isub, 1) := by decide +kernel
theorem dX10_forget_43 : decode cX10_forget 43 = .ok (.aload_n 0, 1) := by decide +kernel
theorem dX10_forget_44 : decode cX10_forget 44 = .ok (.iload_n 1, 1) := by decide +kernel
theorem dX10_forget_45 : decode cX10_forget 45 = .ok (.invokevirtual 129, 3) := by decide +kernel
theorem dX10_forget_48 : decode cX10_forget 48 = .ok (.if_icmp .le 17, 3) := by decide +kernel
theorem dX10_forget_51 : decode cX10_forget 51 = .ok (.aload_n 0, 1) := by decide +kernel
theorem dX10_forget_52 : decode cX10_forget 52 = .ok (.getfield 30, 3) := by decide +kernel
theorem dX10_forget_55 : decode cX10_forget 55 = .ok (.iload_n 1, 1) := by decide +kernel
theorem dX10_forget_56 : decode cX10_forget 56 = .ok (.iconst 2, 1) := by decide +kernel
theorem dX10_forget_57 : decode cX10_forget 57 = .ok (.iastore, 1) := by decide +kernel
theorem dX10_forget_58 : decode cX10_forget 58 = .ok (.aload_n 0, 1) := by decide +kernel
theorem dX10_forget_59 : decode cX10_forget 59 = .ok (.getfield 33, 3) := by decide +kernel
theorem dX10_forget_62 : decode cX10_forget 62 = .ok (.iload_n 1, 1) := by decide +kernel
theorem dX10_forget_63 : decode cX10_forget 63 = .ok (.iconst (-1), 1) := by decide +kernel
theorem dX10_forget_64 : decode cX10_forget 64 = .ok (.iastore, 1) := by decide +kernel
theorem dX10_forget_65 : decode cX10_forget 65 = .ok (.iinc 1 1, 3) := by decide +kernel
theorem dX10_forget_68 : decode cX10_forget 68 = .ok (.goto (-66), 3) := by decide +kernel
theorem dX10_forget_71 : decode cX10_forget 71 = .ok (.return_, 1) := by decide +kernel
theorem dX10_dueAt_0 : decode cX10_dueAt 0 = .ok (.iconst 0, 1) := by decide +kernel
theorem dX10_dueAt_1 : decode cX10_dueAt 1 = .ok (.istore 4, 2) := by decide +kernel
theorem dX10_dueAt_3 : decode cX10_dueAt 3 = .ok (.iconst 0, 1) := by decide +kernel
theorem dX10_dueAt_4 : decode cX10_dueAt 4 = .ok (.istore 5, 2) := by decide +kernel
theorem dX10_dueAt_6 : decode cX10_dueAt 6 = .ok (.iload 5, 2) := by decide +kernel
theorem dX10_dueAt_8 : decode cX10_dueAt 8 = .ok (.aload_n 0, 1) := by decide +kernel
theorem dX10_dueAt_9 : decode cX10_dueAt 9 = .ok (.getfield 49, 3) := by decide +kernel
theorem dX10_dueAt_12 : decode cX10_dueAt 12 = .ok (.getfield 117, 3) := by decide +kernel
theorem dX10_dueAt_15 : decode cX10_dueAt 15 = .ok (.if_icmp .ge 62, 3) := by decide +kernel
theorem dX10_dueAt_18 : decode cX10_dueAt 18 = .ok (.iload 5, 2) := by decide +kernel
theorem dX10_dueAt_20 : decode cX10_dueAt 20 = .ok (.bipush 12, 2) := by decide +kernel
theorem dX10_dueAt_22 : decode cX10_dueAt 22 = .ok (.if_icmp .ge 55, 3) := by decide +kernel
theorem dX10_dueAt_25 : decode cX10_dueAt 25 = .ok (.aload_n 0, 1) := by decide +kernel
theorem dX10_dueAt_26 : decode cX10_dueAt 26 = .ok (.iload 5, 2) := by decide +kernel
theorem dX10_dueAt_28 : decode cX10_dueAt 28 = .ok (.iload_n 1, 1) := by decide +kernel
theorem dX10_dueAt_29 : decode cX10_dueAt 29 = .ok (.invokevirtual 133, 3) := by decide +kernel
theorem dX10_dueAt_32 : decode cX10_dueAt 32 = .ok (.ifCond .eq 39, 3) := by decide +kernel
theorem dX10_dueAt_35 : decode cX10_dueAt 35 = .ok (.aload_n 0, 1) := by decide +kernel
theorem dX10_dueAt_36 : decode cX10_dueAt 36 = .ok (.iload_n 2, 1) := by decide +kernel
theorem dX10_dueAt_37 : decode cX10_dueAt 37 = .ok (.iload 5, 2) := by decide +kernel
theorem dX10_dueAt_39 : decode cX10_dueAt 39 = .ok (.iload_n 3, 1) := by decide +kernel
theorem dX10_dueAt_40 : decode cX10_dueAt 40 = .ok (.invokevirtual 137, 3) := by decide +kernel
theorem dX10_dueAt_43 : decode cX10_dueAt 43 = .ok (.ifCond .eq 28, 3) := by decide +kernel
theorem dX10_dueAt_46 : decode cX10_dueAt 46 = .ok (.aload_n 0, 1) := by decide +kernel
theorem dX10_dueAt_47 : decode cX10_dueAt 47 = .ok (.getfield 36, 3) := by decide +kernel
theorem dX10_dueAt_50 : decode cX10_dueAt 50 = .ok (.iload 5, 2) := by decide +kernel
theorem dX10_dueAt_52 : decode cX10_dueAt 52 = .ok (.iconst 1, 1) := by decide +kernel
theorem dX10_dueAt_53 : decode cX10_dueAt 53 = .ok (.iastore, 1) := by decide +kernel
theorem dX10_dueAt_54 : decode cX10_dueAt 54 = .ok (.iload 4, 2) := by decide +kernel
theorem dX10_dueAt_56 : decode cX10_dueAt 56 = .ok (.aload_n 0, 1) := by decide +kernel
theorem dX10_dueAt_57 : decode cX10_dueAt 57 = .ok (.getfield 49, 3) := by decide +kernel
theorem dX10_dueAt_60 : decode cX10_dueAt 60 = .ok (.getfield 141, 3) := by decide +kernel
theorem dX10_dueAt_63 : decode cX10_dueAt 63 = .ok (.iload 5, 2) := by decide +kernel
theorem dX10_dueAt_65 : decode cX10_dueAt 65 = .ok (.iaload, 1) := by decide +kernel
theorem dX10_dueAt_66 : decode cX10_dueAt 66 = .ok (.invokestatic 144, 3) := by decide +kernel
theorem dX10_dueAt_69 : decode cX10_dueAt 69 = .ok (.istore 4, 2) := by decide +kernel
theorem dX10_dueAt_71 : decode cX10_dueAt 71 = .ok (.iinc 5 1, 3) := by decide +kernel
theorem dX10_dueAt_74 : decode cX10_dueAt 74 = .ok (.goto (-68), 3) := by decide +kernel
theorem dX10_dueAt_77 : decode cX10_dueAt 77 = .ok (.iload 4, 2) := by decide +kernel
theorem dX10_dueAt_79 : decode cX10_dueAt 79 = .ok (.ifCond .le 14, 3) := by decide +kernel
theorem dX10_dueAt_82 : decode cX10_dueAt 82 = .ok (.aload_n 0, 1) := by decide +kernel
theorem dX10_dueAt_83 : decode cX10_dueAt 83 = .ok (.iload_n 1, 1) := by decide +kernel
theorem dX10_dueAt_84 : decode cX10_dueAt 84 = .ok (.iload_n 2, 1) := by decide +kernel
theorem dX10_dueAt_85 : decode cX10_dueAt 85 = .ok (.iload 4, 2) := by decide +kernel
theorem dX10_dueAt_87 : decode cX10_dueAt 87 = .ok (.invokevirtual 147, 3) := by decide +kernel
theorem dX10_dueAt_90 : decode cX10_dueAt 90 = .ok (.goto 4, 3) := by decide +kernel
theorem dX10_dueAt_93 : decode cX10_dueAt 93 = .ok (.iconst 0, 1) := by decide +kernel
theorem dX10_dueAt_94 : decode cX10_dueAt 94 = .ok (.ireturn, 1) := by decide +kernel
theorem dX10_readsAny_0 : decode cX10_readsAny 0 = .ok (.iconst 0, 1) := by decide +kernel
theorem dX10_readsAny_1 : decode cX10_readsAny 1 = .ok (.istore_n 3, 1) := by decide +kernel
theorem dX10_readsAny_2 : decode cX10_readsAny 2 = .ok (.iload_n 3, 1) := by decide +kernel
theorem dX10_readsAny_3 : decode cX10_readsAny 3 = .ok (.aload_n 0, 1) := by decide +kernel
theorem dX10_readsAny_4 : decode cX10_readsAny 4 = .ok (.getfield 49, 3) := by decide +kernel
theorem dX10_readsAny_7 : decode cX10_readsAny 7 = .ok (.getfield 117, 3) := by decide +kernel
theorem dX10_readsAny_10 : decode cX10_readsAny 10 = .ok (.if_icmp .ge 36, 3) := by decide +kernel
theorem dX10_readsAny_13 : decode cX10_readsAny 13 = .ok (.iload_n 3, 1) := by decide +kernel
theorem dX10_readsAny_14 : decode cX10_readsAny 14 = .ok (.bipush 12, 2) := by decide +kernel
theorem dX10_readsAny_16 : decode cX10_readsAny 16 = .ok (.if_icmp .ge 30, 3) := by decide +kernel
theorem dX10_readsAny_19 : decode cX10_readsAny 19 = .ok (.aload_n 0, 1) := by decide +kernel
theorem dX10_readsAny_20 : decode cX10_readsAny 20 = .ok (.iload_n 3, 1) := by decide +kernel
theorem dX10_readsAny_21 : decode cX10_readsAny 21 = .ok (.iload_n 1, 1) := by decide +kernel
theorem dX10_readsAny_22 : decode cX10_readsAny 22 = .ok (.invokevirtual 133, 3) := by decide +kernel
theorem dX10_readsAny_25 : decode cX10_readsAny 25 = .ok (.ifCond .eq 15, 3) := by decide +kernel
theorem dX10_readsAny_28 : decode cX10_readsAny 28 = .ok (.aload_n 0, 1) := by decide +kernel
theorem dX10_readsAny_29 : decode cX10_readsAny 29 = .ok (.iload_n 2, 1) := by decide +kernel
theorem dX10_readsAny_30 : decode cX10_readsAny 30 = .ok (.iload_n 3, 1) := by decide +kernel
theorem dX10_readsAny_31 : decode cX10_readsAny 31 = .ok (.iconst 0, 1) := by decide +kernel
theorem dX10_readsAny_32 : decode cX10_readsAny 32 = .ok (.invokevirtual 137, 3) := by decide +kernel
theorem dX10_readsAny_35 : decode cX10_readsAny 35 = .ok (.ifCond .eq 5, 3) := by decide +kernel
theorem dX10_readsAny_38 : decode cX10_readsAny 38 = .ok (.iconst 1, 1) := by decide +kernel
theorem dX10_readsAny_39 : decode cX10_readsAny 39 = .ok (.ireturn, 1) := by decide +kernel
theorem dX10_readsAny_40 : decode cX10_readsAny 40 = .ok (.iinc 3 1, 3) := by decide +kernel
theorem dX10_readsAny_43 : decode cX10_readsAny 43 = .ok (.goto (-41), 3) := by decide +kernel
theorem dX10_readsAny_46 : decode cX10_readsAny 46 = .ok (.iconst 0, 1) := by decide +kernel
theorem dX10_readsAny_47 : decode cX10_readsAny 47 = .ok (.ireturn, 1) := by decide +kernel
theorem dX10_reads_0 : decode cX10_reads 0 = .ok (.aload_n 0, 1) := by decide +kernel
theorem dX10_reads_1 : decode cX10_reads 1 = .ok (.iload_n 1, 1) := by decide +kernel
theorem dX10_reads_2 : decode cX10_reads 2 = .ok (.iload_n 2, 1) := by decide +kernel
theorem dX10_reads_3 : decode cX10_reads 3 = .ok (.invokevirtual 151, 3) := by decide +kernel
theorem dX10_reads_6 : decode cX10_reads 6 = .ok (.ifCond .ne 5, 3) := by decide +kernel
theorem dX10_reads_9 : decode cX10_reads 9 = .ok (.iconst 0, 1) := by decide +kernel
theorem dX10_reads_10 : decode cX10_reads 10 = .ok (.ireturn, 1) := by decide +kernel
theorem dX10_reads_11 : decode cX10_reads 11 = .ok (.aload_n 0, 1) := by decide +kernel
theorem dX10_reads_12 : decode cX10_reads 12 = .ok (.iload_n 2, 1) := by decide +kernel
theorem dX10_reads_13 : decode cX10_reads 13 = .ok (.iload_n 1, 1) := by decide +kernel
theorem dX10_reads_14 : decode cX10_reads 14 = .ok (.invokevirtual 154, 3) := by decide +kernel
theorem dX10_reads_17 : decode cX10_reads 17 = .ok (.istore 4, 2) := by decide +kernel
theorem dX10_reads_19 : decode cX10_reads 19 = .ok (.iload_n 3, 1) := by decide +kernel
theorem dX10_reads_20 : decode cX10_reads 20 = .ok (.ifCond .ne 16, 3) := by decide +kernel
theorem dX10_reads_23 : decode cX10_reads 23 = .ok (.iload 4, 2) := by decide +kernel
theorem dX10_reads_25 : decode cX10_reads 25 = .ok (.bipush 50, 2) := by decide +kernel
theorem dX10_reads_27 : decode cX10_reads 27 = .ok (.if_icmp .lt 7, 3) := by decide +kernel
theorem dX10_reads_30 : decode cX10_reads 30 = .ok (.iconst 1, 1) := by decide +kernel
theorem dX10_reads_31 : decode cX10_reads 31 = .ok (.goto 4, 3) := by decide +kernel
theorem dX10_reads_34 : decode cX10_reads 34 = .ok (.iconst 0, 1) := by decide +kernel
theorem dX10_reads_35 : decode cX10_reads 35 = .ok (.ireturn, 1) := by decide +kernel
theorem dX10_reads_36 : decode cX10_reads 36 = .ok (.iload 4, 2) := by decide +kernel
theorem dX10_reads_38 : decode cX10_reads 38 = .ok (.ifCond .eq 10, 3) := by decide +kernel
theorem dX10_reads_41 : decode cX10_reads 41 = .ok (.iload 4, 2) := by decide +kernel
theorem dX10_reads_43 : decode cX10_reads 43 = .ok (.bipush 100, 2) := by decide +kernel
theorem dX10_reads_45 : decode cX10_reads 45 = .ok (.if_icmp .ne 16, 3) := by decide +kernel
theorem dX10_reads_48 : decode cX10_reads 48 = .ok (.iload 4, 2) := by decide +kernel
theorem dX10_reads_50 : decode cX10_reads 50 = .ok (.bipush 100, 2) := by decide +kernel
theorem dX10_reads_52 : decode cX10_reads 52 = .ok (.if_icmp .ne 7, 3) := by decide +kernel
theorem dX10_reads_55 : decode cX10_reads 55 = .ok (.iconst 1, 1) := by decide +kernel
theorem dX10_reads_56 : decode cX10_reads 56 = .ok (.goto 4, 3) := by decide +kernel
theorem dX10_reads_59 : decode cX10_reads 59 = .ok (.iconst 0, 1) := by decide +kernel
theorem dX10_reads_60 : decode cX10_reads 60 = .ok (.ireturn, 1) := by decide +kernel
theorem dX10_reads_61 : decode cX10_reads 61 = .ok (.iload 4, 2) := by decide +kernel
theorem dX10_reads_63 : decode cX10_reads 63 = .ok (.aload_n 0, 1) := by decide +kernel
theorem dX10_reads_64 : decode cX10_reads 64 = .ok (.invokevirtual 157, 3) := by decide +kernel
theorem dX10_reads_67 : decode cX10_reads 67 = .ok (.bipush 100, 2) := by decide +kernel
theorem dX10_reads_69 : decode cX10_reads 69 = .ok (.irem, 1) := by decide +kernel
theorem dX10_reads_70 : decode cX10_reads 70 = .ok (.if_icmp .le 7, 3) := by decide +kernel
theorem dX10_reads_73 : decode cX10_reads 73 = .ok (.iconst 1, 1) := by decide +kernel
theorem dX10_reads_74 : decode cX10_reads 74 = .ok (.goto 4, 3) := by decide +kernel
theorem dX10_reads_77 : decode cX10_reads 77 = .ok (.iconst 0, 1) := by decide +kernel
theorem dX10_reads_78 : decode cX10_reads 78 = .ok (.ireturn, 1) := by decide +kernel
theorem dX10_draw_0 : decode cX10_draw 0 = .ok (.aload_n 0, 1) := by decide +kernel
theorem dX10_draw_1 : decode cX10_draw 1 = .ok (.aload_n 0, 1) := by decide +kernel
theorem dX10_draw_2 : decode cX10_draw 2 = .ok (.getfield 66, 3) := by decide +kernel
theorem dX10_draw_5 : decode cX10_draw 5 = .ok (.i2l, 1) := by decide +kernel
theorem dX10_draw_6 : decode cX10_draw 6 = .ok (.ldc2_w 161, 3) := by decide +kernel
theorem dX10_draw_9 : decode cX10_draw 9 = .ok (.lmul, 1) := by decide +kernel
theorem dX10_draw_10 : decode cX10_draw 10 = .ok (.ldc2_w 163, 3) := by decide +kernel
theorem dX10_draw_13 : decode cX10_draw 13 = .ok (.ladd, 1) := by decide +kernel
theorem dX10_draw_14 : decode cX10_draw 14 = .ok (.ldc2_w 165, 3) := by decide +kernel
theorem dX10_draw_17 : decode cX10_draw 17 = .ok (.land, 1) := by decide +kernel
theorem dX10_draw_18 : decode cX10_draw 18 = .ok (.l2i, 1) := by decide +kernel
theorem dX10_draw_19 : decode cX10_draw 19 = .ok (.putfield 66, 3) := by decide +kernel
theorem dX10_draw_22 : decode cX10_draw 22 = .ok (.aload_n 0, 1) := by decide +kernel
theorem dX10_draw_23 : decode cX10_draw 23 = .ok (.getfield 66, 3) := by decide +kernel
theorem dX10_draw_26 : decode cX10_draw 26 = .ok (.ldc 167, 2) := by decide +kernel
theorem dX10_draw_28 : decode cX10_draw 28 = .ok (.idiv, 1) := by decide +kernel
theorem dX10_draw_29 : decode cX10_draw 29 = .ok (.ireturn, 1) := by decide +kernel
theorem dX10_knowsTongue_0 : decode cX10_knowsTongue 0 = .ok (.aload_n 0, 1) := by decide +kernel
theorem dX10_knowsTongue_1 : decode cX10_knowsTongue 1 = .ok (.getfield 49, 3) := by decide +kernel
theorem dX10_knowsTongue_4 : decode cX10_knowsTongue 4 = .ok (.iload_n 1, 1) := by decide +kernel
theorem dX10_knowsTongue_5 : decode cX10_knowsTongue 5 = .ok (.invokevirtual 102, 3) := by decide +kernel
theorem dX10_knowsTongue_8 : decode cX10_knowsTongue 8 = .ok (.ifCond .eq 40, 3) := by decide +kernel
theorem dX10_knowsTongue_11 : decode cX10_knowsTongue 11 = .ok (.aload_n 0, 1) := by decide +kernel
theorem dX10_knowsTongue_12 : decode cX10_knowsTongue 12 = .ok (.getfield 49, 3) := by decide +kernel
theorem dX10_knowsTongue_15 : decode cX10_knowsTongue 15 = .ok (.iload_n 2, 1) := by decide +kernel
theorem dX10_knowsTongue_16 : decode cX10_knowsTongue 16 = .ok (.invokevirtual 168, 3) := by decide +kernel
theorem dX10_knowsTongue_19 : decode cX10_knowsTongue 19 = .ok (.ifCond .eq 29, 3) := by decide +kernel
theorem dX10_knowsTongue_22 : decode cX10_knowsTongue 22 = .ok (.aload_n 0, 1) := by decide +kernel
theorem dX10_knowsTongue_23 : decode cX10_knowsTongue 23 = .ok (.getfield 42, 3) := by decide +kernel
theorem dX10_knowsTongue_26 : decode cX10_knowsTongue 26 = .ok (.iload_n 1, 1) := by decide +kernel
theorem dX10_knowsTongue_27 : decode cX10_knowsTongue 27 = .ok (.iaload, 1) := by decide +kernel
theorem dX10_knowsTongue_28 : decode cX10_knowsTongue 28 = .ok (.aload_n 0, 1) := by decide +kernel
theorem dX10_knowsTongue_29 : decode cX10_knowsTongue 29 = .ok (.getfield 49, 3) := by decide +kernel
theorem dX10_knowsTongue_32 : decode cX10_knowsTongue 32 = .ok (.getfield 171, 3) := by decide +kernel
theorem dX10_knowsTongue_35 : decode cX10_knowsTongue 35 = .ok (.iload_n 2, 1) := by decide +kernel
theorem dX10_knowsTongue_36 : decode cX10_knowsTongue 36 = .ok (.iaload, 1) := by decide +kernel
theorem dX10_knowsTongue_37 : decode cX10_knowsTongue 37 = .ok (.ishr, 1) := by decide +kernel
theorem dX10_knowsTongue_38 : decode cX10_knowsTongue 38 = .ok (.iconst 1, 1) := by decide +kernel
theorem dX10_knowsTongue_39 : decode cX10_knowsTongue 39 = .ok (.iand, 1) := by decide +kernel
theorem dX10_knowsTongue_40 : decode cX10_knowsTongue 40 = .ok (.iconst 1, 1) := by decide +kernel
theorem dX10_knowsTongue_41 : decode cX10_knowsTongue 41 = .ok (.if_icmp .ne 7, 3) := by decide +kernel
theorem dX10_knowsTongue_44 : decode cX10_knowsTongue 44 = .ok (.iconst 1, 1) := by decide +kernel
theorem dX10_knowsTongue_45 : decode cX10_knowsTongue 45 = .ok (.goto 4, 3) := by decide +kernel
theorem dX10_knowsTongue_48 : decode cX10_knowsTongue 48 = .ok (.iconst 0, 1) := by decide +kernel
theorem dX10_knowsTongue_49 : decode cX10_knowsTongue 49 = .ok (.ireturn, 1) := by decide +kernel
theorem dX10_isHeld_0 : decode cX10_isHeld 0 = .ok (.aload_n 0, 1) := by decide +kernel
theorem dX10_isHeld_1 : decode cX10_isHeld 1 = .ok (.getfield 49, 3) := by decide +kernel
theorem dX10_isHeld_4 : decode cX10_isHeld 4 = .ok (.iload_n 1, 1) := by decide +kernel
theorem dX10_isHeld_5 : decode cX10_isHeld 5 = .ok (.invokevirtual 168, 3) := by decide +kernel
theorem dX10_isHeld_8 : decode cX10_isHeld 8 = .ok (.ifCond .eq 33, 3) := by decide +kernel
theorem dX10_isHeld_11 : decode cX10_isHeld 11 = .ok (.aload_n 0, 1) := by decide +kernel
theorem dX10_isHeld_12 : decode cX10_isHeld 12 = .ok (.getfield 30, 3) := by decide +kernel
theorem dX10_isHeld_15 : decode cX10_isHeld 15 = .ok (.iload_n 1, 1) := by decide +kernel
theorem dX10_isHeld_16 : decode cX10_isHeld 16 = .ok (.iaload, 1) := by decide +kernel
theorem dX10_isHeld_17 : decode cX10_isHeld 17 = .ok (.iconst 1, 1) := by decide +kernel
theorem dX10_isHeld_18 : decode cX10_isHeld 18 = .ok (.if_icmp .ne 23, 3) := by decide +kernel
theorem dX10_isHeld_21 : decode cX10_isHeld 21 = .ok (.aload_n 0, 1) := by decide +kernel
theorem dX10_isHeld_22 : decode cX10_isHeld 22 = .ok (.getfield 49, 3) := by decide +kernel
theorem dX10_isHeld_25 : decode cX10_isHeld 25 = .ok (.aload_n 0, 1) := by decide +kernel
theorem dX10_isHeld_26 : decode cX10_isHeld 26 = .ok (.getfield 33, 3) := by decide +kernel
theorem dX10_isHeld_29 : decode cX10_isHeld 29 = .ok (.iload_n 1, 1) := by decide +kernel
theorem dX10_isHeld_30 : decode cX10_isHeld 30 = .ok (.iaload, 1) := by decide +kernel
theorem dX10_isHeld_31 : decode cX10_isHeld 31 = .ok (.invokevirtual 126, 3) := by decide +kernel
theorem dX10_isHeld_34 : decode cX10_isHeld 34 = .ok (.ifCond .eq 7, 3) := by decide +kernel
theorem dX10_isHeld_37 : decode cX10_isHeld 37 = .ok (.iconst 1, 1) := by decide +kernel
theorem dX10_isHeld_38 : decode cX10_isHeld 38 = .ok (.goto 4, 3) := by decide +kernel
theorem dX10_isHeld_41 : decode cX10_isHeld 41 = .ok (.iconst 0, 1) := by decide +kernel
theorem dX10_isHeld_42 : decode cX10_isHeld 42 = .ok (.ireturn, 1) := by decide +kernel
theorem dX10_isHeldAt_0 : decode cX10_isHeldAt 0 = .ok (.aload_n 0, 1) := by decide +kernel
theorem dX10_isHeldAt_1 : decode cX10_isHeldAt 1 = .ok (.getfield 49, 3) := by decide +kernel
theorem dX10_isHeldAt_4 : decode cX10_isHeldAt 4 = .ok (.iload_n 1, 1) := by decide +kernel
theorem dX10_isHeldAt_5 : decode cX10_isHeldAt 5 = .ok (.invokevirtual 168, 3) := by decide +kernel
theorem dX10_isHeldAt_8 : decode cX10_isHeldAt 8 = .ok (.ifCond .eq 27, 3) := by decide +kernel
theorem dX10_isHeldAt_11 : decode cX10_isHeldAt 11 = .ok (.aload_n 0, 1) := by decide +kernel
theorem dX10_isHeldAt_12 : decode cX10_isHeldAt 12 = .ok (.getfield 30, 3) := by decide +kernel
theorem dX10_isHeldAt_15 : decode cX10_isHeldAt 15 = .ok (.iload_n 1, 1) := by decide +kernel
theorem dX10_isHeldAt_16 : decode cX10_isHeldAt 16 = .ok (.iaload, 1) := by decide +kernel
theorem dX10_isHeldAt_17 : decode cX10_isHeldAt 17 = .ok (.iconst 1, 1) := by decide +kernel
theorem dX10_isHeldAt_18 : decode cX10_isHeldAt 18 = .ok (.if_icmp .ne 17, 3) := by decide +kernel
theorem dX10_isHeldAt_21 : decode cX10_isHeldAt 21 = .ok (.aload_n 0, 1) := by decide +kernel
theorem dX10_isHeldAt_22 : decode cX10_isHeldAt 22 = .ok (.getfield 33, 3) := by decide +kernel
theorem dX10_isHeldAt_25 : decode cX10_isHeldAt 25 = .ok (.iload_n 1, 1) := by decide +kernel
theorem dX10_isHeldAt_26 : decode cX10_isHeldAt 26 = .ok (.iaload, 1) := by decide +kernel
theorem dX10_isHeldAt_27 : decode cX10_isHeldAt 27 = .ok (.iload_n 2, 1) := by decide +kernel
theorem dX10_isHeldAt_28 : decode cX10_isHeldAt 28 = .ok (.if_icmp .ne 7, 3) := by decide +kernel
theorem dX10_isHeldAt_31 : decode cX10_isHeldAt 31 = .ok (.iconst 1, 1) := by decide +kernel
theorem dX10_isHeldAt_32 : decode cX10_isHeldAt 32 = .ok (.goto 4, 3) := by decide +kernel
theorem dX10_isHeldAt_35 : decode cX10_isHeldAt 35 = .ok (.iconst 0, 1) := by decide +kernel
theorem dX10_isHeldAt_36 : decode cX10_isHeldAt 36 = .ok (.ireturn, 1) := by decide +kernel
theorem dX10_readerOf_0 : decode cX10_readerOf 0 = .ok (.aload_n 0, 1) := by decide +kernel
theorem dX10_readerOf_1 : decode cX10_readerOf 1 = .ok (.iload_n 1, 1) := by decide +kernel
theorem dX10_readerOf_2 : decode cX10_readerOf 2 = .ok (.invokevirtual 172, 3) := by decide +kernel
theorem dX10_readerOf_5 : decode cX10_readerOf 5 = .ok (.ifCond .eq 17, 3) := by decide +kernel
theorem dX10_readerOf_8 : decode cX10_readerOf 8 = .ok (.aload_n 0, 1) := by decide +kernel
theorem dX10_readerOf_9 : decode cX10_readerOf 9 = .ok (.getfield 27, 3) := by decide +kernel
theorem dX10_readerOf_12 : decode cX10_readerOf 12 = .ok (.aload_n 0, 1) := by decide +kernel
theorem dX10_readerOf_13 : decode cX10_readerOf 13 = .ok (.getfield 33, 3) := by decide +kernel
theorem dX10_readerOf_16 : decode cX10_readerOf 16 = .ok (.iload_n 1, 1) := by decide +kernel
theorem dX10_readerOf_17 : decode cX10_readerOf 17 = .ok (.iaload, 1) := by decide +kernel
theorem dX10_readerOf_18 : decode cX10_readerOf 18 = .ok (.iaload, 1) := by decide +kernel
theorem dX10_readerOf_19 : decode cX10_readerOf 19 = .ok (.goto 4, 3) := by decide +kernel
theorem dX10_readerOf_22 : decode cX10_readerOf 22 = .ok (.iconst (-1), 1) := by decide +kernel
theorem dX10_readerOf_23 : decode cX10_readerOf 23 = .ok (.ireturn, 1) := by decide +kernel
theorem dX10_readOf_0 : decode cX10_readOf 0 = .ok (.aload_n 0, 1) := by decide +kernel
theorem dX10_readOf_1 : decode cX10_readOf 1 = .ok (.getfield 49, 3) := by decide +kernel
theorem dX10_readOf_4 : decode cX10_readOf 4 = .ok (.iload_n 1, 1) := by decide +kernel
theorem dX10_readOf_5 : decode cX10_readOf 5 = .ok (.invokevirtual 168, 3) := by decide +kernel
theorem dX10_readOf_8 : decode cX10_readOf 8 = .ok (.ifCond .eq 12, 3) := by decide +kernel
theorem dX10_readOf_11 : decode cX10_readOf 11 = .ok (.aload_n 0, 1) := by decide +kernel
theorem dX10_readOf_12 : decode cX10_readOf 12 = .ok (.getfield 33, 3) := by decide +kernel
theorem dX10_readOf_15 : decode cX10_readOf 15 = .ok (.iload_n 1, 1) := by decide +kernel
theorem dX10_readOf_16 : decode cX10_readOf 16 = .ok (.iaload, 1) := by decide +kernel
theorem dX10_readOf_17 : decode cX10_readOf 17 = .ok (.goto 4, 3) := by decide +kernel
theorem dX10_readOf_20 : decode cX10_readOf 20 = .ok (.iconst (-1), 1) := by decide +kernel
theorem dX10_readOf_21 : decode cX10_readOf 21 = .ok (.istore_n 3, 1) := by decide +kernel
theorem dX10_readOf_22 : decode cX10_readOf 22 = .ok (.aload_n 0, 1) := by decide +kernel
theorem dX10_readOf_23 : decode cX10_readOf 23 = .ok (.getfield 49, 3) := by decide +kernel
theorem dX10_readOf_26 : decode cX10_readOf 26 = .ok (.iload_n 3, 1) := by decide +kernel
theorem dX10_readOf_27 : decode cX10_readOf 27 = .ok (.invokevirtual 126, 3) := by decide +kernel
theorem dX10_readOf_30 : decode cX10_readOf 30 = .ok (.ifCond .eq 14, 3) := by decide +kernel
theorem dX10_readOf_33 : decode cX10_readOf 33 = .ok (.aload_n 0, 1) := by decide +kernel
theorem dX10_readOf_34 : decode cX10_readOf 34 = .ok (.getfield 49, 3) := by decide +kernel
theorem dX10_readOf_37 : decode cX10_readOf 37 = .ok (.iload_n 2, 1) := by decide +kernel
theorem dX10_readOf_38 : decode cX10_readOf 38 = .ok (.invokevirtual 102, 3) := by decide +kernel
theorem dX10_readOf_41 : decode cX10_readOf 41 = .ok (.ifCond .ne 5, 3) := by decide +kernel
theorem dX10_readOf_44 : decode cX10_readOf 44 = .ok (.iconst 0, 1) := by decide +kernel
theorem dX10_readOf_45 : decode cX10_readOf 45 = .ok (.ireturn, 1) := by decide +kernel
theorem dX10_readOf_46 : decode cX10_readOf 46 = .ok (.ldc2_w 175, 3) := by decide +kernel
theorem dX10_readOf_49 : decode cX10_readOf 49 = .ok (.lstore 4, 2) := by decide +kernel
theorem dX10_readOf_51 : decode cX10_readOf 51 = .ok (.aload_n 0, 1) := by decide +kernel
theorem dX10_readOf_52 : decode cX10_readOf 52 = .ok (.getfield 49, 3) := by decide +kernel
theorem dX10_readOf_55 : decode cX10_readOf 55 = .ok (.getfield 177, 3) := by decide +kernel
theorem dX10_readOf_58 : decode cX10_readOf 58 = .ok (.iconst 0, 1) := by decide +kernel
theorem dX10_readOf_59 : decode cX10_readOf 59 = .ok (.invokevirtual 181, 3) := by decide +kernel
theorem dX10_readOf_62 : decode cX10_readOf 62 = .ok (.ifCond .eq 35, 3) := by decide +kernel
theorem dX10_readOf_65 : decode cX10_readOf 65 = .ok (.aload_n 0, 1) := by decide +kernel
theorem dX10_readOf_66 : decode cX10_readOf 66 = .ok (.iload_n 3, 1) := by decide +kernel
theorem dX10_readOf_67 : decode cX10_readOf 67 = .ok (.iload_n 2, 1) := by decide +kernel
theorem dX10_readOf_68 : decode cX10_readOf 68 = .ok (.aload_n 0, 1) := by decide +kernel
theorem dX10_readOf_69 : decode cX10_readOf 69 = .ok (.getfield 49, 3) := by decide +kernel
theorem dX10_readOf_72 : decode cX10_readOf 72 = .ok (.getfield 141, 3) := by decide +kernel
theorem dX10_readOf_75 : decode cX10_readOf 75 = .ok (.iload_n 1, 1) := by decide +kernel
theorem dX10_readOf_76 : decode cX10_readOf 76 = .ok (.iaload, 1) := by decide +kernel
theorem dX10_readOf_77 : decode cX10_readOf 77 = .ok (.invokevirtual 186, 3) := by decide +kernel
theorem dX10_readOf_80 : decode cX10_readOf 80 = .ok (.aload_n 0, 1) := by decide +kernel
theorem dX10_readOf_81 : decode cX10_readOf 81 = .ok (.getfield 49, 3) := by decide +kernel
theorem dX10_readOf_84 : decode cX10_readOf 84 = .ok (.getfield 177, 3) := by decide +kernel
theorem dX10_readOf_87 : decode cX10_readOf 87 = .ok (.iconst 0, 1) := by decide +kernel
theorem dX10_readOf_88 : decode cX10_readOf 88 = .ok (.aload_n 0, 1) := by decide +kernel
theorem dX10_readOf_89 : decode cX10_readOf 89 = .ok (.getfield 45, 3) := by decide +kernel
theorem dX10_readOf_92 : decode cX10_readOf 92 = .ok (.invokevirtual 190, 3) := by decide +kernel
theorem dX10_readOf_95 : decode cX10_readOf 95 = .ok (.lstore 4, 2) := by decide +kernel
theorem dX10_readOf_97 : decode cX10_readOf 97 = .ok (.lload 4, 2) := by decide +kernel
theorem dX10_readOf_99 : decode cX10_readOf 99 = .ok (.ldc2_w 175, 3) := by decide +kernel
theorem dX10_readOf_102 : decode cX10_readOf 102 = .ok (.lcmp, 1) := by decide +kernel
theorem dX10_readOf_103 : decode cX10_readOf 103 = .ok (.ifCond .ne 35, 3) := by decide +kernel
theorem dX10_readOf_106 : decode cX10_readOf 106 = .ok (.bipush 10, 2) := by decide +kernel
theorem dX10_readOf_108 : decode cX10_readOf 108 = .ok (.aload_n 0, 1) := by decide +kernel
theorem dX10_readOf_109 : decode cX10_readOf 109 = .ok (.getfield 39, 3) := by decide +kernel
theorem dX10_readOf_112 : decode cX10_readOf 112 = .ok (.iload_n 2, 1) := by decide +kernel
theorem dX10_readOf_113 : decode cX10_readOf 113 = .ok (.iaload, 1) := by decide +kernel
theorem dX10_readOf_114 : decode cX10_readOf 114 = .ok (.imul, 1) := by decide +kernel
theorem dX10_readOf_115 : decode cX10_readOf 115 = .ok (.iconst 5, 1) := by decide +kernel
theorem dX10_readOf_116 : decode cX10_readOf 116 = .ok (.aload_n 0, 1) := by decide +kernel
theorem dX10_readOf_117 : decode cX10_readOf 117 = .ok (.getfield 15, 3) := by decide +kernel
theorem dX10_readOf_120 : decode cX10_readOf 120 = .ok (.iload_n 3, 1) := by decide +kernel
theorem dX10_readOf_121 : decode cX10_readOf 121 = .ok (.iaload, 1) := by decide +kernel
theorem dX10_readOf_122 : decode cX10_readOf 122 = .ok (.imul, 1) := by decide +kernel
theorem dX10_readOf_123 : decode cX10_readOf 123 = .ok (.isub, 1) := by decide +kernel
theorem dX10_readOf_124 : decode cX10_readOf 124 = .ok (.bipush 10, 2) := by decide +kernel
theorem dX10_readOf_126 : decode cX10_readOf 126 = .ok (.aload_n 0, 1) := by decide +kernel
theorem dX10_readOf_127 : decode cX10_readOf 127 = .ok (.getfield 24, 3) := by decide +kernel
theorem dX10_readOf_130 : decode cX10_readOf 130 = .ok (.iload_n 3, 1) := by decide +kernel
theorem dX10_readOf_131 : decode cX10_readOf 131 = .ok (.iaload, 1) := by decide +kernel
theorem dX10_readOf_132 : decode cX10_readOf 132 = .ok (.imul, 1) := by decide +kernel
theorem dX10_readOf_133 : decode cX10_readOf 133 = .ok (.isub, 1) := by decide +kernel
theorem dX10_readOf_134 : decode cX10_readOf 134 = .ok (.i2l, 1) := by decide +kernel
theorem dX10_readOf_135 : decode cX10_readOf 135 = .ok (.goto 5, 3) := by decide +kernel
theorem dX10_readOf_138 : decode cX10_readOf 138 = .ok (.lload 4, 2) := by decide +kernel
theorem dX10_readOf_140 : decode cX10_readOf 140 = .ok (.bipush 100, 2) := by decide +kernel
theorem dX10_readOf_142 : decode cX10_readOf 142 = .ok (.invokestatic 194, 3) := by decide +kernel
theorem dX10_readOf_145 : decode cX10_readOf 145 = .ok (.ireturn, 1) := by decide +kernel
theorem dX10_dueOf_0 : decode cX10_dueOf 0 = .ok (.ldc2_w 175, 3) := by decide +kernel
theorem dX10_dueOf_3 : decode cX10_dueOf 3 = .ok (.lstore 4, 2) := by decide +kernel
theorem dX10_dueOf_5 : decode cX10_dueOf 5 = .ok (.aload_n 0, 1) := by decide +kernel
theorem dX10_dueOf_6 : decode cX10_dueOf 6 = .ok (.getfield 49, 3) := by decide +kernel
theorem dX10_dueOf_9 : decode cX10_dueOf 9 = .ok (.getfield 177, 3) := by decide +kernel
theorem dX10_dueOf_12 : decode cX10_dueOf 12 = .ok (.iconst 1, 1) := by decide +kernel
theorem dX10_dueOf_13 : decode cX10_dueOf 13 = .ok (.invokevirtual 181, 3) := by decide +kernel
theorem dX10_dueOf_16 : decode cX10_dueOf 16 = .ok (.ifCond .eq 27, 3) := by decide +kernel
theorem dX10_dueOf_19 : decode cX10_dueOf 19 = .ok (.aload_n 0, 1) := by decide +kernel
theorem dX10_dueOf_20 : decode cX10_dueOf 20 = .ok (.iload_n 1, 1) := by decide +kernel
theorem dX10_dueOf_21 : decode cX10_dueOf 21 = .ok (.iload_n 2, 1) := by decide +kernel
theorem dX10_dueOf_22 : decode cX10_dueOf 22 = .ok (.iload_n 3, 1) := by decide +kernel
theorem dX10_dueOf_23 : decode cX10_dueOf 23 = .ok (.invokevirtual 186, 3) := by decide +kernel
theorem dX10_dueOf_26 : decode cX10_dueOf 26 = .ok (.aload_n 0, 1) := by decide +kernel
theorem dX10_dueOf_27 : decode cX10_dueOf 27 = .ok (.getfield 49, 3) := by decide +kernel
theorem dX10_dueOf_30 : decode cX10_dueOf 30 = .ok (.getfield 177, 3) := by decide +kernel
theorem dX10_dueOf_33 : decode cX10_dueOf 33 = .ok (.iconst 1, 1) := by decide +kernel
theorem dX10_dueOf_34 : decode cX10_dueOf 34 = .ok (.aload_n 0, 1) := by decide +kernel
theorem dX10_dueOf_35 : decode cX10_dueOf 35 = .ok (.getfield 45, 3) := by decide +kernel
theorem dX10_dueOf_38 : decode cX10_dueOf 38 = .ok (.invokevirtual 190, 3) := by decide +kernel
theorem dX10_dueOf_41 : decode cX10_dueOf 41 = .ok (.lstore 4, 2) := by decide +kernel
theorem dX10_dueOf_43 : decode cX10_dueOf 43 = .ok (.aload_n 0, 1) := by decide +kernel
theorem dX10_dueOf_44 : decode cX10_dueOf 44 = .ok (.dup, 1) := by decide +kernel
theorem dX10_dueOf_45 : decode cX10_dueOf 45 = .ok (.getfield 198, 3) := by decide +kernel
theorem dX10_dueOf_48 : decode cX10_dueOf 48 = .ok (.lload 4, 2) := by decide +kernel
theorem dX10_dueOf_50 : decode cX10_dueOf 50 = .ok (.ldc2_w 175, 3) := by decide +kernel
theorem dX10_dueOf_53 : decode cX10_dueOf 53 = .ok (.lcmp, 1) := by decide +kernel
theorem dX10_dueOf_54 : decode cX10_dueOf 54 = .ok (.ifCond .ne 7, 3) := by decide +kernel
theorem dX10_dueOf_57 : decode cX10_dueOf 57 = .ok (.iconst 1, 1) := by decide +kernel
theorem dX10_dueOf_58 : decode cX10_dueOf 58 = .ok (.goto 4, 3) := by decide +kernel
theorem dX10_dueOf_61 : decode cX10_dueOf 61 = .ok (.iconst 0, 1) := by decide +kernel
theorem dX10_dueOf_62 : decode cX10_dueOf 62 = .ok (.ior, 1) := by decide +kernel
theorem dX10_dueOf_63 : decode cX10_dueOf 63 = .ok (.putfield 198, 3) := by decide +kernel
theorem dX10_dueOf_66 : decode cX10_dueOf 66 = .ok (.lload 4, 2) := by decide +kernel
theorem dX10_dueOf_68 : decode cX10_dueOf 68 = .ok (.ldc2_w 175, 3) := by decide +kernel
theorem dX10_dueOf_71 : decode cX10_dueOf 71 = .ok (.lcmp, 1) := by decide +kernel
theorem dX10_dueOf_72 : decode cX10_dueOf 72 = .ok (.ifCond .ne 16, 3) := by decide +kernel
theorem dX10_dueOf_75 : decode cX10_dueOf 75 = .ok (.iload_n 3, 1) := by decide +kernel
theorem dX10_dueOf_76 : decode cX10_dueOf 76 = .ok (.aload_n 0, 1) := by decide +kernel
theorem dX10_dueOf_77 : decode cX10_dueOf 77 = .ok (.getfield 62, 3) := by decide +kernel
theorem dX10_dueOf_80 : decode cX10_dueOf 80 = .ok (.imul, 1) := by decide +kernel
theorem dX10_dueOf_81 : decode cX10_dueOf 81 = .ok (.bipush 100, 2) := by decide +kernel
theorem dX10_dueOf_83 : decode cX10_dueOf 83 = .ok (.idiv, 1) := by decide +kernel
theorem dX10_dueOf_84 : decode cX10_dueOf 84 = .ok (.i2l, 1) := by decide +kernel
theorem dX10_dueOf_85 : decode cX10_dueOf 85 = .ok (.goto 5, 3) := by decide +kernel
theorem dX10_dueOf_88 : decode cX10_dueOf 88 = .ok (.lload 4, 2) := by decide +kernel
theorem dX10_dueOf_90 : decode cX10_dueOf 90 = .ok (.sipush 999, 3) := by decide +kernel
theorem dX10_dueOf_93 : decode cX10_dueOf 93 = .ok (.invokestatic 194, 3) := by decide +kernel
theorem dX10_dueOf_96 : decode cX10_dueOf 96 = .ok (.ireturn, 1) := by decide +kernel
theorem dX10_hideOf_0 : decode cX10_hideOf 0 = .ok (.aload_n 0, 1) := by decide +kernel
theorem dX10_hideOf_1 : decode cX10_hideOf 1 = .ok (.getfield 49, 3) := by decide +kernel
theorem dX10_hideOf_4 : decode cX10_hideOf 4 = .ok (.iload_n 1, 1) := by decide +kernel
theorem dX10_hideOf_5 : decode cX10_hideOf 5 = .ok (.invokevirtual 168, 3) := by decide +kernel
theorem dX10_hideOf_8 : decode cX10_hideOf 8 = .ok (.ifCond .eq 12, 3) := by decide +kernel
theorem dX10_hideOf_11 : decode cX10_hideOf 11 = .ok (.aload_n 0, 1) := by decide +kernel
theorem dX10_hideOf_12 : decode cX10_hideOf 12 = .ok (.getfield 33, 3) := by decide +kernel
theorem dX10_hideOf_15 : decode cX10_hideOf 15 = .ok (.iload_n 1, 1) := by decide +kernel
theorem dX10_hideOf_16 : decode cX10_hideOf 16 = .ok (.iaload, 1) := by decide +kernel
theorem dX10_hideOf_17 : decode cX10_hideOf 17 = .ok (.goto 4, 3) := by decide +kernel
theorem dX10_hideOf_20 : decode cX10_hideOf 20 = .ok (.iconst (-1), 1) := by decide +kernel
theorem dX10_hideOf_21 : decode cX10_hideOf 21 = .ok (.istore_n 2, 1) := by decide +kernel
theorem dX10_hideOf_22 : decode cX10_hideOf 22 = .ok (.aload_n 0, 1) := by decide +kernel
theorem dX10_hideOf_23 : decode cX10_hideOf 23 = .ok (.getfield 49, 3) := by decide +kernel
theorem dX10_hideOf_26 : decode cX10_hideOf 26 = .ok (.iload_n 2, 1) := by decide +kernel
theorem dX10_hideOf_27 : decode cX10_hideOf 27 = .ok (.invokevirtual 126, 3) := by decide +kernel
theorem dX10_hideOf_30 : decode cX10_hideOf 30 = .ok (.ifCond .ne 5, 3) := by decide +kernel
theorem dX10_hideOf_33 : decode cX10_hideOf 33 = .ok (.iconst 0, 1) := by decide +kernel
theorem dX10_hideOf_34 : decode cX10_hideOf 34 = .ok (.ireturn, 1) := by decide +kernel
theorem dX10_hideOf_35 : decode cX10_hideOf 35 = .ok (.ldc2_w 175, 3) := by decide +kernel
theorem dX10_hideOf_38 : decode cX10_hideOf 38 = .ok (.lstore_n 3, 1) := by decide +kernel
theorem dX10_hideOf_39 : decode cX10_hideOf 39 = .ok (.aload_n 0, 1) := by decide +kernel
theorem dX10_hideOf_40 : decode cX10_hideOf 40 = .ok (.getfield 49, 3) := by decide +kernel
theorem dX10_hideOf_43 : decode cX10_hideOf 43 = .ok (.getfield 177, 3) := by decide +kernel
theorem dX10_hideOf_46 : decode cX10_hideOf 46 = .ok (.iconst 2, 1) := by decide +kernel
theorem dX10_hideOf_47 : decode cX10_hideOf 47 = .ok (.invokevirtual 181, 3) := by decide +kernel
theorem dX10_hideOf_50 : decode cX10_hideOf 50 = .ok (.ifCond .eq 34, 3) := by decide +kernel
theorem dX10_hideOf_53 : decode cX10_hideOf 53 = .ok (.aload_n 0, 1) := by decide +kernel
theorem dX10_hideOf_54 : decode cX10_hideOf 54 = .ok (.iload_n 2, 1) := by decide +kernel
theorem dX10_hideOf_55 : decode cX10_hideOf 55 = .ok (.iconst (-1), 1) := by decide +kernel
theorem dX10_hideOf_56 : decode cX10_hideOf 56 = .ok (.aload_n 0, 1) := by decide +kernel
theorem dX10_hideOf_57 : decode cX10_hideOf 57 = .ok (.getfield 49, 3) := by decide +kernel
theorem dX10_hideOf_60 : decode cX10_hideOf 60 = .ok (.getfield 141, 3) := by decide +kernel
theorem dX10_hideOf_63 : decode cX10_hideOf 63 = .ok (.iload_n 1, 1) := by decide +kernel
theorem dX10_hideOf_64 : decode cX10_hideOf 64 = .ok (.iaload, 1) := by decide +kernel
theorem dX10_hideOf_65 : decode cX10_hideOf 65 = .ok (.invokevirtual 186, 3) := by decide +kernel
theorem dX10_hideOf_68 : decode cX10_hideOf 68 = .ok (.aload_n 0, 1) := by decide +kernel
theorem dX10_hideOf_69 : decode cX10_hideOf 69 = .ok (.getfield 49, 3) := by decide +kernel
theorem dX10_hideOf_72 : decode cX10_hideOf 72 = .ok (.getfield 177, 3) := by decide +kernel
theorem dX10_hideOf_75 : decode cX10_hideOf 75 = .ok (.iconst 2, 1) := by decide +kernel
theorem dX10_hideOf_76 : decode cX10_hideOf 76 = .ok (.aload_n 0, 1) := by decide +kernel
theorem dX10_hideOf_77 : decode cX10_hideOf 77 = .ok (.getfield 45, 3) := by decide +kernel
theorem dX10_hideOf_80 : decode cX10_hideOf 80 = .ok (.invokevirtual 190, 3) := by decide +kernel
theorem dX10_hideOf_83 : decode cX10_hideOf 83 = .ok (.lstore_n 3, 1) := by decide +kernel
theorem dX10_hideOf_84 : decode cX10_hideOf 84 = .ok (.lload_n 3, 1) := by decide +kernel
theorem dX10_hideOf_85 : decode cX10_hideOf 85 = .ok (.ldc2_w 175, 3) := by decide +kernel
theorem dX10_hideOf_88 : decode cX10_hideOf 88 = .ok (.lcmp, 1) := by decide +kernel
theorem dX10_hideOf_89 : decode cX10_hideOf 89 = .ok (.ifCond .ne 16, 3) := by decide +kernel
theorem dX10_hideOf_92 : decode cX10_hideOf 92 = .ok (.bipush 8, 2) := by decide +kernel
theorem dX10_hideOf_94 : decode cX10_hideOf 94 = .ok (.aload_n 0, 1) := by decide +kernel
theorem dX10_hideOf_95 : decode cX10_hideOf 95 = .ok (.getfield 15, 3) := by decide +kernel
theorem dX10_hideOf_98 : decode cX10_hideOf 98 = .ok (.iload_n 2, 1) := by decide +kernel
theorem dX10_hideOf_99 : decode cX10_hideOf 99 = .ok (.iaload, 1) := by decide +kernel
theorem dX10_hideOf_100 : decode cX10_hideOf 100 = .ok (.iadd, 1) := by decide +kernel
theorem dX10_hideOf_101 : decode cX10_hideOf 101 = .ok (.i2l, 1) := by decide +kernel
theorem dX10_hideOf_102 : decode cX10_hideOf 102 = .ok (.goto 4, 3) := by decide +kernel
theorem dX10_hideOf_105 : decode cX10_hideOf 105 = .ok (.lload_n 3, 1) := by decide +kernel
theorem dX10_hideOf_106 : decode cX10_hideOf 106 = .ok (.bipush 99, 2) := by decide +kernel
theorem dX10_hideOf_108 : decode cX10_hideOf 108 = .ok (.invokestatic 194, 3) := by decide +kernel
theorem dX10_hideOf_111 : decode cX10_hideOf 111 = .ok (.ireturn, 1) := by decide +kernel
theorem dX10_within_0 : decode cX10_within 0 = .ok (.lconst 0, 1) := by decide +kernel
theorem dX10_within_1 : decode cX10_within 1 = .ok (.lload_n 0, 1) := by decide +kernel
theorem dX10_within_2 : decode cX10_within 2 = .ok (.iload_n 2, 1) := by decide +kernel
theorem dX10_within_3 : decode cX10_within 3 = .ok (.i2l, 1) := by decide +kernel
theorem dX10_within_4 : decode cX10_within 4 = .ok (.invokestatic 202, 3) := by decide +kernel
theorem dX10_within_7 : decode cX10_within 7 = .ok (.invokestatic 205, 3) := by decide +kernel
theorem dX10_within_10 : decode cX10_within 10 = .ok (.l2i, 1) := by decide +kernel
theorem dX10_within_11 : decode cX10_within 11 = .ok (.ireturn, 1) := by decide +kernel
theorem dX10_readLawNow_0 : decode cX10_readLawNow 0 = .ok (.aload_n 0, 1) := by decide +kernel
theorem dX10_readLawNow_1 : decode cX10_readLawNow 1 = .ok (.iload_n 1, 1) := by decide +kernel
theorem dX10_readLawNow_2 : decode cX10_readLawNow 2 = .ok (.invokevirtual 172, 3) := by decide +kernel
theorem dX10_readLawNow_5 : decode cX10_readLawNow 5 = .ok (.ifCond .ne 7, 3) := by decide +kernel
theorem dX10_readLawNow_8 : decode cX10_readLawNow 8 = .ok (.ldc2_w 175, 3) := by decide +kernel
theorem dX10_readLawNow_11 : decode cX10_readLawNow 11 = .ok (.lreturn, 1) := by decide +kernel
theorem dX10_readLawNow_12 : decode cX10_readLawNow 12 = .ok (.aload_n 0, 1) := by decide +kernel
theorem dX10_readLawNow_13 : decode cX10_readLawNow 13 = .ok (.aload_n 0, 1) := by decide +kernel
theorem dX10_readLawNow_14 : decode cX10_readLawNow 14 = .ok (.getfield 33, 3) := by decide +kernel
theorem dX10_readLawNow_17 : decode cX10_readLawNow 17 = .ok (.iload_n 1, 1) := by decide +kernel
theorem dX10_readLawNow_18 : decode cX10_readLawNow 18 = .ok (.iaload, 1) := by decide +kernel
theorem dX10_readLawNow_19 : decode cX10_readLawNow 19 = .ok (.aload_n 0, 1) := by decide +kernel
theorem dX10_readLawNow_20 : decode cX10_readLawNow 20 = .ok (.iload_n 1, 1) := by decide +kernel
theorem dX10_readLawNow_21 : decode cX10_readLawNow 21 = .ok (.invokevirtual 207, 3) := by decide +kernel
theorem dX10_readLawNow_24 : decode cX10_readLawNow 24 = .ok (.aload_n 0, 1) := by decide +kernel
theorem dX10_readLawNow_25 : decode cX10_readLawNow 25 = .ok (.getfield 49, 3) := by decide +kernel
theorem dX10_readLawNow_28 : decode cX10_readLawNow 28 = .ok (.getfield 141, 3) := by decide +kernel
theorem dX10_readLawNow_31 : decode cX10_readLawNow 31 = .ok (.iload_n 1, 1) := by decide +kernel
theorem dX10_readLawNow_32 : decode cX10_readLawNow 32 = .ok (.iaload, 1) := by decide +kernel
theorem dX10_readLawNow_33 : decode cX10_readLawNow 33 = .ok (.invokevirtual 186, 3) := by decide +kernel
theorem dX10_readLawNow_36 : decode cX10_readLawNow 36 = .ok (.aload_n 0, 1) := by decide +kernel
theorem dX10_readLawNow_37 : decode cX10_readLawNow 37 = .ok (.getfield 49, 3) := by decide +kernel
theorem dX10_readLawNow_40 : decode cX10_readLawNow 40 = .ok (.getfield 177, 3) := by decide +kernel
theorem dX10_readLawNow_43 : decode cX10_readLawNow 43 = .ok (.iconst 0, 1) := by decide +kernel
theorem dX10_readLawNow_44 : decode cX10_readLawNow 44 = .ok (.aload_n 0, 1) := by decide +kernel
theorem dX10_readLawNow_45 : decode cX10_readLawNow 45 = .ok (.getfield 45, 3) := by decide +kernel
theorem dX10_readLawNow_48 : decode cX10_readLawNow 48 = .ok (.invokevirtual 190, 3) := by decide +kernel
theorem dX10_readLawNow_51 : decode cX10_readLawNow 51 = .ok (.lreturn, 1) := by decide +kernel
theorem dX10_dueLawNow_0 : decode cX10_dueLawNow 0 = .ok (.aload_n 0, 1) := by decide +kernel
theorem dX10_dueLawNow_1 : decode cX10_dueLawNow 1 = .ok (.getfield 49, 3) := by decide +kernel
theorem dX10_dueLawNow_4 : decode cX10_dueLawNow 4 = .ok (.iload_n 1, 1) := by decide +kernel
theorem dX10_dueLawNow_5 : decode cX10_dueLawNow 5 = .ok (.invokevirtual 126, 3) := by decide +kernel
theorem dX10_dueLawNow_8 : decode cX10_dueLawNow 8 = .ok (.ifCond .ne 7, 3) := by decide +kernel
theorem dX10_dueLawNow_11 : decode cX10_dueLawNow 11 = .ok (.ldc2_w 175, 3) := by decide +kernel
theorem dX10_dueLawNow_14 : decode cX10_dueLawNow 14 = .ok (.lreturn, 1) := by decide +kernel
theorem dX10_dueLawNow_15 : decode cX10_dueLawNow 15 = .ok (.aload_n 0, 1) := by decide +kernel
theorem dX10_dueLawNow_16 : decode cX10_dueLawNow 16 = .ok (.iload_n 1, 1) := by decide +kernel
theorem dX10_dueLawNow_17 : decode cX10_dueLawNow 17 = .ok (.aload_n 0, 1) := by decide +kernel
theorem dX10_dueLawNow_18 : decode cX10_dueLawNow 18 = .ok (.getfield 27, 3) := by decide +kernel
theorem dX10_dueLawNow_21 : decode cX10_dueLawNow 21 = .ok (.iload_n 1, 1) := by decide +kernel
theorem dX10_dueLawNow_22 : decode cX10_dueLawNow 22 = .ok (.iaload, 1) := by decide +kernel
theorem dX10_dueLawNow_23 : decode cX10_dueLawNow 23 = .ok (.aload_n 0, 1) := by decide +kernel
theorem dX10_dueLawNow_24 : decode cX10_dueLawNow 24 = .ok (.iload_n 1, 1) := by decide +kernel
theorem dX10_dueLawNow_25 : decode cX10_dueLawNow 25 = .ok (.invokevirtual 210, 3) := by decide +kernel
theorem dX10_dueLawNow_28 : decode cX10_dueLawNow 28 = .ok (.invokevirtual 186, 3) := by decide +kernel
theorem dX10_dueLawNow_31 : decode cX10_dueLawNow 31 = .ok (.aload_n 0, 1) := by decide +kernel
theorem dX10_dueLawNow_32 : decode cX10_dueLawNow 32 = .ok (.getfield 49, 3) := by decide +kernel
theorem dX10_dueLawNow_35 : decode cX10_dueLawNow 35 = .ok (.getfield 177, 3) := by decide +kernel
theorem dX10_dueLawNow_38 : decode cX10_dueLawNow 38 = .ok (.iconst 1, 1) := by decide +kernel
theorem dX10_dueLawNow_39 : decode cX10_dueLawNow 39 = .ok (.aload_n 0, 1) := by decide +kernel
theorem dX10_dueLawNow_40 : decode cX10_dueLawNow 40 = .ok (.getfield 45, 3) := by decide +kernel
theorem dX10_dueLawNow_43 : decode cX10_dueLawNow 43 = .ok (.invokevirtual 190, 3) := by decide +kernel
theorem dX10_dueLawNow_46 : decode cX10_dueLawNow 46 = .ok (.lreturn, 1) := by decide +kernel
theorem dX10_hideLawNow_0 : decode cX10_hideLawNow 0 = .ok (.aload_n 0, 1) := by decide +kernel
theorem dX10_hideLawNow_1 : decode cX10_hideLawNow 1 = .ok (.iload_n 1, 1) := by decide +kernel
theorem dX10_hideLawNow_2 : decode cX10_hideLawNow 2 = .ok (.invokevirtual 172, 3) := by decide +kernel
theorem dX10_hideLawNow_5 : decode cX10_hideLawNow 5 = .ok (.ifCond .ne 7, 3) := by decide +kernel
theorem dX10_hideLawNow_8 : decode cX10_hideLawNow 8 = .ok (.ldc2_w 175, 3) := by decide +kernel
theorem dX10_hideLawNow_11 : decode cX10_hideLawNow 11 = .ok (.lreturn, 1) := by decide +kernel
theorem dX10_hideLawNow_12 : decode cX10_hideLawNow 12 = .ok (.aload_n 0, 1) := by decide +kernel
theorem dX10_hideLawNow_13 : decode cX10_hideLawNow 13 = .ok (.aload_n 0, 1) := by decide +kernel
theorem dX10_hideLawNow_14 : decode cX10_hideLawNow 14 = .ok (.getfield 33, 3) := by decide +kernel
theorem dX10_hideLawNow_17 : decode cX10_hideLawNow 17 = .ok (.iload_n 1, 1) := by decide +kernel
theorem dX10_hideLawNow_18 : decode cX10_hideLawNow 18 = .ok (.iaload, 1) := by decide +kernel
theorem dX10_hideLawNow_19 : decode cX10_hideLawNow 19 = .ok (.iconst (-1), 1) := by decide +kernel
theorem dX10_hideLawNow_20 : decode cX10_hideLawNow 20 = .ok (.aload_n 0, 1) := by decide +kernel
theorem dX10_hideLawNow_21 : decode cX10_hideLawNow 21 = .ok (.getfield 49, 3) := by decide +kernel
theorem dX10_hideLawNow_24 : decode cX10_hideLawNow 24 = .ok (.getfield 141, 3) := by decide +kernel
theorem dX10_hideLawNow_27 : decode cX10_hideLawNow 27 = .ok (.iload_n 1, 1) := by decide +kernel
theorem dX10_hideLawNow_28 : decode cX10_hideLawNow 28 = .ok (.iaload, 1) := by decide +kernel
theorem dX10_hideLawNow_29 : decode cX10_hideLawNow 29 = .ok (.invokevirtual 186, 3) := by decide +kernel
theorem dX10_hideLawNow_32 : decode cX10_hideLawNow 32 = .ok (.aload_n 0, 1) := by decide +kernel
theorem dX10_hideLawNow_33 : decode cX10_hideLawNow 33 = .ok (.getfield 49, 3) := by decide +kernel
theorem dX10_hideLawNow_36 : decode cX10_hideLawNow 36 = .ok (.getfield 177, 3) := by decide +kernel
theorem dX10_hideLawNow_39 : decode cX10_hideLawNow 39 = .ok (.iconst 2, 1) := by decide +kernel
theorem dX10_hideLawNow_40 : decode cX10_hideLawNow 40 = .ok (.aload_n 0, 1) := by decide +kernel
theorem dX10_hideLawNow_41 : decode cX10_hideLawNow 41 = .ok (.getfield 45, 3) := by decide +kernel
theorem dX10_hideLawNow_44 : decode cX10_hideLawNow 44 = .ok (.invokevirtual 190, 3) := by decide +kernel
theorem dX10_hideLawNow_47 : decode cX10_hideLawNow 47 = .ok (.lreturn, 1) := by decide +kernel
theorem dX10_nameDoor_0 : decode cX10_nameDoor 0 = .ok (.aload_n 0, 1) := by decide +kernel
theorem dX10_nameDoor_1 : decode cX10_nameDoor 1 = .ok (.getfield 49, 3) := by decide +kernel
theorem dX10_nameDoor_4 : decode cX10_nameDoor 4 = .ok (.iload_n 1, 1) := by decide +kernel
theorem dX10_nameDoor_5 : decode cX10_nameDoor 5 = .ok (.invokevirtual 126, 3) := by decide +kernel
theorem dX10_nameDoor_8 : decode cX10_nameDoor 8 = .ok (.istore 4, 2) := by decide +kernel
theorem dX10_nameDoor_10 : decode cX10_nameDoor 10 = .ok (.aload_n 0, 1) := by decide +kernel
theorem dX10_nameDoor_11 : decode cX10_nameDoor 11 = .ok (.getfield 45, 3) := by decide +kernel
theorem dX10_nameDoor_14 : decode cX10_nameDoor 14 = .ok (.iconst 0, 1) := by decide +kernel
theorem dX10_nameDoor_15 : decode cX10_nameDoor 15 = .ok (.iload_n 3, 1) := by decide +kernel
theorem dX10_nameDoor_16 : decode cX10_nameDoor 16 = .ok (.i2l, 1) := by decide +kernel
theorem dX10_nameDoor_17 : decode cX10_nameDoor 17 = .ok (.lastore, 1) := by decide +kernel
theorem dX10_nameDoor_18 : decode cX10_nameDoor 18 = .ok (.aload_n 0, 1) := by decide +kernel
theorem dX10_nameDoor_19 : decode cX10_nameDoor 19 = .ok (.getfield 45, 3) := by decide +kernel
theorem dX10_nameDoor_22 : decode cX10_nameDoor 22 = .ok (.iconst 1, 1) := by decide +kernel
theorem dX10_nameDoor_23 : decode cX10_nameDoor 23 = .ok (.aload_n 0, 1) := by decide +kernel
theorem dX10_nameDoor_24 : decode cX10_nameDoor 24 = .ok (.getfield 49, 3) := by decide +kernel
theorem dX10_nameDoor_27 : decode cX10_nameDoor 27 = .ok (.iload_n 2, 1) := by decide +kernel
theorem dX10_nameDoor_28 : decode cX10_nameDoor 28 = .ok (.invokevirtual 102, 3) := by decide +kernel
theorem dX10_nameDoor_31 : decode cX10_nameDoor 31 = .ok (.ifCond .eq 13, 3) := by decide +kernel
theorem dX10_nameDoor_34 : decode cX10_nameDoor 34 = .ok (.aload_n 0, 1) := by decide +kernel
theorem dX10_nameDoor_35 : decode cX10_nameDoor 35 = .ok (.getfield 39, 3) := by decide +kernel
theorem dX10_nameDoor_38 : decode cX10_nameDoor 38 = .ok (.iload_n 2, 1) := by decide +kernel
theorem dX10_nameDoor_39 : decode cX10_nameDoor 39 = .ok (.iaload, 1) := by decide +kernel
theorem dX10_nameDoor_40 : decode cX10_nameDoor 40 = .ok (.i2l, 1) := by decide +kernel
theorem dX10_nameDoor_41 : decode cX10_nameDoor 41 = .ok (.goto 4, 3) := by decide +kernel
theorem dX10_nameDoor_44 : decode cX10_nameDoor 44 = .ok (.lconst 0, 1) := by decide +kernel
theorem dX10_nameDoor_45 : decode cX10_nameDoor 45 = .ok (.lastore, 1) := by decide +kernel
theorem dX10_nameDoor_46 : decode cX10_nameDoor 46 = .ok (.aload_n 0, 1) := by decide +kernel
theorem dX10_nameDoor_47 : decode cX10_nameDoor 47 = .ok (.getfield 45, 3) := by decide +kernel
theorem dX10_nameDoor_50 : decode cX10_nameDoor 50 = .ok (.iconst 2, 1) := by decide +kernel
theorem dX10_nameDoor_51 : decode cX10_nameDoor 51 = .ok (.iload 4, 2) := by decide +kernel
theorem dX10_nameDoor_53 : decode cX10_nameDoor 53 = .ok (.ifCond .eq 13, 3) := by decide +kernel
theorem dX10_nameDoor_56 : decode cX10_nameDoor 56 = .ok (.aload_n 0, 1) := by decide +kernel
theorem dX10_nameDoor_57 : decode cX10_nameDoor 57 = .ok (.getfield 9, 3) := by decide +kernel
theorem dX10_nameDoor_60 : decode cX10_nameDoor 60 = .ok (.iload_n 1, 1) := by decide +kernel
theorem dX10_nameDoor_61 : decode cX10_nameDoor 61 = .ok (.iaload, 1) := by decide +kernel
theorem dX10_nameDoor_62 : decode cX10_nameDoor 62 = .ok (.i2l, 1) := by decide +kernel
theorem dX10_nameDoor_63 : decode cX10_nameDoor 63 = .ok (.goto 4, 3) := by decide +kernel
theorem dX10_nameDoor_66 : decode cX10_nameDoor 66 = .ok (.lconst 0, 1) := by decide +kernel
theorem dX10_nameDoor_67 : decode cX10_nameDoor 67 = .ok (.lastore, 1) := by decide +kernel
theorem dX10_nameDoor_68 : decode cX10_nameDoor 68 = .ok (.aload_n 0, 1) := by decide +kernel
theorem dX10_nameDoor_69 : decode cX10_nameDoor 69 = .ok (.getfield 45, 3) := by decide +kernel
theorem dX10_nameDoor_72 : decode cX10_nameDoor 72 = .ok (.iconst 3, 1) := by decide +kernel
theorem dX10_nameDoor_73 : decode cX10_nameDoor 73 = .ok (.iload 4, 2) := by decide +kernel
theorem dX10_nameDoor_75 : decode cX10_nameDoor 75 = .ok (.ifCond .eq 13, 3) := by decide +kernel
theorem dX10_nameDoor_78 : decode cX10_nameDoor 78 = .ok (.aload_n 0, 1) := by decide +kernel
theorem dX10_nameDoor_79 : decode cX10_nameDoor 79 = .ok (.getfield 15, 3) := by decide +kernel
theorem dX10_nameDoor_82 : decode cX10_nameDoor 82 = .ok (.iload_n 1, 1) := by decide +kernel
theorem dX10_nameDoor_83 : decode cX10_nameDoor 83 = .ok (.iaload, 1) := by decide +kernel
theorem dX10_nameDoor_84 : decode cX10_nameDoor 84 = .ok (.i2l, 1) := by decide +kernel
theorem dX10_nameDoor_85 : decode cX10_nameDoor 85 = .ok (.goto 4, 3) := by decide +kernel
theorem dX10_nameDoor_88 : decode cX10_nameDoor 88 = .ok (.lconst 0, 1) := by decide +kernel
theorem dX10_nameDoor_89 : decode cX10_nameDoor 89 = .ok (.lastore, 1) := by decide +kernel
theorem dX10_nameDoor_90 : decode cX10_nameDoor 90 = .ok (.aload_n 0, 1) := by decide +kernel
theorem dX10_nameDoor_91 : decode cX10_nameDoor 91 = .ok (.getfield 45, 3) := by decide +kernel
theorem dX10_nameDoor_94 : decode cX10_nameDoor 94 = .ok (.iconst 4, 1) := by decide +kernel
theorem dX10_nameDoor_95 : decode cX10_nameDoor 95 = .ok (.iload 4, 2) := by decide +kernel
theorem dX10_nameDoor_97 : decode cX10_nameDoor 97 = .ok (.ifCond .eq 13, 3) := by decide +kernel
theorem dX10_nameDoor_100 : decode cX10_nameDoor 100 = .ok (.aload_n 0, 1) := by decide +kernel
theorem dX10_nameDoor_101 : decode cX10_nameDoor 101 = .ok (.getfield 24, 3) := by decide +kernel
theorem dX10_nameDoor_104 : decode cX10_nameDoor 104 = .ok (.iload_n 1, 1) := by decide +kernel
theorem dX10_nameDoor_105 : decode cX10_nameDoor 105 = .ok (.iaload, 1) := by decide +kernel
theorem dX10_nameDoor_106 : decode cX10_nameDoor 106 = .ok (.i2l, 1) := by decide +kernel
theorem dX10_nameDoor_107 : decode cX10_nameDoor 107 = .ok (.goto 4, 3) := by decide +kernel
theorem dX10_nameDoor_110 : decode cX10_nameDoor 110 = .ok (.lconst 0, 1) := by decide +kernel
theorem dX10_nameDoor_111 : decode cX10_nameDoor 111 = .ok (.lastore, 1) := by decide +kernel
theorem dX10_nameDoor_112 : decode cX10_nameDoor 112 = .ok (.aload_n 0, 1) := by decide +kernel
theorem dX10_nameDoor_113 : decode cX10_nameDoor 113 = .ok (.getfield 45, 3) := by decide +kernel
theorem dX10_nameDoor_116 : decode cX10_nameDoor 116 = .ok (.bipush 6, 2) := by decide +kernel
theorem dX10_nameDoor_118 : decode cX10_nameDoor 118 = .ok (.aload_n 0, 1) := by decide +kernel
theorem dX10_nameDoor_119 : decode cX10_nameDoor 119 = .ok (.getfield 53, 3) := by decide +kernel
theorem dX10_nameDoor_122 : decode cX10_nameDoor 122 = .ok (.i2l, 1) := by decide +kernel
theorem dX10_nameDoor_123 : decode cX10_nameDoor 123 = .ok (.lastore, 1) := by decide +kernel
theorem dX10_nameDoor_124 : decode cX10_nameDoor 124 = .ok (.iconst 0, 1) := by decide +kernel
theorem dX10_nameDoor_125 : decode cX10_nameDoor 125 = .ok (.istore 5, 2) := by decide +kernel
theorem dX10_nameDoor_127 : decode cX10_nameDoor 127 = .ok (.iconst 0, 1) := by decide +kernel
theorem dX10_nameDoor_128 : decode cX10_nameDoor 128 = .ok (.istore 6, 2) := by decide +kernel
theorem dX10_nameDoor_130 : decode cX10_nameDoor 130 = .ok (.iload 6, 2) := by decide +kernel
theorem dX10_nameDoor_132 : decode cX10_nameDoor 132 = .ok (.aload_n 0, 1) := by decide +kernel
theorem dX10_nameDoor_133 : decode cX10_nameDoor 133 = .ok (.getfield 49, 3) := by decide +kernel
theorem dX10_nameDoor_136 : decode cX10_nameDoor 136 = .ok (.getfield 117, 3) := by decide +kernel
theorem dX10_nameDoor_139 : decode cX10_nameDoor 139 = .ok (.if_icmp .ge 48, 3) := by decide +kernel
theorem dX10_nameDoor_142 : decode cX10_nameDoor 142 = .ok (.iload 6, 2) := by decide +kernel
theorem dX10_nameDoor_144 : decode cX10_nameDoor 144 = .ok (.bipush 12, 2) := by decide +kernel
theorem dX10_nameDoor_146 : decode cX10_nameDoor 146 = .ok (.if_icmp .ge 41, 3) := by decide +kernel
theorem dX10_nameDoor_149 : decode cX10_nameDoor 149 = .ok (.iload 5, 2) := by decide +kernel
theorem dX10_nameDoor_151 : decode cX10_nameDoor 151 = .ok (.aload_n 0, 1) := by decide +kernel
theorem dX10_nameDoor_152 : decode cX10_nameDoor 152 = .ok (.getfield 30, 3) := by decide +kernel
theorem dX10_nameDoor_155 : decode cX10_nameDoor 155 = .ok (.iload 6, 2) := by decide +kernel
theorem dX10_nameDoor_157 : decode cX10_nameDoor 157 = .ok (.iaload, 1) := by decide +kernel
theorem dX10_nameDoor_158 : decode cX10_nameDoor 158 = .ok (.iconst 1, 1) := by decide +kernel
theorem dX10_nameDoor_159 : decode cX10_nameDoor 159 = .ok (.if_icmp .ne 18, 3) := by decide +kernel
theorem dX10_nameDoor_162 : decode cX10_nameDoor 162 = .ok (.aload_n 0, 1) := by decide +kernel
theorem dX10_nameDoor_163 : decode cX10_nameDoor 163 = .ok (.getfield 33, 3) := by decide +kernel
theorem dX10_nameDoor_166 : decode cX10_nameDoor 166 = .ok (.iload 6, 2) := by decide +kernel
theorem dX10_nameDoor_168 : decode cX10_nameDoor 168 = .ok (.iaload, 1) := by decide +kernel
theorem dX10_nameDoor_169 : decode cX10_nameDoor 169 = .ok (.iload_n 1, 1) := by decide +kernel
theorem dX10_nameDoor_170 : decode cX10_nameDoor 170 = .ok (.if_icmp .ne 7, 3) := by decide +kernel
theorem dX10_nameDoor_173 : decode cX10_nameDoor 173 = .ok (.iconst 1, 1) := by decide +kernel
theorem dX10_nameDoor_174 : decode cX10_nameDoor 174 = .ok (.goto 4, 3) := by decide +kernel
theorem dX10_nameDoor_177 : decode cX10_nameDoor 177 = .ok (.iconst 0, 1) := by decide +kernel
theorem dX10_nameDoor_178 : decode cX10_nameDoor 178 = .ok (.iadd, 1) := by decide +kernel
theorem dX10_nameDoor_179 : decode cX10_nameDoor 179 = .ok (.istore 5, 2) := by decide +kernel
theorem dX10_nameDoor_181 : decode cX10_nameDoor 181 = .ok (.iinc 6 1, 3) := by decide +kernel
theorem dX10_nameDoor_184 : decode cX10_nameDoor 184 = .ok (.goto (-54), 3) := by decide +kernel
theorem dX10_nameDoor_187 : decode cX10_nameDoor 187 = .ok (.aload_n 0, 1) := by decide +kernel
theorem dX10_nameDoor_188 : decode cX10_nameDoor 188 = .ok (.getfield 45, 3) := by decide +kernel
theorem dX10_nameDoor_191 : decode cX10_nameDoor 191 = .ok (.iconst 5, 1) := by decide +kernel
theorem dX10_nameDoor_192 : decode cX10_nameDoor 192 = .ok (.iload 5, 2) := by decide +kernel
theorem dX10_nameDoor_194 : decode cX10_nameDoor 194 = .ok (.i2l, 1) := by decide +kernel
theorem dX10_nameDoor_195 : decode cX10_nameDoor 195 = .ok (.lastore, 1) := by decide +kernel
theorem dX10_nameDoor_196 : decode cX10_nameDoor 196 = .ok (.return_, 1) := by decide +kernel
theorem dX10_heldBits_0 : decode cX10_heldBits 0 = .ok (.iconst 0, 1) := by decide +kernel
theorem dX10_heldBits_1 : decode cX10_heldBits 1 = .ok (.istore_n 2, 1) := by decide +kernel
theorem dX10_heldBits_2 : decode cX10_heldBits 2 = .ok (.iconst 0, 1) := by decide +kernel
theorem dX10_heldBits_3 : decode cX10_heldBits 3 = .ok (.istore_n 3, 1) := by decide +kernel
theorem dX10_heldBits_4 : decode cX10_heldBits 4 = .ok (.iload_n 3, 1) := by decide +kernel
theorem dX10_heldBits_5 : decode cX10_heldBits 5 = .ok (.aload_n 0, 1) := by decide +kernel
theorem dX10_heldBits_6 : decode cX10_heldBits 6 = .ok (.getfield 49, 3) := by decide +kernel
theorem dX10_heldBits_9 : decode cX10_heldBits 9 = .ok (.getfield 117, 3) := by decide +kernel
theorem dX10_heldBits_12 : decode cX10_heldBits 12 = .ok (.if_icmp .ge 34, 3) := by decide +kernel
theorem dX10_heldBits_15 : decode cX10_heldBits 15 = .ok (.iload_n 3, 1) := by decide +kernel
theorem dX10_heldBits_16 : decode cX10_heldBits 16 = .ok (.bipush 12, 2) := by decide +kernel
theorem dX10_heldBits_18 : decode cX10_heldBits 18 = .ok (.if_icmp .ge 28, 3) := by decide +kernel
theorem dX10_heldBits_21 : decode cX10_heldBits 21 = .ok (.iload_n 2, 1) := by decide +kernel
theorem dX10_heldBits_22 : decode cX10_heldBits 22 = .ok (.aload_n 0, 1) := by decide +kernel
theorem dX10_heldBits_23 : decode cX10_heldBits 23 = .ok (.iload_n 3, 1) := by decide +kernel
theorem dX10_heldBits_24 : decode cX10_heldBits 24 = .ok (.iload_n 1, 1) := by decide +kernel
theorem dX10_heldBits_25 : decode cX10_heldBits 25 = .ok (.invokevirtual 133, 3) := by decide +kernel
theorem dX10_heldBits_28 : decode cX10_heldBits 28 = .ok (.ifCond .eq 9, 3) := by decide +kernel
theorem dX10_heldBits_31 : decode cX10_heldBits 31 = .ok (.iconst 1, 1) := by decide +kernel
theorem dX10_heldBits_32 : decode cX10_heldBits 32 = .ok (.iload_n 3, 1) := by decide +kernel
theorem dX10_heldBits_33 : decode cX10_heldBits 33 = .ok (.ishl, 1) := by decide +kernel
theorem dX10_heldBits_34 : decode cX10_heldBits 34 = .ok (.goto 4, 3) := by decide +kernel
theorem dX10_heldBits_37 : decode cX10_heldBits 37 = .ok (.iconst 0, 1) := by decide +kernel
theorem dX10_heldBits_38 : decode cX10_heldBits 38 = .ok (.ior, 1) := by decide +kernel
theorem dX10_heldBits_39 : decode cX10_heldBits 39 = .ok (.istore_n 2, 1) := by decide +kernel
theorem dX10_heldBits_40 : decode cX10_heldBits 40 = .ok (.iinc 3 1, 3) := by decide +kernel
theorem dX10_heldBits_43 : decode cX10_heldBits 43 = .ok (.goto (-39), 3) := by decide +kernel
theorem dX10_heldBits_46 : decode cX10_heldBits 46 = .ok (.iload_n 2, 1) := by decide +kernel
theorem dX10_heldBits_47 : decode cX10_heldBits 47 = .ok (.ireturn, 1) := by decide +kernel
theorem dX10_hiddenBits_0 : decode cX10_hiddenBits 0 = .ok (.iconst 0, 1) := by decide +kernel
theorem dX10_hiddenBits_1 : decode cX10_hiddenBits 1 = .ok (.istore_n 1, 1) := by decide +kernel
theorem dX10_hiddenBits_2 : decode cX10_hiddenBits 2 = .ok (.iconst 0, 1) := by decide +kernel
theorem dX10_hiddenBits_3 : decode cX10_hiddenBits 3 = .ok (.istore_n 2, 1) := by decide +kernel
theorem dX10_hiddenBits_4 : decode cX10_hiddenBits 4 = .ok (.iload_n 2, 1) := by decide +kernel
theorem dX10_hiddenBits_5 : decode cX10_hiddenBits 5 = .ok (.aload_n 0, 1) := by decide +kernel
theorem dX10_hiddenBits_6 : decode cX10_hiddenBits 6 = .ok (.getfield 49, 3) := by decide +kernel
theorem dX10_hiddenBits_9 : decode cX10_hiddenBits 9 = .ok (.getfield 117, 3) := by decide +kernel
theorem dX10_hiddenBits_12 : decode cX10_hiddenBits 12 = .ok (.if_icmp .ge 51, 3) := by decide +kernel
theorem dX10_hiddenBits_15 : decode cX10_hiddenBits 15 = .ok (.iload_n 2, 1) := by decide +kernel
theorem dX10_hiddenBits_16 : decode cX10_hiddenBits 16 = .ok (.bipush 12, 2) := by decide +kernel
theorem dX10_hiddenBits_18 : decode cX10_hiddenBits 18 = .ok (.if_icmp .ge 45, 3) := by decide +kernel
theorem dX10_hiddenBits_21 : decode cX10_hiddenBits 21 = .ok (.iload_n 1, 1) := by decide +kernel
theorem dX10_hiddenBits_22 : decode cX10_hiddenBits 22 = .ok (.aload_n 0, 1) := by decide +kernel
theorem dX10_hiddenBits_23 : decode cX10_hiddenBits 23 = .ok (.iload_n 2, 1) := by decide +kernel
theorem dX10_hiddenBits_24 : decode cX10_hiddenBits 24 = .ok (.invokevirtual 172, 3) := by decide +kernel
theorem dX10_hiddenBits_27 : decode cX10_hiddenBits 27 = .ok (.ifCond .eq 27, 3) := by decide +kernel
theorem dX10_hiddenBits_30 : decode cX10_hiddenBits 30 = .ok (.aload_n 0, 1) := by decide +kernel
theorem dX10_hiddenBits_31 : decode cX10_hiddenBits 31 = .ok (.getfield 33, 3) := by decide +kernel
theorem dX10_hiddenBits_34 : decode cX10_hiddenBits 34 = .ok (.iload_n 2, 1) := by decide +kernel
theorem dX10_hiddenBits_35 : decode cX10_hiddenBits 35 = .ok (.iaload, 1) := by decide +kernel
theorem dX10_hiddenBits_36 : decode cX10_hiddenBits 36 = .ok (.aload_n 0, 1) := by decide +kernel
theorem dX10_hiddenBits_37 : decode cX10_hiddenBits 37 = .ok (.getfield 49, 3) := by decide +kernel
theorem dX10_hiddenBits_40 : decode cX10_hiddenBits 40 = .ok (.getfield 123, 3) := by decide +kernel
theorem dX10_hiddenBits_43 : decode cX10_hiddenBits 43 = .ok (.iload_n 2, 1) := by decide +kernel
theorem dX10_hiddenBits_44 : decode cX10_hiddenBits 44 = .ok (.iaload, 1) := by decide +kernel
theorem dX10_hiddenBits_45 : decode cX10_hiddenBits 45 = .ok (.if_icmp .eq 9, 3) := by decide +kernel
theorem dX10_hiddenBits_48 : decode cX10_hiddenBits 48 = .ok (.iconst 1, 1) := by decide +kernel
theorem dX10_hiddenBits_49 : decode cX10_hiddenBits 49 = .ok (.iload_n 2, 1) := by decide +kernel
theorem dX10_hiddenBits_50 : decode cX10_hiddenBits 50 = .ok (.ishl, 1) := by decide +kernel
theorem dX10_hiddenBits_51 : decode cX10_hiddenBits 51 = .ok (.goto 4, 3) := by decide +kernel
theorem dX10_hiddenBits_54 : decode cX10_hiddenBits 54 = .ok (.iconst 0, 1) := by decide +kernel
theorem dX10_hiddenBits_55 : decode cX10_hiddenBits 55 = .ok (.ior, 1) := by decide +kernel
theorem dX10_hiddenBits_56 : decode cX10_hiddenBits 56 = .ok (.istore_n 1, 1) := by decide +kernel
theorem dX10_hiddenBits_57 : decode cX10_hiddenBits 57 = .ok (.iinc 2 1, 3) := by decide +kernel
theorem dX10_hiddenBits_60 : decode cX10_hiddenBits 60 = .ok (.goto (-56), 3) := by decide +kernel
theorem dX10_hiddenBits_63 : decode cX10_hiddenBits 63 = .ok (.iload_n 1, 1) := by decide +kernel
theorem dX10_hiddenBits_64 : decode cX10_hiddenBits 64 = .ok (.ireturn, 1) := by decide +kernel
theorem dX10_holdersOf_0 : decode cX10_holdersOf 0 = .ok (.iconst 0, 1) := by decide +kernel
theorem dX10_holdersOf_1 : decode cX10_holdersOf 1 = .ok (.istore_n 3, 1) := by decide +kernel
theorem dX10_holdersOf_2 : decode cX10_holdersOf 2 = .ok (.iconst 0, 1) := by decide +kernel
theorem dX10_holdersOf_3 : decode cX10_holdersOf 3 = .ok (.istore 4, 2) := by decide +kernel
theorem dX10_holdersOf_5 : decode cX10_holdersOf 5 = .ok (.iload 4, 2) := by decide +kernel
theorem dX10_holdersOf_7 : decode cX10_holdersOf 7 = .ok (.aload_n 0, 1) := by decide +kernel
theorem dX10_holdersOf_8 : decode cX10_holdersOf 8 = .ok (.getfield 49, 3) := by decide +kernel
theorem dX10_holdersOf_11 : decode cX10_holdersOf 11 = .ok (.getfield 117, 3) := by decide +kernel
theorem dX10_holdersOf_14 : decode cX10_holdersOf 14 = .ok (.if_icmp .ge 65, 3) := by decide +kernel
theorem dX10_holdersOf_17 : decode cX10_holdersOf 17 = .ok (.iload 4, 2) := by decide +kernel
theorem dX10_holdersOf_19 : decode cX10_holdersOf 19 = .ok (.bipush 12, 2) := by decide +kernel
theorem dX10_holdersOf_21 : decode cX10_holdersOf 21 = .ok (.if_icmp .ge 58, 3) := by decide +kernel
theorem dX10_holdersOf_24 : decode cX10_holdersOf 24 = .ok (.aload_n 0, 1) := by decide +kernel
theorem dX10_holdersOf_25 : decode cX10_holdersOf 25 = .ok (.iload 4, 2) := by decide +kernel
theorem dX10_holdersOf_27 : decode cX10_holdersOf 27 = .ok (.invokevirtual 172, 3) := by decide +kernel
theorem dX10_holdersOf_30 : decode cX10_holdersOf 30 = .ok (.ifCond .eq 43, 3) := by decide +kernel
theorem dX10_holdersOf_33 : decode cX10_holdersOf 33 = .ok (.aload_n 0, 1) := by decide +kernel
theorem dX10_holdersOf_34 : decode cX10_holdersOf 34 = .ok (.getfield 49, 3) := by decide +kernel
theorem dX10_holdersOf_37 : decode cX10_holdersOf 37 = .ok (.getfield 141, 3) := by decide +kernel
theorem dX10_holdersOf_40 : decode cX10_holdersOf 40 = .ok (.iload 4, 2) := by decide +kernel
theorem dX10_holdersOf_42 : decode cX10_holdersOf 42 = .ok (.iaload, 1) := by decide +kernel
theorem dX10_holdersOf_43 : decode cX10_holdersOf 43 = .ok (.iload_n 1, 1) := by decide +kernel
theorem dX10_holdersOf_44 : decode cX10_holdersOf 44 = .ok (.if_icmp .ne 29, 3) := by decide +kernel
theorem dX10_holdersOf_47 : decode cX10_holdersOf 47 = .ok (.aload_n 0, 1) := by decide +kernel
theorem dX10_holdersOf_48 : decode cX10_holdersOf 48 = .ok (.getfield 49, 3) := by decide +kernel
theorem dX10_holdersOf_51 : decode cX10_holdersOf 51 = .ok (.getfield 171, 3) := by decide +kernel
theorem dX10_holdersOf_54 : decode cX10_holdersOf 54 = .ok (.iload 4, 2) := by decide +kernel
theorem dX10_holdersOf_56 : decode cX10_holdersOf 56 = .ok (.iaload, 1) := by decide +kernel
theorem dX10_holdersOf_57 : decode cX10_holdersOf 57 = .ok (.iload_n 2, 1) := by decide +kernel
theorem dX10_holdersOf_58 : decode cX10_holdersOf 58 = .ok (.if_icmp .ne 15, 3) := by decide +kernel
theorem dX10_holdersOf_61 : decode cX10_holdersOf 61 = .ok (.iload_n 3, 1) := by decide +kernel
theorem dX10_holdersOf_62 : decode cX10_holdersOf 62 = .ok (.iconst 1, 1) := by decide +kernel
theorem dX10_holdersOf_63 : decode cX10_holdersOf 63 = .ok (.aload_n 0, 1) := by decide +kernel
theorem dX10_holdersOf_64 : decode cX10_holdersOf 64 = .ok (.getfield 33, 3) := by decide +kernel
theorem dX10_holdersOf_67 : decode cX10_holdersOf 67 = .ok (.iload 4, 2) := by decide +kernel
theorem dX10_holdersOf_69 : decode cX10_holdersOf 69 = .ok (.iaload, 1) := by decide +kernel
theorem dX10_holdersOf_70 : decode cX10_holdersOf 70 = .ok (.ishl, 1) := by decide +kernel
theorem dX10_holdersOf_71 : decode cX10_holdersOf 71 = .ok (.ior, 1) := by decide +kernel
theorem dX10_holdersOf_72 : decode cX10_holdersOf 72 = .ok (.istore_n 3, 1) := by decide +kernel
theorem dX10_holdersOf_73 : decode cX10_holdersOf 73 = .ok (.iinc 4 1, 3) := by decide +kernel
theorem dX10_holdersOf_76 : decode cX10_holdersOf 76 = .ok (.goto (-71), 3) := by decide +kernel
theorem dX10_holdersOf_79 : decode cX10_holdersOf 79 = .ok (.iload_n 3, 1) := by decide +kernel
theorem dX10_holdersOf_80 : decode cX10_holdersOf 80 = .ok (.ireturn, 1) := by decide +kernel
theorem dX10_bestHeld_0 : decode cX10_bestHeld 0 = .ok (.iconst 0, 1) := by decide +kernel
theorem dX10_bestHeld_1 : decode cX10_bestHeld 1 = .ok (.istore_n 2, 1) := by decide +kernel
theorem dX10_bestHeld_2 : decode cX10_bestHeld 2 = .ok (.iconst 0, 1) := by decide +kernel
theorem dX10_bestHeld_3 : decode cX10_bestHeld 3 = .ok (.istore_n 3, 1) := by decide +kernel
theorem dX10_bestHeld_4 : decode cX10_bestHeld 4 = .ok (.iload_n 3, 1) := by decide +kernel
theorem dX10_bestHeld_5 : decode cX10_bestHeld 5 = .ok (.aload_n 0, 1) := by decide +kernel
theorem dX10_bestHeld_6 : decode cX10_bestHeld 6 = .ok (.getfield 49, 3) := by decide +kernel
theorem dX10_bestHeld_9 : decode cX10_bestHeld 9 = .ok (.getfield 117, 3) := by decide +kernel
theorem dX10_bestHeld_12 : decode cX10_bestHeld 12 = .ok (.if_icmp .ge 42, 3) := by decide +kernel
theorem dX10_bestHeld_15 : decode cX10_bestHeld 15 = .ok (.iload_n 3, 1) := by decide +kernel
theorem dX10_bestHeld_16 : decode cX10_bestHeld 16 = .ok (.bipush 12, 2) := by decide +kernel
theorem dX10_bestHeld_18 : decode cX10_bestHeld 18 = .ok (.if_icmp .ge 36, 3) := by decide +kernel
theorem dX10_bestHeld_21 : decode cX10_bestHeld 21 = .ok (.aload_n 0, 1) := by decide +kernel
theorem dX10_bestHeld_22 : decode cX10_bestHeld 22 = .ok (.iload_n 3, 1) := by decide +kernel
theorem dX10_bestHeld_23 : decode cX10_bestHeld 23 = .ok (.iload_n 1, 1) := by decide +kernel
theorem dX10_bestHeld_24 : decode cX10_bestHeld 24 = .ok (.invokevirtual 133, 3) := by decide +kernel
theorem dX10_bestHeld_27 : decode cX10_bestHeld 27 = .ok (.ifCond .eq 19, 3) := by decide +kernel
theorem dX10_bestHeld_30 : decode cX10_bestHeld 30 = .ok (.iload_n 2, 1) := by decide +kernel
theorem dX10_bestHeld_31 : decode cX10_bestHeld 31 = .ok (.aload_n 0, 1) := by decide +kernel
theorem dX10_bestHeld_32 : decode cX10_bestHeld 32 = .ok (.getfield 49, 3) := by decide +kernel
theorem dX10_bestHeld_35 : decode cX10_bestHeld 35 = .ok (.getfield 141, 3) := by decide +kernel
theorem dX10_bestHeld_38 : decode cX10_bestHeld 38 = .ok (.iload_n 3, 1) := by decide +kernel
theorem dX10_bestHeld_39 : decode cX10_bestHeld 39 = .ok (.iaload, 1) := by decide +kernel
theorem dX10_bestHeld_40 : decode cX10_bestHeld 40 = .ok (.invokestatic 144, 3) := by decide +kernel
theorem dX10_bestHeld_43 : decode cX10_bestHeld 43 = .ok (.goto 4, 3) := by decide +kernel
theorem dX10_bestHeld_46 : decode cX10_bestHeld 46 = .ok (.iload_n 2, 1) := by decide +kernel
theorem dX10_bestHeld_47 : decode cX10_bestHeld 47 = .ok (.istore_n 2, 1) := by decide +kernel
theorem dX10_bestHeld_48 : decode cX10_bestHeld 48 = .ok (.iinc 3 1, 3) := by decide +kernel
theorem dX10_bestHeld_51 : decode cX10_bestHeld 51 = .ok (.goto (-47), 3) := by decide +kernel
theorem dX10_bestHeld_54 : decode cX10_bestHeld 54 = .ok (.iload_n 2, 1) := by decide +kernel
theorem dX10_bestHeld_55 : decode cX10_bestHeld 55 = .ok (.ireturn, 1) := by decide +kernel
theorem dX10_heldWorth_0 : decode cX10_heldWorth 0 = .ok (.iconst 0, 1) := by decide +kernel
theorem dX10_heldWorth_1 : decode cX10_heldWorth 1 = .ok (.istore_n 1, 1) := by decide +kernel
theorem dX10_heldWorth_2 : decode cX10_heldWorth 2 = .ok (.iconst 0, 1) := by decide +kernel
theorem dX10_heldWorth_3 : decode cX10_heldWorth 3 = .ok (.istore_n 2, 1) := by decide +kernel
theorem dX10_heldWorth_4 : decode cX10_heldWorth 4 = .ok (.iload_n 2, 1) := by decide +kernel
theorem dX10_heldWorth_5 : decode cX10_heldWorth 5 = .ok (.aload_n 0, 1) := by decide +kernel
theorem dX10_heldWorth_6 : decode cX10_heldWorth 6 = .ok (.getfield 49, 3) := by decide +kernel
theorem dX10_heldWorth_9 : decode cX10_heldWorth 9 = .ok (.getfield 117, 3) := by decide +kernel
theorem dX10_heldWorth_12 : decode cX10_heldWorth 12 = .ok (.if_icmp .ge 39, 3) := by decide +kernel
theorem dX10_heldWorth_15 : decode cX10_heldWorth 15 = .ok (.iload_n 2, 1) := by decide +kernel
theorem dX10_heldWorth_16 : decode cX10_heldWorth 16 = .ok (.bipush 12, 2) := by decide +kernel
theorem dX10_heldWorth_18 : decode cX10_heldWorth 18 = .ok (.if_icmp .ge 33, 3) := by decide +kernel
theorem dX10_heldWorth_21 : decode cX10_heldWorth 21 = .ok (.iload_n 1, 1) := by decide +kernel
theorem dX10_heldWorth_22 : decode cX10_heldWorth 22 = .ok (.aload_n 0, 1) := by decide +kernel
theorem dX10_heldWorth_23 : decode cX10_heldWorth 23 = .ok (.iload_n 2, 1) := by decide +kernel
theorem dX10_heldWorth_24 : decode cX10_heldWorth 24 = .ok (.invokevirtual 172, 3) := by decide +kernel
theorem dX10_heldWorth_27 : decode cX10_heldWorth 27 = .ok (.ifCond .eq 15, 3) := by decide +kernel
theorem dX10_heldWorth_30 : decode cX10_heldWorth 30 = .ok (.aload_n 0, 1) := by decide +kernel
theorem dX10_heldWorth_31 : decode cX10_heldWorth 31 = .ok (.getfield 49, 3) := by decide +kernel
theorem dX10_heldWorth_34 : decode cX10_heldWorth 34 = .ok (.getfield 141, 3) := by decide +kernel
theorem dX10_heldWorth_37 : decode cX10_heldWorth 37 = .ok (.iload_n 2, 1) := by decide +kernel
theorem dX10_heldWorth_38 : decode cX10_heldWorth 38 = .ok (.iaload, 1) := by decide +kernel
theorem dX10_heldWorth_39 : decode cX10_heldWorth 39 = .ok (.goto 4, 3) := by decide +kernel
theorem dX10_heldWorth_42 : decode cX10_heldWorth 42 = .ok (.iconst 0, 1) := by decide +kernel
theorem dX10_heldWorth_43 : decode cX10_heldWorth 43 = .ok (.iadd, 1) := by decide +kernel
theorem dX10_heldWorth_44 : decode cX10_heldWorth 44 = .ok (.istore_n 1, 1) := by decide +kernel
theorem dX10_heldWorth_45 : decode cX10_heldWorth 45 = .ok (.iinc 2 1, 3) := by decide +kernel
theorem dX10_heldWorth_48 : decode cX10_heldWorth 48 = .ok (.goto (-44), 3) := by decide +kernel
theorem dX10_heldWorth_51 : decode cX10_heldWorth 51 = .ok (.iload_n 1, 1) := by decide +kernel
theorem dX10_heldWorth_52 : decode cX10_heldWorth 52 = .ok (.ireturn, 1) := by decide +kernel
theorem dX10_heldWorthAt_0 : decode cX10_heldWorthAt 0 = .ok (.iconst 0, 1) := by decide +kernel
theorem dX10_heldWorthAt_1 : decode cX10_heldWorthAt 1 = .ok (.istore_n 2, 1) := by decide +kernel
theorem dX10_heldWorthAt_2 : decode cX10_heldWorthAt 2 = .ok (.iconst 0, 1) := by decide +kernel
theorem dX10_heldWorthAt_3 : decode cX10_heldWorthAt 3 = .ok (.istore_n 3, 1) := by decide +kernel
theorem dX10_heldWorthAt_4 : decode cX10_heldWorthAt 4 = .ok (.iload_n 3, 1) := by decide +kernel
theorem dX10_heldWorthAt_5 : decode cX10_heldWorthAt 5 = .ok (.aload_n 0, 1) := by decide +kernel
theorem dX10_heldWorthAt_6 : decode cX10_heldWorthAt 6 = .ok (.getfield 49, 3) := by decide +kernel
theorem dX10_heldWorthAt_9 : decode cX10_heldWorthAt 9 = .ok (.getfield 117, 3) := by decide +kernel
theorem dX10_heldWorthAt_12 : decode cX10_heldWorthAt 12 = .ok (.if_icmp .ge 40, 3) := by decide +kernel
theorem dX10_heldWorthAt_15 : decode cX10_heldWorthAt 15 = .ok (.iload_n 3, 1) := by decide +kernel
theorem dX10_heldWorthAt_16 : decode cX10_heldWorthAt 16 = .ok (.bipush 12, 2) := by decide +kernel
theorem dX10_heldWorthAt_18 : decode cX10_heldWorthAt 18 = .ok (.if_icmp .ge 34, 3) := by decide +kernel
theorem dX10_heldWorthAt_21 : decode cX10_heldWorthAt 21 = .ok (.iload_n 2, 1) := by decide +kernel
theorem dX10_heldWorthAt_22 : decode cX10_heldWorthAt 22 = .ok (.aload_n 0, 1) := by decide +kernel
theorem dX10_heldWorthAt_23 : decode cX10_heldWorthAt 23 = .ok (.iload_n 3, 1) := by decide +kernel
theorem dX10_heldWorthAt_24 : decode cX10_heldWorthAt 24 = .ok (.iload_n 1, 1) := by decide +kernel
theorem dX10_heldWorthAt_25 : decode cX10_heldWorthAt 25 = .ok (.invokevirtual 133, 3) := by decide +kernel
theorem dX10_heldWorthAt_28 : decode cX10_heldWorthAt 28 = .ok (.ifCond .eq 15, 3) := by decide +kernel
theorem dX10_heldWorthAt_31 : decode cX10_heldWorthAt 31 = .ok (.aload_n 0, 1) := by decide +kernel
theorem dX10_heldWorthAt_32 : decode cX10_heldWorthAt 32 = .ok (.getfield 49, 3) := by decide +kernel
theorem dX10_heldWorthAt_35 : decode cX10_heldWorthAt 35 = .ok (.getfield 141, 3) := by decide +kernel
theorem dX10_heldWorthAt_38 : decode cX10_heldWorthAt 38 = .ok (.iload_n 3, 1) := by decide +kernel
theorem dX10_heldWorthAt_39 : decode cX10_heldWorthAt 39 = .ok (.iaload, 1) := by decide +kernel
theorem dX10_heldWorthAt_40 : decode cX10_heldWorthAt 40 = .ok (.goto 4, 3) := by decide +kernel
theorem dX10_heldWorthAt_43 : decode cX10_heldWorthAt 43 = .ok (.iconst 0, 1) := by decide +kernel
theorem dX10_heldWorthAt_44 : decode cX10_heldWorthAt 44 = .ok (.iadd, 1) := by decide +kernel
theorem dX10_heldWorthAt_45 : decode cX10_heldWorthAt 45 = .ok (.istore_n 2, 1) := by decide +kernel
theorem dX10_heldWorthAt_46 : decode cX10_heldWorthAt 46 = .ok (.iinc 3 1, 3) := by decide +kernel
theorem dX10_heldWorthAt_49 : decode cX10_heldWorthAt 49 = .ok (.goto (-45), 3) := by decide +kernel
theorem dX10_heldWorthAt_52 : decode cX10_heldWorthAt 52 = .ok (.iload_n 2, 1) := by decide +kernel
theorem dX10_heldWorthAt_53 : decode cX10_heldWorthAt 53 = .ok (.ireturn, 1) := by decide +kernel
theorem dX10_richestDoor_0 : decode cX10_richestDoor 0 = .ok (.bipush (-2), 2) := by decide +kernel
theorem dX10_richestDoor_2 : decode cX10_richestDoor 2 = .ok (.istore_n 1, 1) := by decide +kernel
theorem dX10_richestDoor_3 : decode cX10_richestDoor 3 = .ok (.iconst 0, 1) := by decide +kernel
theorem dX10_richestDoor_4 : decode cX10_richestDoor 4 = .ok (.istore_n 2, 1) := by decide +kernel
theorem dX10_richestDoor_5 : decode cX10_richestDoor 5 = .ok (.iconst 0, 1) := by decide +kernel
theorem dX10_richestDoor_6 : decode cX10_richestDoor 6 = .ok (.istore_n 3, 1) := by decide +kernel
theorem dX10_richestDoor_7 : decode cX10_richestDoor 7 = .ok (.iload_n 3, 1) := by decide +kernel
theorem dX10_richestDoor_8 : decode cX10_richestDoor 8 = .ok (.aload_n 0, 1) := by decide +kernel
theorem dX10_richestDoor_9 : decode cX10_richestDoor 9 = .ok (.getfield 49, 3) := by decide +kernel
theorem dX10_richestDoor_12 : decode cX10_richestDoor 12 = .ok (.getfield 93, 3) := by decide +kernel
theorem dX10_richestDoor_15 : decode cX10_richestDoor 15 = .ok (.if_icmp .ge 33, 3) := by decide +kernel
theorem dX10_richestDoor_18 : decode cX10_richestDoor 18 = .ok (.iload_n 3, 1) := by decide +kernel
theorem dX10_richestDoor_19 : decode cX10_richestDoor 19 = .ok (.bipush 6, 2) := by decide +kernel
theorem dX10_richestDoor_21 : decode cX10_richestDoor 21 = .ok (.if_icmp .ge 27, 3) := by decide +kernel
theorem dX10_richestDoor_24 : decode cX10_richestDoor 24 = .ok (.aload_n 0, 1) := by decide +kernel
theorem dX10_richestDoor_25 : decode cX10_richestDoor 25 = .ok (.iload_n 3, 1) := by decide +kernel
theorem dX10_richestDoor_26 : decode cX10_richestDoor 26 = .ok (.invokevirtual 213, 3) := by decide +kernel
theorem dX10_richestDoor_29 : decode cX10_richestDoor 29 = .ok (.istore 4, 2) := by decide +kernel
theorem dX10_richestDoor_31 : decode cX10_richestDoor 31 = .ok (.iload 4, 2) := by decide +kernel
theorem dX10_richestDoor_33 : decode cX10_richestDoor 33 = .ok (.iload_n 2, 1) := by decide +kernel
theorem dX10_richestDoor_34 : decode cX10_richestDoor 34 = .ok (.if_icmp .le 8, 3) := by decide +kernel
theorem dX10_richestDoor_37 : decode cX10_richestDoor 37 = .ok (.iload 4, 2) := by decide +kernel
theorem dX10_richestDoor_39 : decode cX10_richestDoor 39 = .ok (.istore_n 2, 1) := by decide +kernel
theorem dX10_richestDoor_40 : decode cX10_richestDoor 40 = .ok (.iload_n 3, 1) := by decide +kernel
theorem dX10_richestDoor_41 : decode cX10_richestDoor 41 = .ok (.istore_n 1, 1) := by decide +kernel
theorem dX10_richestDoor_42 : decode cX10_richestDoor 42 = .ok (.iinc 3 1, 3) := by decide +kernel
theorem dX10_richestDoor_45 : decode cX10_richestDoor 45 = .ok (.goto (-38), 3) := by decide +kernel
theorem dX10_richestDoor_48 : decode cX10_richestDoor 48 = .ok (.iload_n 1, 1) := by decide +kernel
theorem dX10_richestDoor_49 : decode cX10_richestDoor 49 = .ok (.ireturn, 1) := by decide +kernel
theorem dX10_chainOf_0 : decode cX10_chainOf 0 = .ok (.bipush 100, 2) := by decide +kernel
theorem dX10_chainOf_2 : decode cX10_chainOf 2 = .ok (.istore_n 2, 1) := by decide +kernel
theorem dX10_chainOf_3 : decode cX10_chainOf 3 = .ok (.iconst 0, 1) := by decide +kernel
theorem dX10_chainOf_4 : decode cX10_chainOf 4 = .ok (.istore_n 3, 1) := by decide +kernel
theorem dX10_chainOf_5 : decode cX10_chainOf 5 = .ok (.iload_n 3, 1) := by decide +kernel
theorem dX10_chainOf_6 : decode cX10_chainOf 6 = .ok (.bipush 9, 2) := by decide +kernel
theorem dX10_chainOf_8 : decode cX10_chainOf 8 = .ok (.if_icmp .gt 64, 3) := by decide +kernel
theorem dX10_chainOf_11 : decode cX10_chainOf 11 = .ok (.iconst 0, 1) := by decide +kernel
theorem dX10_chainOf_12 : decode cX10_chainOf 12 = .ok (.istore 4, 2) := by decide +kernel
theorem dX10_chainOf_14 : decode cX10_chainOf 14 = .ok (.iload 4, 2) := by decide +kernel
theorem dX10_chainOf_16 : decode cX10_chainOf 16 = .ok (.aload_n 0, 1) := by decide +kernel
theorem dX10_chainOf_17 : decode cX10_chainOf 17 = .ok (.getfield 49, 3) := by decide +kernel
theorem dX10_chainOf_20 : decode cX10_chainOf 20 = .ok (.getfield 83, 3) := by decide +kernel
theorem dX10_chainOf_23 : decode cX10_chainOf 23 = .ok (.if_icmp .ge 43, 3) := by decide +kernel
theorem dX10_chainOf_26 : decode cX10_chainOf 26 = .ok (.iload 4, 2) := by decide +kernel
theorem dX10_chainOf_28 : decode cX10_chainOf 28 = .ok (.iconst 4, 1) := by decide +kernel
theorem dX10_chainOf_29 : decode cX10_chainOf 29 = .ok (.if_icmp .ge 37, 3) := by decide +kernel
theorem dX10_chainOf_32 : decode cX10_chainOf 32 = .ok (.iload_n 1, 1) := by decide +kernel
theorem dX10_chainOf_33 : decode cX10_chainOf 33 = .ok (.iload 4, 2) := by decide +kernel
theorem dX10_chainOf_35 : decode cX10_chainOf 35 = .ok (.ishr, 1) := by decide +kernel
theorem dX10_chainOf_36 : decode cX10_chainOf 36 = .ok (.iconst 1, 1) := by decide +kernel
theorem dX10_chainOf_37 : decode cX10_chainOf 37 = .ok (.iand, 1) := by decide +kernel
theorem dX10_chainOf_38 : decode cX10_chainOf 38 = .ok (.iconst 1, 1) := by decide +kernel
theorem dX10_chainOf_39 : decode cX10_chainOf 39 = .ok (.if_icmp .ne 21, 3) := by decide +kernel
theorem dX10_chainOf_42 : decode cX10_chainOf 42 = .ok (.aload_n 0, 1) := by decide +kernel
theorem dX10_chainOf_43 : decode cX10_chainOf 43 = .ok (.getfield 39, 3) := by decide +kernel
theorem dX10_chainOf_46 : decode cX10_chainOf 46 = .ok (.iload 4, 2) := by decide +kernel
theorem dX10_chainOf_48 : decode cX10_chainOf 48 = .ok (.iaload, 1) := by decide +kernel
theorem dX10_chainOf_49 : decode cX10_chainOf 49 = .ok (.iload_n 3, 1) := by decide +kernel
theorem dX10_chainOf_50 : decode cX10_chainOf 50 = .ok (.if_icmp .ne 10, 3) := by decide +kernel
theorem dX10_chainOf_53 : decode cX10_chainOf 53 = .ok (.iload_n 2, 1) := by decide +kernel
theorem dX10_chainOf_54 : decode cX10_chainOf 54 = .ok (.iload_n 3, 1) := by decide +kernel
theorem dX10_chainOf_55 : decode cX10_chainOf 55 = .ok (.imul, 1) := by decide +kernel
theorem dX10_chainOf_56 : decode cX10_chainOf 56 = .ok (.bipush 10, 2) := by decide +kernel
theorem dX10_chainOf_58 : decode cX10_chainOf 58 = .ok (.idiv, 1) := by decide +kernel
theorem dX10_chainOf_59 : decode cX10_chainOf 59 = .ok (.istore_n 2, 1) := by decide +kernel
theorem dX10_chainOf_60 : decode cX10_chainOf 60 = .ok (.iinc 4 1, 3) := by decide +kernel
theorem dX10_chainOf_63 : decode cX10_chainOf 63 = .ok (.goto (-49), 3) := by decide +kernel
theorem dX10_chainOf_66 : decode cX10_chainOf 66 = .ok (.iinc 3 1, 3) := by decide +kernel
theorem dX10_chainOf_69 : decode cX10_chainOf 69 = .ok (.goto (-64), 3) := by decide +kernel
theorem dX10_chainOf_72 : decode cX10_chainOf 72 = .ok (.iload_n 2, 1) := by decide +kernel
theorem dX10_chainOf_73 : decode cX10_chainOf 73 = .ok (.ireturn, 1) := by decide +kernel
theorem dX10_countOf_0 : decode cX10_countOf 0 = .ok (.iconst 0, 1) := by decide +kernel
theorem dX10_countOf_1 : decode cX10_countOf 1 = .ok (.istore_n 2, 1) := by decide +kernel
theorem dX10_countOf_2 : decode cX10_countOf 2 = .ok (.iconst 0, 1) := by decide +kernel
theorem dX10_countOf_3 : decode cX10_countOf 3 = .ok (.istore_n 3, 1) := by decide +kernel
theorem dX10_countOf_4 : decode cX10_countOf 4 = .ok (.iload_n 3, 1) := by decide +kernel
theorem dX10_countOf_5 : decode cX10_countOf 5 = .ok (.aload_n 0, 1) := by decide +kernel
theorem dX10_countOf_6 : decode cX10_countOf 6 = .ok (.getfield 49, 3) := by decide +kernel
theorem dX10_countOf_9 : decode cX10_countOf 9 = .ok (.getfield 117, 3) := by decide +kernel
theorem dX10_countOf_12 : decode cX10_countOf 12 = .ok (.if_icmp .ge 33, 3) := by decide +kernel
theorem dX10_countOf_15 : decode cX10_countOf 15 = .ok (.iload_n 3, 1) := by decide +kernel
theorem dX10_countOf_16 : decode cX10_countOf 16 = .ok (.bipush 12, 2) := by decide +kernel
theorem dX10_countOf_18 : decode cX10_countOf 18 = .ok (.if_icmp .ge 27, 3) := by decide +kernel
theorem dX10_countOf_21 : decode cX10_countOf 21 = .ok (.iload_n 2, 1) := by decide +kernel
theorem dX10_countOf_22 : decode cX10_countOf 22 = .ok (.aload_n 0, 1) := by decide +kernel
theorem dX10_countOf_23 : decode cX10_countOf 23 = .ok (.getfield 30, 3) := by decide +kernel
theorem dX10_countOf_26 : decode cX10_countOf 26 = .ok (.iload_n 3, 1) := by decide +kernel
theorem dX10_countOf_27 : decode cX10_countOf 27 = .ok (.iaload, 1) := by decide +kernel
theorem dX10_countOf_28 : decode cX10_countOf 28 = .ok (.iload_n 1, 1) := by decide +kernel
theorem dX10_countOf_29 : decode cX10_countOf 29 = .ok (.if_icmp .ne 7, 3) := by decide +kernel
theorem dX10_countOf_32 : decode cX10_countOf 32 = .ok (.iconst 1, 1) := by decide +kernel
theorem dX10_countOf_33 : decode cX10_countOf 33 = .ok (.goto 4, 3) := by decide +kernel
theorem dX10_countOf_36 : decode cX10_countOf 36 = .ok (.iconst 0, 1) := by decide +kernel
theorem dX10_countOf_37 : decode cX10_countOf 37 = .ok (.iadd, 1) := by decide +kernel
theorem dX10_countOf_38 : decode cX10_countOf 38 = .ok (.istore_n 2, 1) := by decide +kernel
theorem dX10_countOf_39 : decode cX10_countOf 39 = .ok (.iinc 3 1, 3) := by decide +kernel
theorem dX10_countOf_42 : decode cX10_countOf 42 = .ok (.goto (-38), 3) := by decide +kernel
theorem dX10_countOf_45 : decode cX10_countOf 45 = .ok (.iload_n 2, 1) := by decide +kernel
theorem dX10_countOf_46 : decode cX10_countOf 46 = .ok (.ireturn, 1) := by decide +kernel
theorem dX10_sum_0 : decode cX10_sum 0 = .ok (.iconst 0, 1) := by decide +kernel
theorem dX10_sum_1 : decode cX10_sum 1 = .ok (.istore_n 2, 1) := by decide +kernel
theorem dX10_sum_2 : decode cX10_sum 2 = .ok (.iconst 0, 1) := by decide +kernel
theorem dX10_sum_3 : decode cX10_sum 3 = .ok (.istore_n 3, 1) := by decide +kernel
theorem dX10_sum_4 : decode cX10_sum 4 = .ok (.iload_n 3, 1) := by decide +kernel
theorem dX10_sum_5 : decode cX10_sum 5 = .ok (.aload_n 0, 1) := by decide +kernel
theorem dX10_sum_6 : decode cX10_sum 6 = .ok (.getfield 49, 3) := by decide +kernel
theorem dX10_sum_9 : decode cX10_sum 9 = .ok (.getfield 93, 3) := by decide +kernel
theorem dX10_sum_12 : decode cX10_sum 12 = .ok (.if_icmp .ge 27, 3) := by decide +kernel
theorem dX10_sum_15 : decode cX10_sum 15 = .ok (.iload_n 3, 1) := by decide +kernel
theorem dX10_sum_16 : decode cX10_sum 16 = .ok (.bipush 6, 2) := by decide +kernel
theorem dX10_sum_18 : decode cX10_sum 18 = .ok (.if_icmp .ge 21, 3) := by decide +kernel
theorem dX10_sum_21 : decode cX10_sum 21 = .ok (.iload_n 3, 1) := by decide +kernel
theorem dX10_sum_22 : decode cX10_sum 22 = .ok (.aload_n 1, 1) := by decide +kernel
theorem dX10_sum_23 : decode cX10_sum 23 = .ok (.arraylength, 1) := by decide +kernel
theorem dX10_sum_24 : decode cX10_sum 24 = .ok (.if_icmp .ge 15, 3) := by decide +kernel
theorem dX10_sum_27 : decode cX10_sum 27 = .ok (.iload_n 2, 1) := by decide +kernel
theorem dX10_sum_28 : decode cX10_sum 28 = .ok (.aload_n 1, 1) := by decide +kernel
theorem dX10_sum_29 : decode cX10_sum 29 = .ok (.iload_n 3, 1) := by decide +kernel
theorem dX10_sum_30 : decode cX10_sum 30 = .ok (.iaload, 1) := by decide +kernel
theorem dX10_sum_31 : decode cX10_sum 31 = .ok (.iadd, 1) := by decide +kernel
theorem dX10_sum_32 : decode cX10_sum 32 = .ok (.istore_n 2, 1) := by decide +kernel
theorem dX10_sum_33 : decode cX10_sum 33 = .ok (.iinc 3 1, 3) := by decide +kernel
theorem dX10_sum_36 : decode cX10_sum 36 = .ok (.goto (-32), 3) := by decide +kernel
theorem dX10_sum_39 : decode cX10_sum 39 = .ok (.iload_n 2, 1) := by decide +kernel
theorem dX10_sum_40 : decode cX10_sum 40 = .ok (.ireturn, 1) := by decide +kernel
theorem dX10_greatest_0 : decode cX10_greatest 0 = .ok (.iconst (-1), 1) := by decide +kernel
theorem dX10_greatest_1 : decode cX10_greatest 1 = .ok (.istore_n 2, 1) := by decide +kernel
theorem dX10_greatest_2 : decode cX10_greatest 2 = .ok (.iconst 0, 1) := by decide +kernel
theorem dX10_greatest_3 : decode cX10_greatest 3 = .ok (.istore_n 3, 1) := by decide +kernel
theorem dX10_greatest_4 : decode cX10_greatest 4 = .ok (.iload_n 3, 1) := by decide +kernel
theorem dX10_greatest_5 : decode cX10_greatest 5 = .ok (.aload_n 0, 1) := by decide +kernel
theorem dX10_greatest_6 : decode cX10_greatest 6 = .ok (.getfield 49, 3) := by decide +kernel
theorem dX10_greatest_9 : decode cX10_greatest 9 = .ok (.getfield 93, 3) := by decide +kernel
theorem dX10_greatest_12 : decode cX10_greatest 12 = .ok (.if_icmp .ge 37, 3) := by decide +kernel
theorem dX10_greatest_15 : decode cX10_greatest 15 = .ok (.iload_n 3, 1) := by decide +kernel
theorem dX10_greatest_16 : decode cX10_greatest 16 = .ok (.bipush 6, 2) := by decide +kernel
theorem dX10_greatest_18 : decode cX10_greatest 18 = .ok (.if_icmp .ge 31, 3) := by decide +kernel
theorem dX10_greatest_21 : decode cX10_greatest 21 = .ok (.iload_n 3, 1) := by decide +kernel
theorem dX10_greatest_22 : decode cX10_greatest 22 = .ok (.aload_n 1, 1) := by decide +kernel
theorem dX10_greatest_23 : decode cX10_greatest 23 = .ok (.arraylength, 1) := by decide +kernel
theorem dX10_greatest_24 : decode cX10_greatest 24 = .ok (.if_icmp .ge 25, 3) := by decide +kernel
theorem dX10_greatest_27 : decode cX10_greatest 27 = .ok (.iload_n 2, 1) := by decide +kernel
theorem dX10_greatest_28 : decode cX10_greatest 28 = .ok (.iconst (-1), 1) := by decide +kernel
theorem dX10_greatest_29 : decode cX10_greatest 29 = .ok (.if_icmp .eq 12, 3) := by decide +kernel
theorem dX10_greatest_32 : decode cX10_greatest 32 = .ok (.aload_n 1, 1) := by decide +kernel
theorem dX10_greatest_33 : decode cX10_greatest 33 = .ok (.iload_n 3, 1) := by decide +kernel
theorem dX10_greatest_34 : decode cX10_greatest 34 = .ok (.iaload, 1) := by decide +kernel
theorem dX10_greatest_35 : decode cX10_greatest 35 = .ok (.aload_n 1, 1) := by decide +kernel
theorem dX10_greatest_36 : decode cX10_greatest 36 = .ok (.iload_n 2, 1) := by decide +kernel
theorem dX10_greatest_37 : decode cX10_greatest 37 = .ok (.iaload, 1) := by decide +kernel
theorem dX10_greatest_38 : decode cX10_greatest 38 = .ok (.if_icmp .le 5, 3) := by decide +kernel
theorem dX10_greatest_41 : decode cX10_greatest 41 = .ok (.iload_n 3, 1) := by decide +kernel
theorem dX10_greatest_42 : decode cX10_greatest 42 = .ok (.istore_n 2, 1) := by decide +kernel
theorem dX10_greatest_43 : decode cX10_greatest 43 = .ok (.iinc 3 1, 3) := by decide +kernel
theorem dX10_greatest_46 : decode cX10_greatest 46 = .ok (.goto (-42), 3) := by decide +kernel
theorem dX10_greatest_49 : decode cX10_greatest 49 = .ok (.iload_n 2, 1) := by decide +kernel
theorem dX10_greatest_50 : decode cX10_greatest 50 = .ok (.ireturn, 1) := by decide +kernel
theorem dX10_taxOf_0 : decode cX10_taxOf 0 = .ok (.aload_n 0, 1) := by decide +kernel
theorem dX10_taxOf_1 : decode cX10_taxOf 1 = .ok (.getfield 49, 3) := by decide +kernel
theorem dX10_taxOf_4 : decode cX10_taxOf 4 = .ok (.iload_n 1, 1) := by decide +kernel
theorem dX10_taxOf_5 : decode cX10_taxOf 5 = .ok (.invokevirtual 126, 3) := by decide +kernel
theorem dX10_taxOf_8 : decode cX10_taxOf 8 = .ok (.ifCond .eq 19, 3) := by decide +kernel
theorem dX10_taxOf_11 : decode cX10_taxOf 11 = .ok (.aload_n 0, 1) := by decide +kernel
theorem dX10_taxOf_12 : decode cX10_taxOf 12 = .ok (.getfield 18, 3) := by decide +kernel
theorem dX10_taxOf_15 : decode cX10_taxOf 15 = .ok (.iload_n 1, 1) := by decide +kernel
