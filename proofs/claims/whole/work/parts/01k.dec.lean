theorem dX12_vote_0 : decode cX12_vote 0 = .ok (.aload_n 0, 1) := by decide +kernel
theorem dX12_vote_1 : decode cX12_vote 1 = .ok (.iconst 0, 1) := by decide +kernel
theorem dX12_vote_2 : decode cX12_vote 2 = .ok (.putfield 145, 3) := by decide +kernel
theorem dX12_vote_5 : decode cX12_vote 5 = .ok (.iload_n 1, 1) := by decide +kernel
theorem dX12_vote_6 : decode cX12_vote 6 = .ok (.iconst 1, 1) := by decide +kernel
theorem dX12_vote_7 : decode cX12_vote 7 = .ok (.bipush 40, 2) := by decide +kernel
theorem dX12_vote_9 : decode cX12_vote 9 = .ok (.invokestatic 190, 3) := by decide +kernel
theorem dX12_vote_12 : decode cX12_vote 12 = .ok (.ifCond .eq 22, 3) := by decide +kernel
theorem dX12_vote_15 : decode cX12_vote 15 = .ok (.iload_n 2, 1) := by decide +kernel
theorem dX12_vote_16 : decode cX12_vote 16 = .ok (.iconst 0, 1) := by decide +kernel
theorem dX12_vote_17 : decode cX12_vote 17 = .ok (.bipush 100, 2) := by decide +kernel
theorem dX12_vote_19 : decode cX12_vote 19 = .ok (.invokestatic 190, 3) := by decide +kernel
theorem dX12_vote_22 : decode cX12_vote 22 = .ok (.ifCond .eq 12, 3) := by decide +kernel
theorem dX12_vote_25 : decode cX12_vote 25 = .ok (.iload_n 3, 1) := by decide +kernel
theorem dX12_vote_26 : decode cX12_vote 26 = .ok (.iconst 0, 1) := by decide +kernel
theorem dX12_vote_27 : decode cX12_vote 27 = .ok (.iconst 1, 1) := by decide +kernel
theorem dX12_vote_28 : decode cX12_vote 28 = .ok (.invokestatic 190, 3) := by decide +kernel
theorem dX12_vote_31 : decode cX12_vote 31 = .ok (.ifCond .ne 5, 3) := by decide +kernel
theorem dX12_vote_34 : decode cX12_vote 34 = .ok (.iconst (-1), 1) := by decide +kernel
theorem dX12_vote_35 : decode cX12_vote 35 = .ok (.ireturn, 1) := by decide +kernel
theorem dX12_vote_36 : decode cX12_vote 36 = .ok (.aload_n 0, 1) := by decide +kernel
theorem dX12_vote_37 : decode cX12_vote 37 = .ok (.invokevirtual 474, 3) := by decide +kernel
theorem dX12_vote_40 : decode cX12_vote 40 = .ok (.aload_n 0, 1) := by decide +kernel
theorem dX12_vote_41 : decode cX12_vote 41 = .ok (.iload_n 1, 1) := by decide +kernel
theorem dX12_vote_42 : decode cX12_vote 42 = .ok (.invokevirtual 477, 3) := by decide +kernel
theorem dX12_vote_45 : decode cX12_vote 45 = .ok (.iconst 0, 1) := by decide +kernel
theorem dX12_vote_46 : decode cX12_vote 46 = .ok (.istore 4, 2) := by decide +kernel
theorem dX12_vote_48 : decode cX12_vote 48 = .ok (.iload 4, 2) := by decide +kernel
theorem dX12_vote_50 : decode cX12_vote 50 = .ok (.aload_n 0, 1) := by decide +kernel
theorem dX12_vote_51 : decode cX12_vote 51 = .ok (.getfield 222, 3) := by decide +kernel
theorem dX12_vote_54 : decode cX12_vote 54 = .ok (.if_icmp .ge 22, 3) := by decide +kernel
theorem dX12_vote_57 : decode cX12_vote 57 = .ok (.aload_n 0, 1) := by decide +kernel
theorem dX12_vote_58 : decode cX12_vote 58 = .ok (.getfield 118, 3) := by decide +kernel
theorem dX12_vote_61 : decode cX12_vote 61 = .ok (.iload 4, 2) := by decide +kernel
theorem dX12_vote_63 : decode cX12_vote 63 = .ok (.aload_n 0, 1) := by decide +kernel
theorem dX12_vote_64 : decode cX12_vote 64 = .ok (.iload 4, 2) := by decide +kernel
theorem dX12_vote_66 : decode cX12_vote 66 = .ok (.invokevirtual 489, 3) := by decide +kernel
theorem dX12_vote_69 : decode cX12_vote 69 = .ok (.iastore, 1) := by decide +kernel
theorem dX12_vote_70 : decode cX12_vote 70 = .ok (.iinc 4 1, 3) := by decide +kernel
theorem dX12_vote_73 : decode cX12_vote 73 = .ok (.goto (-25), 3) := by decide +kernel
theorem dX12_vote_76 : decode cX12_vote 76 = .ok (.aload_n 0, 1) := by decide +kernel
theorem dX12_vote_77 : decode cX12_vote 77 = .ok (.invokevirtual 474, 3) := by decide +kernel
theorem dX12_vote_80 : decode cX12_vote 80 = .ok (.aload_n 0, 1) := by decide +kernel
theorem dX12_vote_81 : decode cX12_vote 81 = .ok (.getfield 112, 3) := by decide +kernel
theorem dX12_vote_84 : decode cX12_vote 84 = .ok (.iconst 1, 1) := by decide +kernel
theorem dX12_vote_85 : decode cX12_vote 85 = .ok (.iload_n 2, 1) := by decide +kernel
theorem dX12_vote_86 : decode cX12_vote 86 = .ok (.iastore, 1) := by decide +kernel
theorem dX12_vote_87 : decode cX12_vote 87 = .ok (.aload_n 0, 1) := by decide +kernel
theorem dX12_vote_88 : decode cX12_vote 88 = .ok (.iload_n 1, 1) := by decide +kernel
theorem dX12_vote_89 : decode cX12_vote 89 = .ok (.invokevirtual 477, 3) := by decide +kernel
theorem dX12_vote_92 : decode cX12_vote 92 = .ok (.iconst 0, 1) := by decide +kernel
theorem dX12_vote_93 : decode cX12_vote 93 = .ok (.istore 4, 2) := by decide +kernel
theorem dX12_vote_95 : decode cX12_vote 95 = .ok (.iconst 0, 1) := by decide +kernel
theorem dX12_vote_96 : decode cX12_vote 96 = .ok (.istore 5, 2) := by decide +kernel
theorem dX12_vote_98 : decode cX12_vote 98 = .ok (.iload 5, 2) := by decide +kernel
theorem dX12_vote_100 : decode cX12_vote 100 = .ok (.aload_n 0, 1) := by decide +kernel
theorem dX12_vote_101 : decode cX12_vote 101 = .ok (.getfield 222, 3) := by decide +kernel
theorem dX12_vote_104 : decode cX12_vote 104 = .ok (.if_icmp .ge 63, 3) := by decide +kernel
theorem dX12_vote_107 : decode cX12_vote 107 = .ok (.iload 4, 2) := by decide +kernel
theorem dX12_vote_109 : decode cX12_vote 109 = .ok (.iload_n 3, 1) := by decide +kernel
theorem dX12_vote_110 : decode cX12_vote 110 = .ok (.ifCond .ne 27, 3) := by decide +kernel
theorem dX12_vote_113 : decode cX12_vote 113 = .ok (.aload_n 0, 1) := by decide +kernel
theorem dX12_vote_114 : decode cX12_vote 114 = .ok (.iload 5, 2) := by decide +kernel
theorem dX12_vote_116 : decode cX12_vote 116 = .ok (.invokevirtual 489, 3) := by decide +kernel
theorem dX12_vote_119 : decode cX12_vote 119 = .ok (.aload_n 0, 1) := by decide +kernel
theorem dX12_vote_120 : decode cX12_vote 120 = .ok (.getfield 118, 3) := by decide +kernel
theorem dX12_vote_123 : decode cX12_vote 123 = .ok (.iload 5, 2) := by decide +kernel
theorem dX12_vote_125 : decode cX12_vote 125 = .ok (.iaload, 1) := by decide +kernel
theorem dX12_vote_126 : decode cX12_vote 126 = .ok (.if_icmp .ge 7, 3) := by decide +kernel
theorem dX12_vote_129 : decode cX12_vote 129 = .ok (.iconst 1, 1) := by decide +kernel
theorem dX12_vote_130 : decode cX12_vote 130 = .ok (.goto 28, 3) := by decide +kernel
theorem dX12_vote_133 : decode cX12_vote 133 = .ok (.iconst 0, 1) := by decide +kernel
theorem dX12_vote_134 : decode cX12_vote 134 = .ok (.goto 24, 3) := by decide +kernel
theorem dX12_vote_137 : decode cX12_vote 137 = .ok (.aload_n 0, 1) := by decide +kernel
theorem dX12_vote_138 : decode cX12_vote 138 = .ok (.iload 5, 2) := by decide +kernel
theorem dX12_vote_140 : decode cX12_vote 140 = .ok (.invokevirtual 489, 3) := by decide +kernel
theorem dX12_vote_143 : decode cX12_vote 143 = .ok (.aload_n 0, 1) := by decide +kernel
theorem dX12_vote_144 : decode cX12_vote 144 = .ok (.getfield 118, 3) := by decide +kernel
theorem dX12_vote_147 : decode cX12_vote 147 = .ok (.iload 5, 2) := by decide +kernel
theorem dX12_vote_149 : decode cX12_vote 149 = .ok (.iaload, 1) := by decide +kernel
theorem dX12_vote_150 : decode cX12_vote 150 = .ok (.if_icmp .le 7, 3) := by decide +kernel
theorem dX12_vote_153 : decode cX12_vote 153 = .ok (.iconst 1, 1) := by decide +kernel
theorem dX12_vote_154 : decode cX12_vote 154 = .ok (.goto 4, 3) := by decide +kernel
theorem dX12_vote_157 : decode cX12_vote 157 = .ok (.iconst 0, 1) := by decide +kernel
theorem dX12_vote_158 : decode cX12_vote 158 = .ok (.iadd, 1) := by decide +kernel
theorem dX12_vote_159 : decode cX12_vote 159 = .ok (.istore 4, 2) := by decide +kernel
theorem dX12_vote_161 : decode cX12_vote 161 = .ok (.iinc 5 1, 3) := by decide +kernel
theorem dX12_vote_164 : decode cX12_vote 164 = .ok (.goto (-66), 3) := by decide +kernel
theorem dX12_vote_167 : decode cX12_vote 167 = .ok (.iload 4, 2) := by decide +kernel
theorem dX12_vote_169 : decode cX12_vote 169 = .ok (.ireturn, 1) := by decide +kernel
theorem dX12_first_0 : decode cX12_first 0 = .ok (.aload_n 0, 1) := by decide +kernel
theorem dX12_first_1 : decode cX12_first 1 = .ok (.iconst 0, 1) := by decide +kernel
theorem dX12_first_2 : decode cX12_first 2 = .ok (.putfield 145, 3) := by decide +kernel
theorem dX12_first_5 : decode cX12_first 5 = .ok (.aload_n 0, 1) := by decide +kernel
theorem dX12_first_6 : decode cX12_first 6 = .ok (.getfield 222, 3) := by decide +kernel
theorem dX12_first_9 : decode cX12_first 9 = .ok (.ifCond .ne 5, 3) := by decide +kernel
theorem dX12_first_12 : decode cX12_first 12 = .ok (.iconst (-1), 1) := by decide +kernel
theorem dX12_first_13 : decode cX12_first 13 = .ok (.ireturn, 1) := by decide +kernel
theorem dX12_first_14 : decode cX12_first 14 = .ok (.bipush (-2), 2) := by decide +kernel
theorem dX12_first_16 : decode cX12_first 16 = .ok (.istore_n 1, 1) := by decide +kernel
theorem dX12_first_17 : decode cX12_first 17 = .ok (.iconst 0, 1) := by decide +kernel
theorem dX12_first_18 : decode cX12_first 18 = .ok (.istore_n 2, 1) := by decide +kernel
theorem dX12_first_19 : decode cX12_first 19 = .ok (.iconst 0, 1) := by decide +kernel
theorem dX12_first_20 : decode cX12_first 20 = .ok (.istore_n 3, 1) := by decide +kernel
theorem dX12_first_21 : decode cX12_first 21 = .ok (.iload_n 3, 1) := by decide +kernel
theorem dX12_first_22 : decode cX12_first 22 = .ok (.aload_n 0, 1) := by decide +kernel
theorem dX12_first_23 : decode cX12_first 23 = .ok (.getfield 222, 3) := by decide +kernel
theorem dX12_first_26 : decode cX12_first 26 = .ok (.if_icmp .ge 82, 3) := by decide +kernel
theorem dX12_first_29 : decode cX12_first 29 = .ok (.iconst 0, 1) := by decide +kernel
theorem dX12_first_30 : decode cX12_first 30 = .ok (.istore 4, 2) := by decide +kernel
theorem dX12_first_32 : decode cX12_first 32 = .ok (.iconst 0, 1) := by decide +kernel
theorem dX12_first_33 : decode cX12_first 33 = .ok (.istore 5, 2) := by decide +kernel
theorem dX12_first_35 : decode cX12_first 35 = .ok (.iload 5, 2) := by decide +kernel
theorem dX12_first_37 : decode cX12_first 37 = .ok (.aload_n 0, 1) := by decide +kernel
theorem dX12_first_38 : decode cX12_first 38 = .ok (.getfield 225, 3) := by decide +kernel
theorem dX12_first_41 : decode cX12_first 41 = .ok (.if_icmp .ge 47, 3) := by decide +kernel
theorem dX12_first_44 : decode cX12_first 44 = .ok (.iload 4, 2) := by decide +kernel
theorem dX12_first_46 : decode cX12_first 46 = .ok (.aload_n 0, 1) := by decide +kernel
theorem dX12_first_47 : decode cX12_first 47 = .ok (.getfield 88, 3) := by decide +kernel
theorem dX12_first_50 : decode cX12_first 50 = .ok (.iload 5, 2) := by decide +kernel
theorem dX12_first_52 : decode cX12_first 52 = .ok (.iaload, 1) := by decide +kernel
theorem dX12_first_53 : decode cX12_first 53 = .ok (.iconst 1, 1) := by decide +kernel
theorem dX12_first_54 : decode cX12_first 54 = .ok (.if_icmp .ne 24, 3) := by decide +kernel
theorem dX12_first_57 : decode cX12_first 57 = .ok (.aload_n 0, 1) := by decide +kernel
theorem dX12_first_58 : decode cX12_first 58 = .ok (.getfield 91, 3) := by decide +kernel
theorem dX12_first_61 : decode cX12_first 61 = .ok (.iload 5, 2) := by decide +kernel
theorem dX12_first_63 : decode cX12_first 63 = .ok (.iaload, 1) := by decide +kernel
theorem dX12_first_64 : decode cX12_first 64 = .ok (.iload_n 3, 1) := by decide +kernel
theorem dX12_first_65 : decode cX12_first 65 = .ok (.if_icmp .ne 13, 3) := by decide +kernel
theorem dX12_first_68 : decode cX12_first 68 = .ok (.aload_n 0, 1) := by decide +kernel
theorem dX12_first_69 : decode cX12_first 69 = .ok (.getfield 39, 3) := by decide +kernel
theorem dX12_first_72 : decode cX12_first 72 = .ok (.iload 5, 2) := by decide +kernel
theorem dX12_first_74 : decode cX12_first 74 = .ok (.iaload, 1) := by decide +kernel
theorem dX12_first_75 : decode cX12_first 75 = .ok (.goto 4, 3) := by decide +kernel
theorem dX12_first_78 : decode cX12_first 78 = .ok (.iconst 0, 1) := by decide +kernel
theorem dX12_first_79 : decode cX12_first 79 = .ok (.iadd, 1) := by decide +kernel
theorem dX12_first_80 : decode cX12_first 80 = .ok (.istore 4, 2) := by decide +kernel
theorem dX12_first_82 : decode cX12_first 82 = .ok (.iinc 5 1, 3) := by decide +kernel
theorem dX12_first_85 : decode cX12_first 85 = .ok (.goto (-50), 3) := by decide +kernel
theorem dX12_first_88 : decode cX12_first 88 = .ok (.iload 4, 2) := by decide +kernel
theorem dX12_first_90 : decode cX12_first 90 = .ok (.iload_n 2, 1) := by decide +kernel
theorem dX12_first_91 : decode cX12_first 91 = .ok (.if_icmp .gt 6, 3) := by decide +kernel
theorem dX12_first_94 : decode cX12_first 94 = .ok (.goto 8, 3) := by decide +kernel
theorem dX12_first_97 : decode cX12_first 97 = .ok (.iload_n 3, 1) := by decide +kernel
theorem dX12_first_98 : decode cX12_first 98 = .ok (.istore_n 1, 1) := by decide +kernel
theorem dX12_first_99 : decode cX12_first 99 = .ok (.iload 4, 2) := by decide +kernel
theorem dX12_first_101 : decode cX12_first 101 = .ok (.istore_n 2, 1) := by decide +kernel
theorem dX12_first_102 : decode cX12_first 102 = .ok (.iinc 3 1, 3) := by decide +kernel
theorem dX12_first_105 : decode cX12_first 105 = .ok (.goto (-84), 3) := by decide +kernel
theorem dX12_first_108 : decode cX12_first 108 = .ok (.iload_n 1, 1) := by decide +kernel
theorem dX12_first_109 : decode cX12_first 109 = .ok (.ireturn, 1) := by decide +kernel
theorem dX12_farthing_0 : decode cX12_farthing 0 = .ok (.aload_n 0, 1) := by decide +kernel
theorem dX12_farthing_1 : decode cX12_farthing 1 = .ok (.iconst 0, 1) := by decide +kernel
theorem dX12_farthing_2 : decode cX12_farthing 2 = .ok (.putfield 145, 3) := by decide +kernel
theorem dX12_farthing_5 : decode cX12_farthing 5 = .ok (.iload_n 1, 1) := by decide +kernel
theorem dX12_farthing_6 : decode cX12_farthing 6 = .ok (.iconst 1, 1) := by decide +kernel
theorem dX12_farthing_7 : decode cX12_farthing 7 = .ok (.bipush 99, 2) := by decide +kernel
theorem dX12_farthing_9 : decode cX12_farthing 9 = .ok (.invokestatic 190, 3) := by decide +kernel
theorem dX12_farthing_12 : decode cX12_farthing 12 = .ok (.ifCond .ne 5, 3) := by decide +kernel
theorem dX12_farthing_15 : decode cX12_farthing 15 = .ok (.iconst (-1), 1) := by decide +kernel
theorem dX12_farthing_16 : decode cX12_farthing 16 = .ok (.ireturn, 1) := by decide +kernel
theorem dX12_farthing_17 : decode cX12_farthing 17 = .ok (.iconst 1, 1) := by decide +kernel
theorem dX12_farthing_18 : decode cX12_farthing 18 = .ok (.istore_n 2, 1) := by decide +kernel
theorem dX12_farthing_19 : decode cX12_farthing 19 = .ok (.iload_n 1, 1) := by decide +kernel
theorem dX12_farthing_20 : decode cX12_farthing 20 = .ok (.iload_n 2, 1) := by decide +kernel
theorem dX12_farthing_21 : decode cX12_farthing 21 = .ok (.imul, 1) := by decide +kernel
theorem dX12_farthing_22 : decode cX12_farthing 22 = .ok (.bipush 100, 2) := by decide +kernel
theorem dX12_farthing_24 : decode cX12_farthing 24 = .ok (.if_icmp .ge 9, 3) := by decide +kernel
theorem dX12_farthing_27 : decode cX12_farthing 27 = .ok (.iinc 2 1, 3) := by decide +kernel
theorem dX12_farthing_30 : decode cX12_farthing 30 = .ok (.goto (-11), 3) := by decide +kernel
theorem dX12_farthing_33 : decode cX12_farthing 33 = .ok (.iload_n 2, 1) := by decide +kernel
theorem dX12_farthing_34 : decode cX12_farthing 34 = .ok (.ireturn, 1) := by decide +kernel
theorem dX12_whose_0 : decode cX12_whose 0 = .ok (.aload_n 0, 1) := by decide +kernel
theorem dX12_whose_1 : decode cX12_whose 1 = .ok (.iconst 0, 1) := by decide +kernel
theorem dX12_whose_2 : decode cX12_whose 2 = .ok (.putfield 145, 3) := by decide +kernel
theorem dX12_whose_5 : decode cX12_whose 5 = .ok (.iload_n 1, 1) := by decide +kernel
theorem dX12_whose_6 : decode cX12_whose 6 = .ok (.iconst 1, 1) := by decide +kernel
theorem dX12_whose_7 : decode cX12_whose 7 = .ok (.bipush 99, 2) := by decide +kernel
theorem dX12_whose_9 : decode cX12_whose 9 = .ok (.invokestatic 190, 3) := by decide +kernel
theorem dX12_whose_12 : decode cX12_whose 12 = .ok (.ifCond .eq 12, 3) := by decide +kernel
theorem dX12_whose_15 : decode cX12_whose 15 = .ok (.iload_n 2, 1) := by decide +kernel
theorem dX12_whose_16 : decode cX12_whose 16 = .ok (.iconst 0, 1) := by decide +kernel
theorem dX12_whose_17 : decode cX12_whose 17 = .ok (.iconst 3, 1) := by decide +kernel
theorem dX12_whose_18 : decode cX12_whose 18 = .ok (.invokestatic 190, 3) := by decide +kernel
theorem dX12_whose_21 : decode cX12_whose 21 = .ok (.ifCond .ne 5, 3) := by decide +kernel
theorem dX12_whose_24 : decode cX12_whose 24 = .ok (.iconst (-1), 1) := by decide +kernel
theorem dX12_whose_25 : decode cX12_whose 25 = .ok (.ireturn, 1) := by decide +kernel
theorem dX12_whose_26 : decode cX12_whose 26 = .ok (.iconst 0, 1) := by decide +kernel
theorem dX12_whose_27 : decode cX12_whose 27 = .ok (.istore_n 3, 1) := by decide +kernel
theorem dX12_whose_28 : decode cX12_whose 28 = .ok (.iconst 0, 1) := by decide +kernel
theorem dX12_whose_29 : decode cX12_whose 29 = .ok (.istore 4, 2) := by decide +kernel
theorem dX12_whose_31 : decode cX12_whose 31 = .ok (.iload 4, 2) := by decide +kernel
theorem dX12_whose_33 : decode cX12_whose 33 = .ok (.aload_n 0, 1) := by decide +kernel
theorem dX12_whose_34 : decode cX12_whose 34 = .ok (.getfield 225, 3) := by decide +kernel
theorem dX12_whose_37 : decode cX12_whose 37 = .ok (.if_icmp .ge 58, 3) := by decide +kernel
theorem dX12_whose_40 : decode cX12_whose 40 = .ok (.iload_n 3, 1) := by decide +kernel
theorem dX12_whose_41 : decode cX12_whose 41 = .ok (.aload_n 0, 1) := by decide +kernel
theorem dX12_whose_42 : decode cX12_whose 42 = .ok (.getfield 88, 3) := by decide +kernel
theorem dX12_whose_45 : decode cX12_whose 45 = .ok (.iload 4, 2) := by decide +kernel
theorem dX12_whose_47 : decode cX12_whose 47 = .ok (.iaload, 1) := by decide +kernel
theorem dX12_whose_48 : decode cX12_whose 48 = .ok (.iconst 1, 1) := by decide +kernel
theorem dX12_whose_49 : decode cX12_whose 49 = .ok (.if_icmp .ne 37, 3) := by decide +kernel
theorem dX12_whose_52 : decode cX12_whose 52 = .ok (.aload_n 0, 1) := by decide +kernel
theorem dX12_whose_53 : decode cX12_whose 53 = .ok (.getfield 39, 3) := by decide +kernel
theorem dX12_whose_56 : decode cX12_whose 56 = .ok (.iload 4, 2) := by decide +kernel
theorem dX12_whose_58 : decode cX12_whose 58 = .ok (.iaload, 1) := by decide +kernel
theorem dX12_whose_59 : decode cX12_whose 59 = .ok (.iload_n 1, 1) := by decide +kernel
theorem dX12_whose_60 : decode cX12_whose 60 = .ok (.if_icmp .ne 26, 3) := by decide +kernel
theorem dX12_whose_63 : decode cX12_whose 63 = .ok (.aload_n 0, 1) := by decide +kernel
theorem dX12_whose_64 : decode cX12_whose 64 = .ok (.getfield 45, 3) := by decide +kernel
theorem dX12_whose_67 : decode cX12_whose 67 = .ok (.iload 4, 2) := by decide +kernel
theorem dX12_whose_69 : decode cX12_whose 69 = .ok (.iaload, 1) := by decide +kernel
theorem dX12_whose_70 : decode cX12_whose 70 = .ok (.iload_n 2, 1) := by decide +kernel
theorem dX12_whose_71 : decode cX12_whose 71 = .ok (.if_icmp .ne 15, 3) := by decide +kernel
theorem dX12_whose_74 : decode cX12_whose 74 = .ok (.iconst 1, 1) := by decide +kernel
theorem dX12_whose_75 : decode cX12_whose 75 = .ok (.aload_n 0, 1) := by decide +kernel
theorem dX12_whose_76 : decode cX12_whose 76 = .ok (.getfield 91, 3) := by decide +kernel
theorem dX12_whose_79 : decode cX12_whose 79 = .ok (.iload 4, 2) := by decide +kernel
theorem dX12_whose_81 : decode cX12_whose 81 = .ok (.iaload, 1) := by decide +kernel
theorem dX12_whose_82 : decode cX12_whose 82 = .ok (.ishl, 1) := by decide +kernel
theorem dX12_whose_83 : decode cX12_whose 83 = .ok (.goto 4, 3) := by decide +kernel
theorem dX12_whose_86 : decode cX12_whose 86 = .ok (.iconst 0, 1) := by decide +kernel
theorem dX12_whose_87 : decode cX12_whose 87 = .ok (.ior, 1) := by decide +kernel
theorem dX12_whose_88 : decode cX12_whose 88 = .ok (.istore_n 3, 1) := by decide +kernel
theorem dX12_whose_89 : decode cX12_whose 89 = .ok (.iinc 4 1, 3) := by decide +kernel
theorem dX12_whose_92 : decode cX12_whose 92 = .ok (.goto (-61), 3) := by decide +kernel
theorem dX12_whose_95 : decode cX12_whose 95 = .ok (.iload_n 3, 1) := by decide +kernel
theorem dX12_whose_96 : decode cX12_whose 96 = .ok (.ireturn, 1) := by decide +kernel
theorem dX12_holds_0 : decode cX12_holds 0 = .ok (.aload_n 0, 1) := by decide +kernel
theorem dX12_holds_1 : decode cX12_holds 1 = .ok (.iconst 0, 1) := by decide +kernel
theorem dX12_holds_2 : decode cX12_holds 2 = .ok (.putfield 145, 3) := by decide +kernel
theorem dX12_holds_5 : decode cX12_holds 5 = .ok (.aload_n 0, 1) := by decide +kernel
theorem dX12_holds_6 : decode cX12_holds 6 = .ok (.iload_n 1, 1) := by decide +kernel
theorem dX12_holds_7 : decode cX12_holds 7 = .ok (.invokevirtual 460, 3) := by decide +kernel
theorem dX12_holds_10 : decode cX12_holds 10 = .ok (.ifCond .ne 5, 3) := by decide +kernel
theorem dX12_holds_13 : decode cX12_holds 13 = .ok (.iconst (-1), 1) := by decide +kernel
theorem dX12_holds_14 : decode cX12_holds 14 = .ok (.ireturn, 1) := by decide +kernel
theorem dX12_holds_15 : decode cX12_holds 15 = .ok (.iconst 0, 1) := by decide +kernel
theorem dX12_holds_16 : decode cX12_holds 16 = .ok (.istore_n 2, 1) := by decide +kernel
theorem dX12_holds_17 : decode cX12_holds 17 = .ok (.iconst 0, 1) := by decide +kernel
theorem dX12_holds_18 : decode cX12_holds 18 = .ok (.istore_n 3, 1) := by decide +kernel
theorem dX12_holds_19 : decode cX12_holds 19 = .ok (.iload_n 3, 1) := by decide +kernel
theorem dX12_holds_20 : decode cX12_holds 20 = .ok (.aload_n 0, 1) := by decide +kernel
theorem dX12_holds_21 : decode cX12_holds 21 = .ok (.getfield 225, 3) := by decide +kernel
theorem dX12_holds_24 : decode cX12_holds 24 = .ok (.if_icmp .ge 39, 3) := by decide +kernel
theorem dX12_holds_27 : decode cX12_holds 27 = .ok (.iload_n 2, 1) := by decide +kernel
theorem dX12_holds_28 : decode cX12_holds 28 = .ok (.aload_n 0, 1) := by decide +kernel
theorem dX12_holds_29 : decode cX12_holds 29 = .ok (.getfield 88, 3) := by decide +kernel
theorem dX12_holds_32 : decode cX12_holds 32 = .ok (.iload_n 3, 1) := by decide +kernel
theorem dX12_holds_33 : decode cX12_holds 33 = .ok (.iaload, 1) := by decide +kernel
theorem dX12_holds_34 : decode cX12_holds 34 = .ok (.iconst 1, 1) := by decide +kernel
theorem dX12_holds_35 : decode cX12_holds 35 = .ok (.if_icmp .ne 19, 3) := by decide +kernel
theorem dX12_holds_38 : decode cX12_holds 38 = .ok (.aload_n 0, 1) := by decide +kernel
theorem dX12_holds_39 : decode cX12_holds 39 = .ok (.getfield 91, 3) := by decide +kernel
theorem dX12_holds_42 : decode cX12_holds 42 = .ok (.iload_n 3, 1) := by decide +kernel
theorem dX12_holds_43 : decode cX12_holds 43 = .ok (.iaload, 1) := by decide +kernel
theorem dX12_holds_44 : decode cX12_holds 44 = .ok (.iload_n 1, 1) := by decide +kernel
theorem dX12_holds_45 : decode cX12_holds 45 = .ok (.if_icmp .ne 9, 3) := by decide +kernel
theorem dX12_holds_48 : decode cX12_holds 48 = .ok (.iconst 1, 1) := by decide +kernel
theorem dX12_holds_49 : decode cX12_holds 49 = .ok (.iload_n 3, 1) := by decide +kernel
theorem dX12_holds_50 : decode cX12_holds 50 = .ok (.ishl, 1) := by decide +kernel
theorem dX12_holds_51 : decode cX12_holds 51 = .ok (.goto 4, 3) := by decide +kernel
theorem dX12_holds_54 : decode cX12_holds 54 = .ok (.iconst 0, 1) := by decide +kernel
theorem dX12_holds_55 : decode cX12_holds 55 = .ok (.ior, 1) := by decide +kernel
theorem dX12_holds_56 : decode cX12_holds 56 = .ok (.istore_n 2, 1) := by decide +kernel
theorem dX12_holds_57 : decode cX12_holds 57 = .ok (.iinc 3 1, 3) := by decide +kernel
theorem dX12_holds_60 : decode cX12_holds 60 = .ok (.goto (-41), 3) := by decide +kernel
theorem dX12_holds_63 : decode cX12_holds 63 = .ok (.iload_n 2, 1) := by decide +kernel
theorem dX12_holds_64 : decode cX12_holds 64 = .ok (.ireturn, 1) := by decide +kernel
theorem dX12_hidden_0 : decode cX12_hidden 0 = .ok (.aload_n 0, 1) := by decide +kernel
theorem dX12_hidden_1 : decode cX12_hidden 1 = .ok (.iconst 0, 1) := by decide +kernel
theorem dX12_hidden_2 : decode cX12_hidden 2 = .ok (.putfield 145, 3) := by decide +kernel
theorem dX12_hidden_5 : decode cX12_hidden 5 = .ok (.iconst 0, 1) := by decide +kernel
theorem dX12_hidden_6 : decode cX12_hidden 6 = .ok (.istore_n 1, 1) := by decide +kernel
theorem dX12_hidden_7 : decode cX12_hidden 7 = .ok (.iconst 0, 1) := by decide +kernel
theorem dX12_hidden_8 : decode cX12_hidden 8 = .ok (.istore_n 2, 1) := by decide +kernel
theorem dX12_hidden_9 : decode cX12_hidden 9 = .ok (.iload_n 2, 1) := by decide +kernel
theorem dX12_hidden_10 : decode cX12_hidden 10 = .ok (.aload_n 0, 1) := by decide +kernel
theorem dX12_hidden_11 : decode cX12_hidden 11 = .ok (.getfield 225, 3) := by decide +kernel
theorem dX12_hidden_14 : decode cX12_hidden 14 = .ok (.if_icmp .ge 44, 3) := by decide +kernel
theorem dX12_hidden_17 : decode cX12_hidden 17 = .ok (.iload_n 1, 1) := by decide +kernel
theorem dX12_hidden_18 : decode cX12_hidden 18 = .ok (.aload_n 0, 1) := by decide +kernel
theorem dX12_hidden_19 : decode cX12_hidden 19 = .ok (.getfield 88, 3) := by decide +kernel
theorem dX12_hidden_22 : decode cX12_hidden 22 = .ok (.iload_n 2, 1) := by decide +kernel
theorem dX12_hidden_23 : decode cX12_hidden 23 = .ok (.iaload, 1) := by decide +kernel
theorem dX12_hidden_24 : decode cX12_hidden 24 = .ok (.iconst 1, 1) := by decide +kernel
theorem dX12_hidden_25 : decode cX12_hidden 25 = .ok (.if_icmp .ne 24, 3) := by decide +kernel
theorem dX12_hidden_28 : decode cX12_hidden 28 = .ok (.aload_n 0, 1) := by decide +kernel
theorem dX12_hidden_29 : decode cX12_hidden 29 = .ok (.getfield 91, 3) := by decide +kernel
theorem dX12_hidden_32 : decode cX12_hidden 32 = .ok (.iload_n 2, 1) := by decide +kernel
theorem dX12_hidden_33 : decode cX12_hidden 33 = .ok (.iaload, 1) := by decide +kernel
theorem dX12_hidden_34 : decode cX12_hidden 34 = .ok (.aload_n 0, 1) := by decide +kernel
theorem dX12_hidden_35 : decode cX12_hidden 35 = .ok (.getfield 36, 3) := by decide +kernel
theorem dX12_hidden_38 : decode cX12_hidden 38 = .ok (.iload_n 2, 1) := by decide +kernel
theorem dX12_hidden_39 : decode cX12_hidden 39 = .ok (.iaload, 1) := by decide +kernel
theorem dX12_hidden_40 : decode cX12_hidden 40 = .ok (.if_icmp .eq 9, 3) := by decide +kernel
theorem dX12_hidden_43 : decode cX12_hidden 43 = .ok (.iconst 1, 1) := by decide +kernel
theorem dX12_hidden_44 : decode cX12_hidden 44 = .ok (.iload_n 2, 1) := by decide +kernel
theorem dX12_hidden_45 : decode cX12_hidden 45 = .ok (.ishl, 1) := by decide +kernel
theorem dX12_hidden_46 : decode cX12_hidden 46 = .ok (.goto 4, 3) := by decide +kernel
theorem dX12_hidden_49 : decode cX12_hidden 49 = .ok (.iconst 0, 1) := by decide +kernel
theorem dX12_hidden_50 : decode cX12_hidden 50 = .ok (.ior, 1) := by decide +kernel
theorem dX12_hidden_51 : decode cX12_hidden 51 = .ok (.istore_n 1, 1) := by decide +kernel
theorem dX12_hidden_52 : decode cX12_hidden 52 = .ok (.iinc 2 1, 3) := by decide +kernel
theorem dX12_hidden_55 : decode cX12_hidden 55 = .ok (.goto (-46), 3) := by decide +kernel
theorem dX12_hidden_58 : decode cX12_hidden 58 = .ok (.iload_n 1, 1) := by decide +kernel
theorem dX12_hidden_59 : decode cX12_hidden 59 = .ok (.ireturn, 1) := by decide +kernel
theorem dX12_debtor_0 : decode cX12_debtor 0 = .ok (.aload_n 0, 1) := by decide +kernel
theorem dX12_debtor_1 : decode cX12_debtor 1 = .ok (.iconst 0, 1) := by decide +kernel
theorem dX12_debtor_2 : decode cX12_debtor 2 = .ok (.putfield 145, 3) := by decide +kernel
theorem dX12_debtor_5 : decode cX12_debtor 5 = .ok (.bipush (-2), 2) := by decide +kernel
theorem dX12_debtor_7 : decode cX12_debtor 7 = .ok (.istore_n 1, 1) := by decide +kernel
theorem dX12_debtor_8 : decode cX12_debtor 8 = .ok (.iconst 0, 1) := by decide +kernel
theorem dX12_debtor_9 : decode cX12_debtor 9 = .ok (.istore_n 2, 1) := by decide +kernel
theorem dX12_debtor_10 : decode cX12_debtor 10 = .ok (.iload_n 2, 1) := by decide +kernel
theorem dX12_debtor_11 : decode cX12_debtor 11 = .ok (.aload_n 0, 1) := by decide +kernel
theorem dX12_debtor_12 : decode cX12_debtor 12 = .ok (.getfield 222, 3) := by decide +kernel
theorem dX12_debtor_15 : decode cX12_debtor 15 = .ok (.if_icmp .ge 43, 3) := by decide +kernel
theorem dX12_debtor_18 : decode cX12_debtor 18 = .ok (.aload_n 0, 1) := by decide +kernel
theorem dX12_debtor_19 : decode cX12_debtor 19 = .ok (.getfield 103, 3) := by decide +kernel
theorem dX12_debtor_22 : decode cX12_debtor 22 = .ok (.iload_n 2, 1) := by decide +kernel
theorem dX12_debtor_23 : decode cX12_debtor 23 = .ok (.iaload, 1) := by decide +kernel
theorem dX12_debtor_24 : decode cX12_debtor 24 = .ok (.ifCond .le 26, 3) := by decide +kernel
theorem dX12_debtor_27 : decode cX12_debtor 27 = .ok (.iload_n 1, 1) := by decide +kernel
theorem dX12_debtor_28 : decode cX12_debtor 28 = .ok (.ifCond .lt 18, 3) := by decide +kernel
theorem dX12_debtor_31 : decode cX12_debtor 31 = .ok (.aload_n 0, 1) := by decide +kernel
theorem dX12_debtor_32 : decode cX12_debtor 32 = .ok (.getfield 103, 3) := by decide +kernel
theorem dX12_debtor_35 : decode cX12_debtor 35 = .ok (.iload_n 2, 1) := by decide +kernel
theorem dX12_debtor_36 : decode cX12_debtor 36 = .ok (.iaload, 1) := by decide +kernel
theorem dX12_debtor_37 : decode cX12_debtor 37 = .ok (.aload_n 0, 1) := by decide +kernel
theorem dX12_debtor_38 : decode cX12_debtor 38 = .ok (.getfield 103, 3) := by decide +kernel
theorem dX12_debtor_41 : decode cX12_debtor 41 = .ok (.iload_n 1, 1) := by decide +kernel
theorem dX12_debtor_42 : decode cX12_debtor 42 = .ok (.iaload, 1) := by decide +kernel
theorem dX12_debtor_43 : decode cX12_debtor 43 = .ok (.if_icmp .le 7, 3) := by decide +kernel
theorem dX12_debtor_46 : decode cX12_debtor 46 = .ok (.iload_n 2, 1) := by decide +kernel
theorem dX12_debtor_47 : decode cX12_debtor 47 = .ok (.goto 4, 3) := by decide +kernel
theorem dX12_debtor_50 : decode cX12_debtor 50 = .ok (.iload_n 1, 1) := by decide +kernel
theorem dX12_debtor_51 : decode cX12_debtor 51 = .ok (.istore_n 1, 1) := by decide +kernel
theorem dX12_debtor_52 : decode cX12_debtor 52 = .ok (.iinc 2 1, 3) := by decide +kernel
theorem dX12_debtor_55 : decode cX12_debtor 55 = .ok (.goto (-45), 3) := by decide +kernel
theorem dX12_debtor_58 : decode cX12_debtor 58 = .ok (.iload_n 1, 1) := by decide +kernel
theorem dX12_debtor_59 : decode cX12_debtor 59 = .ok (.ireturn, 1) := by decide +kernel
theorem dX12_nextRead_0 : decode cX12_nextRead 0 = .ok (.aload_n 0, 1) := by decide +kernel
theorem dX12_nextRead_1 : decode cX12_nextRead 1 = .ok (.iconst 0, 1) := by decide +kernel
theorem dX12_nextRead_2 : decode cX12_nextRead 2 = .ok (.putfield 145, 3) := by decide +kernel
theorem dX12_nextRead_5 : decode cX12_nextRead 5 = .ok (.aload_n 0, 1) := by decide +kernel
theorem dX12_nextRead_6 : decode cX12_nextRead 6 = .ok (.iload_n 1, 1) := by decide +kernel
theorem dX12_nextRead_7 : decode cX12_nextRead 7 = .ok (.invokevirtual 454, 3) := by decide +kernel
theorem dX12_nextRead_10 : decode cX12_nextRead 10 = .ok (.ifCond .ne 5, 3) := by decide +kernel
theorem dX12_nextRead_13 : decode cX12_nextRead 13 = .ok (.iconst (-1), 1) := by decide +kernel
theorem dX12_nextRead_14 : decode cX12_nextRead 14 = .ok (.ireturn, 1) := by decide +kernel
theorem dX12_nextRead_15 : decode cX12_nextRead 15 = .ok (.aload_n 0, 1) := by decide +kernel
theorem dX12_nextRead_16 : decode cX12_nextRead 16 = .ok (.invokevirtual 474, 3) := by decide +kernel
theorem dX12_nextRead_19 : decode cX12_nextRead 19 = .ok (.iconst 1, 1) := by decide +kernel
theorem dX12_nextRead_20 : decode cX12_nextRead 20 = .ok (.istore_n 2, 1) := by decide +kernel
theorem dX12_nextRead_21 : decode cX12_nextRead 21 = .ok (.iload_n 2, 1) := by decide +kernel
theorem dX12_nextRead_22 : decode cX12_nextRead 22 = .ok (.bipush 99, 2) := by decide +kernel
theorem dX12_nextRead_24 : decode cX12_nextRead 24 = .ok (.if_icmp .gt 27, 3) := by decide +kernel
theorem dX12_nextRead_27 : decode cX12_nextRead 27 = .ok (.aload_n 0, 1) := by decide +kernel
theorem dX12_nextRead_28 : decode cX12_nextRead 28 = .ok (.iconst 1, 1) := by decide +kernel
theorem dX12_nextRead_29 : decode cX12_nextRead 29 = .ok (.invokevirtual 445, 3) := by decide +kernel
theorem dX12_nextRead_32 : decode cX12_nextRead 32 = .ok (.aload_n 0, 1) := by decide +kernel
theorem dX12_nextRead_33 : decode cX12_nextRead 33 = .ok (.getfield 435, 3) := by decide +kernel
theorem dX12_nextRead_36 : decode cX12_nextRead 36 = .ok (.iload_n 1, 1) := by decide +kernel
theorem dX12_nextRead_37 : decode cX12_nextRead 37 = .ok (.invokestatic 383, 3) := by decide +kernel
theorem dX12_nextRead_40 : decode cX12_nextRead 40 = .ok (.ifCond .eq 5, 3) := by decide +kernel
theorem dX12_nextRead_43 : decode cX12_nextRead 43 = .ok (.iload_n 2, 1) := by decide +kernel
theorem dX12_nextRead_44 : decode cX12_nextRead 44 = .ok (.ireturn, 1) := by decide +kernel
theorem dX12_nextRead_45 : decode cX12_nextRead 45 = .ok (.iinc 2 1, 3) := by decide +kernel
theorem dX12_nextRead_48 : decode cX12_nextRead 48 = .ok (.goto (-27), 3) := by decide +kernel
theorem dX12_nextRead_51 : decode cX12_nextRead 51 = .ok (.bipush (-2), 2) := by decide +kernel
theorem dX12_nextRead_53 : decode cX12_nextRead 53 = .ok (.ireturn, 1) := by decide +kernel
theorem dX12_richest_0 : decode cX12_richest 0 = .ok (.aload_n 0, 1) := by decide +kernel
theorem dX12_richest_1 : decode cX12_richest 1 = .ok (.iconst 0, 1) := by decide +kernel
theorem dX12_richest_2 : decode cX12_richest 2 = .ok (.putfield 145, 3) := by decide +kernel
theorem dX12_richest_5 : decode cX12_richest 5 = .ok (.iload_n 1, 1) := by decide +kernel
theorem dX12_richest_6 : decode cX12_richest 6 = .ok (.iconst 0, 1) := by decide +kernel
theorem dX12_richest_7 : decode cX12_richest 7 = .ok (.bipush 99, 2) := by decide +kernel
theorem dX12_richest_9 : decode cX12_richest 9 = .ok (.invokestatic 190, 3) := by decide +kernel
theorem dX12_richest_12 : decode cX12_richest 12 = .ok (.ifCond .ne 5, 3) := by decide +kernel
theorem dX12_richest_15 : decode cX12_richest 15 = .ok (.iconst (-1), 1) := by decide +kernel
theorem dX12_richest_16 : decode cX12_richest 16 = .ok (.ireturn, 1) := by decide +kernel
theorem dX12_richest_17 : decode cX12_richest 17 = .ok (.aload_n 0, 1) := by decide +kernel
theorem dX12_richest_18 : decode cX12_richest 18 = .ok (.invokevirtual 474, 3) := by decide +kernel
theorem dX12_richest_21 : decode cX12_richest 21 = .ok (.aload_n 0, 1) := by decide +kernel
theorem dX12_richest_22 : decode cX12_richest 22 = .ok (.iload_n 1, 1) := by decide +kernel
theorem dX12_richest_23 : decode cX12_richest 23 = .ok (.invokevirtual 477, 3) := by decide +kernel
theorem dX12_richest_26 : decode cX12_richest 26 = .ok (.iconst (-1), 1) := by decide +kernel
theorem dX12_richest_27 : decode cX12_richest 27 = .ok (.istore_n 2, 1) := by decide +kernel
theorem dX12_richest_28 : decode cX12_richest 28 = .ok (.iconst 0, 1) := by decide +kernel
theorem dX12_richest_29 : decode cX12_richest 29 = .ok (.istore_n 3, 1) := by decide +kernel
theorem dX12_richest_30 : decode cX12_richest 30 = .ok (.iload_n 3, 1) := by decide +kernel
theorem dX12_richest_31 : decode cX12_richest 31 = .ok (.aload_n 0, 1) := by decide +kernel
theorem dX12_richest_32 : decode cX12_richest 32 = .ok (.getfield 222, 3) := by decide +kernel
theorem dX12_richest_35 : decode cX12_richest 35 = .ok (.if_icmp .ge 40, 3) := by decide +kernel
theorem dX12_richest_38 : decode cX12_richest 38 = .ok (.iload_n 2, 1) := by decide +kernel
theorem dX12_richest_39 : decode cX12_richest 39 = .ok (.ifCond .lt 24, 3) := by decide +kernel
theorem dX12_richest_42 : decode cX12_richest 42 = .ok (.aload_n 0, 1) := by decide +kernel
theorem dX12_richest_43 : decode cX12_richest 43 = .ok (.getfield 97, 3) := by decide +kernel
theorem dX12_richest_46 : decode cX12_richest 46 = .ok (.bipush 6, 2) := by decide +kernel
theorem dX12_richest_48 : decode cX12_richest 48 = .ok (.iload_n 3, 1) := by decide +kernel
theorem dX12_richest_49 : decode cX12_richest 49 = .ok (.iadd, 1) := by decide +kernel
theorem dX12_richest_50 : decode cX12_richest 50 = .ok (.iaload, 1) := by decide +kernel
theorem dX12_richest_51 : decode cX12_richest 51 = .ok (.aload_n 0, 1) := by decide +kernel
theorem dX12_richest_52 : decode cX12_richest 52 = .ok (.getfield 97, 3) := by decide +kernel
theorem dX12_richest_55 : decode cX12_richest 55 = .ok (.bipush 6, 2) := by decide +kernel
theorem dX12_richest_57 : decode cX12_richest 57 = .ok (.iload_n 2, 1) := by decide +kernel
theorem dX12_richest_58 : decode cX12_richest 58 = .ok (.iadd, 1) := by decide +kernel
theorem dX12_richest_59 : decode cX12_richest 59 = .ok (.iaload, 1) := by decide +kernel
theorem dX12_richest_60 : decode cX12_richest 60 = .ok (.if_icmp .le 7, 3) := by decide +kernel
theorem dX12_richest_63 : decode cX12_richest 63 = .ok (.iload_n 3, 1) := by decide +kernel
theorem dX12_richest_64 : decode cX12_richest 64 = .ok (.goto 4, 3) := by decide +kernel
theorem dX12_richest_67 : decode cX12_richest 67 = .ok (.iload_n 2, 1) := by decide +kernel
theorem dX12_richest_68 : decode cX12_richest 68 = .ok (.istore_n 2, 1) := by decide +kernel
theorem dX12_richest_69 : decode cX12_richest 69 = .ok (.iinc 3 1, 3) := by decide +kernel
theorem dX12_richest_72 : decode cX12_richest 72 = .ok (.goto (-42), 3) := by decide +kernel
theorem dX12_richest_75 : decode cX12_richest 75 = .ok (.iload_n 2, 1) := by decide +kernel
theorem dX12_richest_76 : decode cX12_richest 76 = .ok (.ireturn, 1) := by decide +kernel
theorem dX12_noted_0 : decode cX12_noted 0 = .ok (.aload_n 0, 1) := by decide +kernel
theorem dX12_noted_1 : decode cX12_noted 1 = .ok (.getfield 124, 3) := by decide +kernel
theorem dX12_noted_4 : decode cX12_noted 4 = .ok (.iconst 3, 1) := by decide +kernel
theorem dX12_noted_5 : decode cX12_noted 5 = .ok (.aload_n 0, 1) := by decide +kernel
theorem dX12_noted_6 : decode cX12_noted 6 = .ok (.getfield 347, 3) := by decide +kernel
theorem dX12_noted_9 : decode cX12_noted 9 = .ok (.imul, 1) := by decide +kernel
theorem dX12_noted_10 : decode cX12_noted 10 = .ok (.iload_n 1, 1) := by decide +kernel
theorem dX12_noted_11 : decode cX12_noted 11 = .ok (.iastore, 1) := by decide +kernel
theorem dX12_noted_12 : decode cX12_noted 12 = .ok (.aload_n 0, 1) := by decide +kernel
theorem dX12_noted_13 : decode cX12_noted 13 = .ok (.getfield 124, 3) := by decide +kernel
theorem dX12_noted_16 : decode cX12_noted 16 = .ok (.iconst 3, 1) := by decide +kernel
theorem dX12_noted_17 : decode cX12_noted 17 = .ok (.aload_n 0, 1) := by decide +kernel
theorem dX12_noted_18 : decode cX12_noted 18 = .ok (.getfield 347, 3) := by decide +kernel
theorem dX12_noted_21 : decode cX12_noted 21 = .ok (.imul, 1) := by decide +kernel
theorem dX12_noted_22 : decode cX12_noted 22 = .ok (.iconst 1, 1) := by decide +kernel
theorem dX12_noted_23 : decode cX12_noted 23 = .ok (.iadd, 1) := by decide +kernel
theorem dX12_noted_24 : decode cX12_noted 24 = .ok (.iload_n 2, 1) := by decide +kernel
theorem dX12_noted_25 : decode cX12_noted 25 = .ok (.iastore, 1) := by decide +kernel
theorem dX12_noted_26 : decode cX12_noted 26 = .ok (.aload_n 0, 1) := by decide +kernel
theorem dX12_noted_27 : decode cX12_noted 27 = .ok (.getfield 124, 3) := by decide +kernel
theorem dX12_noted_30 : decode cX12_noted 30 = .ok (.iconst 3, 1) := by decide +kernel
theorem dX12_noted_31 : decode cX12_noted 31 = .ok (.aload_n 0, 1) := by decide +kernel
theorem dX12_noted_32 : decode cX12_noted 32 = .ok (.getfield 347, 3) := by decide +kernel
theorem dX12_noted_35 : decode cX12_noted 35 = .ok (.imul, 1) := by decide +kernel
theorem dX12_noted_36 : decode cX12_noted 36 = .ok (.iconst 2, 1) := by decide +kernel
theorem dX12_noted_37 : decode cX12_noted 37 = .ok (.iadd, 1) := by decide +kernel
theorem dX12_noted_38 : decode cX12_noted 38 = .ok (.iload_n 3, 1) := by decide +kernel
theorem dX12_noted_39 : decode cX12_noted 39 = .ok (.iastore, 1) := by decide +kernel
theorem dX12_noted_40 : decode cX12_noted 40 = .ok (.aload_n 0, 1) := by decide +kernel
theorem dX12_noted_41 : decode cX12_noted 41 = .ok (.dup, 1) := by decide +kernel
theorem dX12_noted_42 : decode cX12_noted 42 = .ok (.getfield 347, 3) := by decide +kernel
theorem dX12_noted_45 : decode cX12_noted 45 = .ok (.iconst 1, 1) := by decide +kernel
theorem dX12_noted_46 : decode cX12_noted 46 = .ok (.iadd, 1) := by decide +kernel
theorem dX12_noted_47 : decode cX12_noted 47 = .ok (.putfield 347, 3) := by decide +kernel
theorem dX12_noted_50 : decode cX12_noted 50 = .ok (.aload_n 0, 1) := by decide +kernel
theorem dX12_noted_51 : decode cX12_noted 51 = .ok (.getfield 347, 3) := by decide +kernel
theorem dX12_noted_54 : decode cX12_noted 54 = .ok (.iconst 1, 1) := by decide +kernel
theorem dX12_noted_55 : decode cX12_noted 55 = .ok (.isub, 1) := by decide +kernel
theorem dX12_noted_56 : decode cX12_noted 56 = .ok (.ireturn, 1) := by decide +kernel
theorem dX12_find_0 : decode cX12_find 0 = .ok (.aload_n 0, 1) := by decide +kernel
theorem dX12_find_1 : decode cX12_find 1 = .ok (.iconst 0, 1) := by decide +kernel
theorem dX12_find_2 : decode cX12_find 2 = .ok (.putfield 145, 3) := by decide +kernel
theorem dX12_find_5 : decode cX12_find 5 = .ok (.aload_n 0, 1) := by decide +kernel
theorem dX12_find_6 : decode cX12_find 6 = .ok (.getfield 347, 3) := by decide +kernel
theorem dX12_find_9 : decode cX12_find 9 = .ok (.bipush 24, 2) := by decide +kernel
theorem dX12_find_11 : decode cX12_find 11 = .ok (.if_icmp .eq 21, 3) := by decide +kernel
theorem dX12_find_14 : decode cX12_find 14 = .ok (.iload_n 1, 1) := by decide +kernel
theorem dX12_find_15 : decode cX12_find 15 = .ok (.iconst 1, 1) := by decide +kernel
theorem dX12_find_16 : decode cX12_find 16 = .ok (.bipush 40, 2) := by decide +kernel
theorem dX12_find_18 : decode cX12_find 18 = .ok (.invokestatic 190, 3) := by decide +kernel
theorem dX12_find_21 : decode cX12_find 21 = .ok (.ifCond .eq 11, 3) := by decide +kernel
theorem dX12_find_24 : decode cX12_find 24 = .ok (.aload_n 0, 1) := by decide +kernel
theorem dX12_find_25 : decode cX12_find 25 = .ok (.iload_n 2, 1) := by decide +kernel
theorem dX12_find_26 : decode cX12_find 26 = .ok (.invokevirtual 454, 3) := by decide +kernel
theorem dX12_find_29 : decode cX12_find 29 = .ok (.ifCond .ne 7, 3) := by decide +kernel
theorem dX12_find_32 : decode cX12_find 32 = .ok (.iconst (-1), 1) := by decide +kernel
theorem dX12_find_33 : decode cX12_find 33 = .ok (.goto 18, 3) := by decide +kernel
theorem dX12_find_36 : decode cX12_find 36 = .ok (.aload_n 0, 1) := by decide +kernel
theorem dX12_find_37 : decode cX12_find 37 = .ok (.iload_n 1, 1) := by decide +kernel
theorem dX12_find_38 : decode cX12_find 38 = .ok (.iload_n 2, 1) := by decide +kernel
theorem dX12_find_39 : decode cX12_find 39 = .ok (.iload_n 3, 1) := by decide +kernel
theorem dX12_find_40 : decode cX12_find 40 = .ok (.ifCond .eq 7, 3) := by decide +kernel
theorem dX12_find_43 : decode cX12_find 43 = .ok (.iconst 1, 1) := by decide +kernel
theorem dX12_find_44 : decode cX12_find 44 = .ok (.goto 4, 3) := by decide +kernel
theorem dX12_find_47 : decode cX12_find 47 = .ok (.iconst 0, 1) := by decide +kernel
theorem dX12_find_48 : decode cX12_find 48 = .ok (.invokevirtual 504, 3) := by decide +kernel
theorem dX12_find_51 : decode cX12_find 51 = .ok (.ireturn, 1) := by decide +kernel
theorem dX12_strike_0 : decode cX12_strike 0 = .ok (.aload_n 0, 1) := by decide +kernel
theorem dX12_strike_1 : decode cX12_strike 1 = .ok (.iconst 0, 1) := by decide +kernel
theorem dX12_strike_2 : decode cX12_strike 2 = .ok (.putfield 145, 3) := by decide +kernel
theorem dX12_strike_5 : decode cX12_strike 5 = .ok (.aload_n 0, 1) := by decide +kernel
theorem dX12_strike_6 : decode cX12_strike 6 = .ok (.getfield 347, 3) := by decide +kernel
theorem dX12_strike_9 : decode cX12_strike 9 = .ok (.bipush 24, 2) := by decide +kernel
theorem dX12_strike_11 : decode cX12_strike 11 = .ok (.if_icmp .eq 15, 3) := by decide +kernel
theorem dX12_strike_14 : decode cX12_strike 14 = .ok (.iload_n 1, 1) := by decide +kernel
theorem dX12_strike_15 : decode cX12_strike 15 = .ok (.ifCond .lt 11, 3) := by decide +kernel
theorem dX12_strike_18 : decode cX12_strike 18 = .ok (.iload_n 1, 1) := by decide +kernel
theorem dX12_strike_19 : decode cX12_strike 19 = .ok (.aload_n 0, 1) := by decide +kernel
theorem dX12_strike_20 : decode cX12_strike 20 = .ok (.getfield 347, 3) := by decide +kernel
theorem dX12_strike_23 : decode cX12_strike 23 = .ok (.if_icmp .lt 7, 3) := by decide +kernel
theorem dX12_strike_26 : decode cX12_strike 26 = .ok (.iconst (-1), 1) := by decide +kernel
theorem dX12_strike_27 : decode cX12_strike 27 = .ok (.goto 10, 3) := by decide +kernel
theorem dX12_strike_30 : decode cX12_strike 30 = .ok (.aload_n 0, 1) := by decide +kernel
theorem dX12_strike_31 : decode cX12_strike 31 = .ok (.iconst (-1), 1) := by decide +kernel
theorem dX12_strike_32 : decode cX12_strike 32 = .ok (.iload_n 1, 1) := by decide +kernel
theorem dX12_strike_33 : decode cX12_strike 33 = .ok (.iconst 0, 1) := by decide +kernel
theorem dX12_strike_34 : decode cX12_strike 34 = .ok (.invokevirtual 504, 3) := by decide +kernel
theorem dX12_strike_37 : decode cX12_strike 37 = .ok (.ireturn, 1) := by decide +kernel
theorem dX12_known_0 : decode cX12_known 0 = .ok (.aload_n 0, 1) := by decide +kernel
theorem dX12_known_1 : decode cX12_known 1 = .ok (.iconst 0, 1) := by decide +kernel
theorem dX12_known_2 : decode cX12_known 2 = .ok (.putfield 145, 3) := by decide +kernel
theorem dX12_known_5 : decode cX12_known 5 = .ok (.iload_n 1, 1) := by decide +kernel
theorem dX12_known_6 : decode cX12_known 6 = .ok (.iconst (-1), 1) := by decide +kernel
theorem dX12_known_7 : decode cX12_known 7 = .ok (.aload_n 0, 1) := by decide +kernel
theorem dX12_known_8 : decode cX12_known 8 = .ok (.getfield 347, 3) := by decide +kernel
theorem dX12_known_11 : decode cX12_known 11 = .ok (.invokestatic 190, 3) := by decide +kernel
theorem dX12_known_14 : decode cX12_known 14 = .ok (.ifCond .ne 5, 3) := by decide +kernel
theorem dX12_known_17 : decode cX12_known 17 = .ok (.iconst 0, 1) := by decide +kernel
theorem dX12_known_18 : decode cX12_known 18 = .ok (.ireturn, 1) := by decide +kernel
theorem dX12_known_19 : decode cX12_known 19 = .ok (.aload_n 0, 1) := by decide +kernel
theorem dX12_known_20 : decode cX12_known 20 = .ok (.iload_n 1, 1) := by decide +kernel
theorem dX12_known_21 : decode cX12_known 21 = .ok (.putfield 121, 3) := by decide +kernel
theorem dX12_known_24 : decode cX12_known 24 = .ok (.iconst 1, 1) := by decide +kernel
theorem dX12_known_25 : decode cX12_known 25 = .ok (.ireturn, 1) := by decide +kernel
theorem dX12_knownBy_0 : decode cX12_knownBy 0 = .ok (.aload_n 0, 1) := by decide +kernel
theorem dX12_knownBy_1 : decode cX12_knownBy 1 = .ok (.getfield 121, 3) := by decide +kernel
theorem dX12_knownBy_4 : decode cX12_knownBy 4 = .ok (.ifCond .ge 10, 3) := by decide +kernel
theorem dX12_knownBy_7 : decode cX12_knownBy 7 = .ok (.aload_n 0, 1) := by decide +kernel
theorem dX12_knownBy_8 : decode cX12_knownBy 8 = .ok (.getfield 347, 3) := by decide +kernel
theorem dX12_knownBy_11 : decode cX12_knownBy 11 = .ok (.goto 7, 3) := by decide +kernel
theorem dX12_knownBy_14 : decode cX12_knownBy 14 = .ok (.aload_n 0, 1) := by decide +kernel
theorem dX12_knownBy_15 : decode cX12_knownBy 15 = .ok (.getfield 121, 3) := by decide +kernel
theorem dX12_knownBy_18 : decode cX12_knownBy 18 = .ok (.ireturn, 1) := by decide +kernel
theorem dX12_isSo_0 : decode cX12_isSo 0 = .ok (.iconst 0, 1) := by decide +kernel
theorem dX12_isSo_1 : decode cX12_isSo 1 = .ok (.istore_n 2, 1) := by decide +kernel
theorem dX12_isSo_2 : decode cX12_isSo 2 = .ok (.iload_n 2, 1) := by decide +kernel
theorem dX12_isSo_3 : decode cX12_isSo 3 = .ok (.aload_n 0, 1) := by decide +kernel
theorem dX12_isSo_4 : decode cX12_isSo 4 = .ok (.invokevirtual 507, 3) := by decide +kernel
theorem dX12_isSo_7 : decode cX12_isSo 7 = .ok (.if_icmp .ge 75, 3) := by decide +kernel
theorem dX12_isSo_10 : decode cX12_isSo 10 = .ok (.aload_n 0, 1) := by decide +kernel
theorem dX12_isSo_11 : decode cX12_isSo 11 = .ok (.getfield 127, 3) := by decide +kernel
theorem dX12_isSo_14 : decode cX12_isSo 14 = .ok (.iload_n 2, 1) := by decide +kernel
theorem dX12_isSo_15 : decode cX12_isSo 15 = .ok (.baload, 1) := by decide +kernel
theorem dX12_isSo_16 : decode cX12_isSo 16 = .ok (.ifCond .eq 60, 3) := by decide +kernel
theorem dX12_isSo_19 : decode cX12_isSo 19 = .ok (.aload_n 0, 1) := by decide +kernel
theorem dX12_isSo_20 : decode cX12_isSo 20 = .ok (.getfield 124, 3) := by decide +kernel
theorem dX12_isSo_23 : decode cX12_isSo 23 = .ok (.iconst 3, 1) := by decide +kernel
theorem dX12_isSo_24 : decode cX12_isSo 24 = .ok (.iload_n 2, 1) := by decide +kernel
theorem dX12_isSo_25 : decode cX12_isSo 25 = .ok (.imul, 1) := by decide +kernel
theorem dX12_isSo_26 : decode cX12_isSo 26 = .ok (.iaload, 1) := by decide +kernel
theorem dX12_isSo_27 : decode cX12_isSo 27 = .ok (.iload_n 1, 1) := by decide +kernel
theorem dX12_isSo_28 : decode cX12_isSo 28 = .ok (.if_icmp .eq 6, 3) := by decide +kernel
theorem dX12_isSo_31 : decode cX12_isSo 31 = .ok (.goto 45, 3) := by decide +kernel
theorem dX12_isSo_34 : decode cX12_isSo 34 = .ok (.aload_n 0, 1) := by decide +kernel
theorem dX12_isSo_35 : decode cX12_isSo 35 = .ok (.getfield 94, 3) := by decide +kernel
theorem dX12_isSo_38 : decode cX12_isSo 38 = .ok (.bipush 12, 2) := by decide +kernel
theorem dX12_isSo_40 : decode cX12_isSo 40 = .ok (.aload_n 0, 1) := by decide +kernel
theorem dX12_isSo_41 : decode cX12_isSo 41 = .ok (.getfield 124, 3) := by decide +kernel
theorem dX12_isSo_44 : decode cX12_isSo 44 = .ok (.iconst 3, 1) := by decide +kernel
theorem dX12_isSo_45 : decode cX12_isSo 45 = .ok (.iload_n 2, 1) := by decide +kernel
theorem dX12_isSo_46 : decode cX12_isSo 46 = .ok (.imul, 1) := by decide +kernel
theorem dX12_isSo_47 : decode cX12_isSo 47 = .ok (.iconst 1, 1) := by decide +kernel
theorem dX12_isSo_48 : decode cX12_isSo 48 = .ok (.iadd, 1) := by decide +kernel
theorem dX12_isSo_49 : decode cX12_isSo 49 = .ok (.iaload, 1) := by decide +kernel
theorem dX12_isSo_50 : decode cX12_isSo 50 = .ok (.iadd, 1) := by decide +kernel
theorem dX12_isSo_51 : decode cX12_isSo 51 = .ok (.baload, 1) := by decide +kernel
theorem dX12_isSo_52 : decode cX12_isSo 52 = .ok (.aload_n 0, 1) := by decide +kernel
theorem dX12_isSo_53 : decode cX12_isSo 53 = .ok (.getfield 124, 3) := by decide +kernel
theorem dX12_isSo_56 : decode cX12_isSo 56 = .ok (.iconst 3, 1) := by decide +kernel
theorem dX12_isSo_57 : decode cX12_isSo 57 = .ok (.iload_n 2, 1) := by decide +kernel
theorem dX12_isSo_58 : decode cX12_isSo 58 = .ok (.imul, 1) := by decide +kernel
theorem dX12_isSo_59 : decode cX12_isSo 59 = .ok (.iconst 2, 1) := by decide +kernel
theorem dX12_isSo_60 : decode cX12_isSo 60 = .ok (.iadd, 1) := by decide +kernel
theorem dX12_isSo_61 : decode cX12_isSo 61 = .ok (.iaload, 1) := by decide +kernel
theorem dX12_isSo_62 : decode cX12_isSo 62 = .ok (.iconst 1, 1) := by decide +kernel
theorem dX12_isSo_63 : decode cX12_isSo 63 = .ok (.if_icmp .ne 7, 3) := by decide +kernel
theorem dX12_isSo_66 : decode cX12_isSo 66 = .ok (.iconst 1, 1) := by decide +kernel
theorem dX12_isSo_67 : decode cX12_isSo 67 = .ok (.goto 4, 3) := by decide +kernel
theorem dX12_isSo_70 : decode cX12_isSo 70 = .ok (.iconst 0, 1) := by decide +kernel
theorem dX12_isSo_71 : decode cX12_isSo 71 = .ok (.if_icmp .eq 5, 3) := by decide +kernel
theorem dX12_isSo_74 : decode cX12_isSo 74 = .ok (.iconst 0, 1) := by decide +kernel
theorem dX12_isSo_75 : decode cX12_isSo 75 = .ok (.ireturn, 1) := by decide +kernel
theorem dX12_isSo_76 : decode cX12_isSo 76 = .ok (.iinc 2 1, 3) := by decide +kernel
theorem dX12_isSo_79 : decode cX12_isSo 79 = .ok (.goto (-77), 3) := by decide +kernel
theorem dX12_isSo_82 : decode cX12_isSo 82 = .ok (.iconst 1, 1) := by decide +kernel
theorem dX12_isSo_83 : decode cX12_isSo 83 = .ok (.ireturn, 1) := by decide +kernel
theorem dX12_fits_0 : decode cX12_fits 0 = .ok (.aload_n 0, 1) := by decide +kernel
theorem dX12_fits_1 : decode cX12_fits 1 = .ok (.iconst 1, 1) := by decide +kernel
theorem dX12_fits_2 : decode cX12_fits 2 = .ok (.invokevirtual 337, 3) := by decide +kernel
theorem dX12_fits_5 : decode cX12_fits 5 = .ok (.aload_n 0, 1) := by decide +kernel
theorem dX12_fits_6 : decode cX12_fits 6 = .ok (.invokevirtual 344, 3) := by decide +kernel
theorem dX12_fits_9 : decode cX12_fits 9 = .ok (.aload_n 0, 1) := by decide +kernel
theorem dX12_fits_10 : decode cX12_fits 10 = .ok (.iload_n 1, 1) := by decide +kernel
theorem dX12_fits_11 : decode cX12_fits 11 = .ok (.putfield 377, 3) := by decide +kernel
theorem dX12_fits_14 : decode cX12_fits 14 = .ok (.aload_n 0, 1) := by decide +kernel
theorem dX12_fits_15 : decode cX12_fits 15 = .ok (.iload_n 2, 1) := by decide +kernel
theorem dX12_fits_16 : decode cX12_fits 16 = .ok (.putfield 380, 3) := by decide +kernel
theorem dX12_fits_19 : decode cX12_fits 19 = .ok (.iconst 1, 1) := by decide +kernel
theorem dX12_fits_20 : decode cX12_fits 20 = .ok (.istore_n 3, 1) := by decide +kernel
theorem dX12_fits_21 : decode cX12_fits 21 = .ok (.iload_n 3, 1) := by decide +kernel
theorem dX12_fits_22 : decode cX12_fits 22 = .ok (.bipush 40, 2) := by decide +kernel
theorem dX12_fits_24 : decode cX12_fits 24 = .ok (.if_icmp .gt 24, 3) := by decide +kernel
theorem dX12_fits_27 : decode cX12_fits 27 = .ok (.aload_n 0, 1) := by decide +kernel
theorem dX12_fits_28 : decode cX12_fits 28 = .ok (.iconst 1, 1) := by decide +kernel
theorem dX12_fits_29 : decode cX12_fits 29 = .ok (.invokevirtual 445, 3) := by decide +kernel
theorem dX12_fits_32 : decode cX12_fits 32 = .ok (.aload_n 0, 1) := by decide +kernel
theorem dX12_fits_33 : decode cX12_fits 33 = .ok (.iload_n 3, 1) := by decide +kernel
theorem dX12_fits_34 : decode cX12_fits 34 = .ok (.invokevirtual 510, 3) := by decide +kernel
theorem dX12_fits_37 : decode cX12_fits 37 = .ok (.ifCond .ne 5, 3) := by decide +kernel
theorem dX12_fits_40 : decode cX12_fits 40 = .ok (.iconst 0, 1) := by decide +kernel
theorem dX12_fits_41 : decode cX12_fits 41 = .ok (.ireturn, 1) := by decide +kernel
theorem dX12_fits_42 : decode cX12_fits 42 = .ok (.iinc 3 1, 3) := by decide +kernel
theorem dX12_fits_45 : decode cX12_fits 45 = .ok (.goto (-24), 3) := by decide +kernel
theorem dX12_fits_48 : decode cX12_fits 48 = .ok (.iconst 1, 1) := by decide +kernel
theorem dX12_fits_49 : decode cX12_fits 49 = .ok (.ireturn, 1) := by decide +kernel
theorem dX12_skills_0 : decode cX12_skills 0 = .ok (.aload_n 0, 1) := by decide +kernel
theorem dX12_skills_1 : decode cX12_skills 1 = .ok (.iconst 0, 1) := by decide +kernel
theorem dX12_skills_2 : decode cX12_skills 2 = .ok (.putfield 145, 3) := by decide +kernel
theorem dX12_skills_5 : decode cX12_skills 5 = .ok (.aload_n 0, 1) := by decide +kernel
theorem dX12_skills_6 : decode cX12_skills 6 = .ok (.iload_n 1, 1) := by decide +kernel
theorem dX12_skills_7 : decode cX12_skills 7 = .ok (.invokevirtual 463, 3) := by decide +kernel
theorem dX12_skills_10 : decode cX12_skills 10 = .ok (.ifCond .ne 5, 3) := by decide +kernel
theorem dX12_skills_13 : decode cX12_skills 13 = .ok (.iconst (-1), 1) := by decide +kernel
theorem dX12_skills_14 : decode cX12_skills 14 = .ok (.ireturn, 1) := by decide +kernel
theorem dX12_skills_15 : decode cX12_skills 15 = .ok (.iconst 0, 1) := by decide +kernel
theorem dX12_skills_16 : decode cX12_skills 16 = .ok (.istore_n 2, 1) := by decide +kernel
theorem dX12_skills_17 : decode cX12_skills 17 = .ok (.iload_n 2, 1) := by decide +kernel
theorem dX12_skills_18 : decode cX12_skills 18 = .ok (.aload_n 0, 1) := by decide +kernel
theorem dX12_skills_19 : decode cX12_skills 19 = .ok (.invokevirtual 507, 3) := by decide +kernel
theorem dX12_skills_22 : decode cX12_skills 22 = .ok (.if_icmp .ge 16, 3) := by decide +kernel
theorem dX12_skills_25 : decode cX12_skills 25 = .ok (.aload_n 0, 1) := by decide +kernel
theorem dX12_skills_26 : decode cX12_skills 26 = .ok (.getfield 127, 3) := by decide +kernel
theorem dX12_skills_29 : decode cX12_skills 29 = .ok (.iload_n 2, 1) := by decide +kernel
theorem dX12_skills_30 : decode cX12_skills 30 = .ok (.iconst 1, 1) := by decide +kernel
theorem dX12_skills_31 : decode cX12_skills 31 = .ok (.bastore, 1) := by decide +kernel
theorem dX12_skills_32 : decode cX12_skills 32 = .ok (.iinc 2 1, 3) := by decide +kernel
theorem dX12_skills_35 : decode cX12_skills 35 = .ok (.goto (-18), 3) := by decide +kernel
theorem dX12_skills_38 : decode cX12_skills 38 = .ok (.aload_n 0, 1) := by decide +kernel
theorem dX12_skills_39 : decode cX12_skills 39 = .ok (.invokevirtual 507, 3) := by decide +kernel
theorem dX12_skills_42 : decode cX12_skills 42 = .ok (.iconst 1, 1) := by decide +kernel
theorem dX12_skills_43 : decode cX12_skills 43 = .ok (.isub, 1) := by decide +kernel
theorem dX12_skills_44 : decode cX12_skills 44 = .ok (.istore_n 2, 1) := by decide +kernel
theorem dX12_skills_45 : decode cX12_skills 45 = .ok (.iload_n 2, 1) := by decide +kernel
theorem dX12_skills_46 : decode cX12_skills 46 = .ok (.ifCond .lt 45, 3) := by decide +kernel
theorem dX12_skills_49 : decode cX12_skills 49 = .ok (.aload_n 0, 1) := by decide +kernel
theorem dX12_skills_50 : decode cX12_skills 50 = .ok (.getfield 127, 3) := by decide +kernel
theorem dX12_skills_53 : decode cX12_skills 53 = .ok (.iload_n 2, 1) := by decide +kernel
theorem dX12_skills_54 : decode cX12_skills 54 = .ok (.baload, 1) := by decide +kernel
theorem dX12_skills_55 : decode cX12_skills 55 = .ok (.ifCond .eq 30, 3) := by decide +kernel
theorem dX12_skills_58 : decode cX12_skills 58 = .ok (.aload_n 0, 1) := by decide +kernel
theorem dX12_skills_59 : decode cX12_skills 59 = .ok (.getfield 124, 3) := by decide +kernel
theorem dX12_skills_62 : decode cX12_skills 62 = .ok (.iconst 3, 1) := by decide +kernel
theorem dX12_skills_63 : decode cX12_skills 63 = .ok (.iload_n 2, 1) := by decide +kernel
theorem dX12_skills_64 : decode cX12_skills 64 = .ok (.imul, 1) := by decide +kernel
theorem dX12_skills_65 : decode cX12_skills 65 = .ok (.iaload, 1) := by decide +kernel
theorem dX12_skills_66 : decode cX12_skills 66 = .ok (.ifCond .ge 19, 3) := by decide +kernel
theorem dX12_skills_69 : decode cX12_skills 69 = .ok (.aload_n 0, 1) := by decide +kernel
theorem dX12_skills_70 : decode cX12_skills 70 = .ok (.getfield 127, 3) := by decide +kernel
theorem dX12_skills_73 : decode cX12_skills 73 = .ok (.aload_n 0, 1) := by decide +kernel
theorem dX12_skills_74 : decode cX12_skills 74 = .ok (.getfield 124, 3) := by decide +kernel
theorem dX12_skills_77 : decode cX12_skills 77 = .ok (.iconst 3, 1) := by decide +kernel
theorem dX12_skills_78 : decode cX12_skills 78 = .ok (.iload_n 2, 1) := by decide +kernel
theorem dX12_skills_79 : decode cX12_skills 79 = .ok (.imul, 1) := by decide +kernel
theorem dX12_skills_80 : decode cX12_skills 80 = .ok (.iconst 1, 1) := by decide +kernel
theorem dX12_skills_81 : decode cX12_skills 81 = .ok (.iadd, 1) := by decide +kernel
theorem dX12_skills_82 : decode cX12_skills 82 = .ok (.iaload, 1) := by decide +kernel
theorem dX12_skills_83 : decode cX12_skills 83 = .ok (.iconst 0, 1) := by decide +kernel
theorem dX12_skills_84 : decode cX12_skills 84 = .ok (.bastore, 1) := by decide +kernel
theorem dX12_skills_85 : decode cX12_skills 85 = .ok (.iinc 2 (-1), 3) := by decide +kernel
theorem dX12_skills_88 : decode cX12_skills 88 = .ok (.goto (-43), 3) := by decide +kernel
theorem dX12_skills_91 : decode cX12_skills 91 = .ok (.iconst 0, 1) := by decide +kernel
theorem dX12_skills_92 : decode cX12_skills 92 = .ok (.istore_n 2, 1) := by decide +kernel
theorem dX12_skills_93 : decode cX12_skills 93 = .ok (.iconst 0, 1) := by decide +kernel
theorem dX12_skills_94 : decode cX12_skills 94 = .ok (.istore_n 3, 1) := by decide +kernel
theorem dX12_skills_95 : decode cX12_skills 95 = .ok (.iload_n 3, 1) := by decide +kernel
theorem dX12_skills_96 : decode cX12_skills 96 = .ok (.bipush 10, 2) := by decide +kernel
theorem dX12_skills_98 : decode cX12_skills 98 = .ok (.if_icmp .ge 28, 3) := by decide +kernel
theorem dX12_skills_101 : decode cX12_skills 101 = .ok (.iload_n 2, 1) := by decide +kernel
theorem dX12_skills_102 : decode cX12_skills 102 = .ok (.aload_n 0, 1) := by decide +kernel
theorem dX12_skills_103 : decode cX12_skills 103 = .ok (.iload_n 1, 1) := by decide +kernel
theorem dX12_skills_104 : decode cX12_skills 104 = .ok (.iload_n 3, 1) := by decide +kernel
theorem dX12_skills_105 : decode cX12_skills 105 = .ok (.invokevirtual 513, 3) := by decide +kernel
theorem dX12_skills_108 : decode cX12_skills 108 = .ok (.ifCond .eq 9, 3) := by decide +kernel
theorem dX12_skills_111 : decode cX12_skills 111 = .ok (.iconst 1, 1) := by decide +kernel
theorem dX12_skills_112 : decode cX12_skills 112 = .ok (.iload_n 3, 1) := by decide +kernel
theorem dX12_skills_113 : decode cX12_skills 113 = .ok (.ishl, 1) := by decide +kernel
theorem dX12_skills_114 : decode cX12_skills 114 = .ok (.goto 4, 3) := by decide +kernel
theorem dX12_skills_117 : decode cX12_skills 117 = .ok (.iconst 0, 1) := by decide +kernel
theorem dX12_skills_118 : decode cX12_skills 118 = .ok (.ior, 1) := by decide +kernel
theorem dX12_skills_119 : decode cX12_skills 119 = .ok (.istore_n 2, 1) := by decide +kernel
theorem dX12_skills_120 : decode cX12_skills 120 = .ok (.iinc 3 1, 3) := by decide +kernel
theorem dX12_skills_123 : decode cX12_skills 123 = .ok (.goto (-28), 3) := by decide +kernel
theorem dX12_skills_126 : decode cX12_skills 126 = .ok (.aload_n 0, 1) := by decide +kernel
theorem dX12_skills_127 : decode cX12_skills 127 = .ok (.invokevirtual 344, 3) := by decide +kernel
theorem dX12_skills_130 : decode cX12_skills 130 = .ok (.iload_n 2, 1) := by decide +kernel
theorem dX12_skills_131 : decode cX12_skills 131 = .ok (.ireturn, 1) := by decide +kernel
theorem dX12_chance_0 : decode cX12_chance 0 = .ok (.aload_n 0, 1) := by decide +kernel
theorem dX12_chance_1 : decode cX12_chance 1 = .ok (.iconst 0, 1) := by decide +kernel
theorem dX12_chance_2 : decode cX12_chance 2 = .ok (.putfield 145, 3) := by decide +kernel
theorem dX12_chance_5 : decode cX12_chance 5 = .ok (.iload_n 1, 1) := by decide +kernel
theorem dX12_chance_6 : decode cX12_chance 6 = .ok (.ifCond .lt 24, 3) := by decide +kernel
theorem dX12_chance_9 : decode cX12_chance 9 = .ok (.iload_n 2, 1) := by decide +kernel
theorem dX12_chance_10 : decode cX12_chance 10 = .ok (.iconst 1, 1) := by decide +kernel
theorem dX12_chance_11 : decode cX12_chance 11 = .ok (.bipush 99, 2) := by decide +kernel
theorem dX12_chance_13 : decode cX12_chance 13 = .ok (.invokestatic 190, 3) := by decide +kernel
theorem dX12_chance_16 : decode cX12_chance 16 = .ok (.ifCond .eq 14, 3) := by decide +kernel
theorem dX12_chance_19 : decode cX12_chance 19 = .ok (.iload_n 3, 1) := by decide +kernel
theorem dX12_chance_20 : decode cX12_chance 20 = .ok (.iconst 0, 1) := by decide +kernel
theorem dX12_chance_21 : decode cX12_chance 21 = .ok (.sipush 999, 3) := by decide +kernel
theorem dX12_chance_24 : decode cX12_chance 24 = .ok (.invokestatic 190, 3) := by decide +kernel
theorem dX12_chance_27 : decode cX12_chance 27 = .ok (.ifCond .ne 5, 3) := by decide +kernel
theorem dX12_chance_30 : decode cX12_chance 30 = .ok (.iconst (-1), 1) := by decide +kernel
theorem dX12_chance_31 : decode cX12_chance 31 = .ok (.ireturn, 1) := by decide +kernel
theorem dX12_chance_32 : decode cX12_chance 32 = .ok (.aload_n 0, 1) := by decide +kernel
theorem dX12_chance_33 : decode cX12_chance 33 = .ok (.getfield 340, 3) := by decide +kernel
theorem dX12_chance_36 : decode cX12_chance 36 = .ok (.lstore 4, 2) := by decide +kernel
theorem dX12_chance_38 : decode cX12_chance 38 = .ok (.aload_n 0, 1) := by decide +kernel
theorem dX12_chance_39 : decode cX12_chance 39 = .ok (.iload_n 1, 1) := by decide +kernel
theorem dX12_chance_40 : decode cX12_chance 40 = .ok (.i2l, 1) := by decide +kernel
theorem dX12_chance_41 : decode cX12_chance 41 = .ok (.putfield 340, 3) := by decide +kernel
theorem dX12_chance_44 : decode cX12_chance 44 = .ok (.iconst 0, 1) := by decide +kernel
theorem dX12_chance_45 : decode cX12_chance 45 = .ok (.istore 6, 2) := by decide +kernel
theorem dX12_chance_47 : decode cX12_chance 47 = .ok (.iconst 0, 1) := by decide +kernel
theorem dX12_chance_48 : decode cX12_chance 48 = .ok (.istore 7, 2) := by decide +kernel
theorem dX12_chance_50 : decode cX12_chance 50 = .ok (.iload 7, 2) := by decide +kernel
theorem dX12_chance_52 : decode cX12_chance 52 = .ok (.bipush 10, 2) := by decide +kernel
theorem dX12_chance_54 : decode cX12_chance 54 = .ok (.if_icmp .ge 48, 3) := by decide +kernel
theorem dX12_chance_57 : decode cX12_chance 57 = .ok (.aload_n 0, 1) := by decide +kernel
theorem dX12_chance_58 : decode cX12_chance 58 = .ok (.invokevirtual 474, 3) := by decide +kernel
theorem dX12_chance_61 : decode cX12_chance 61 = .ok (.aload_n 0, 1) := by decide +kernel
theorem dX12_chance_62 : decode cX12_chance 62 = .ok (.iconst 1, 1) := by decide +kernel
theorem dX12_chance_63 : decode cX12_chance 63 = .ok (.putfield 356, 3) := by decide +kernel
theorem dX12_chance_66 : decode cX12_chance 66 = .ok (.aload_n 0, 1) := by decide +kernel
theorem dX12_chance_67 : decode cX12_chance 67 = .ok (.iload_n 2, 1) := by decide +kernel
theorem dX12_chance_68 : decode cX12_chance 68 = .ok (.invokevirtual 477, 3) := by decide +kernel
theorem dX12_chance_71 : decode cX12_chance 71 = .ok (.iload 6, 2) := by decide +kernel
theorem dX12_chance_73 : decode cX12_chance 73 = .ok (.aload_n 0, 1) := by decide +kernel
theorem dX12_chance_74 : decode cX12_chance 74 = .ok (.iconst 1, 1) := by decide +kernel
theorem dX12_chance_75 : decode cX12_chance 75 = .ok (.invokevirtual 448, 3) := by decide +kernel
theorem dX12_chance_78 : decode cX12_chance 78 = .ok (.aload_n 0, 1) := by decide +kernel
theorem dX12_chance_79 : decode cX12_chance 79 = .ok (.iconst 0, 1) := by decide +kernel
theorem dX12_chance_80 : decode cX12_chance 80 = .ok (.invokevirtual 448, 3) := by decide +kernel
theorem dX12_chance_83 : decode cX12_chance 83 = .ok (.isub, 1) := by decide +kernel
theorem dX12_chance_84 : decode cX12_chance 84 = .ok (.iload_n 3, 1) := by decide +kernel
theorem dX12_chance_85 : decode cX12_chance 85 = .ok (.if_icmp .lt 7, 3) := by decide +kernel
theorem dX12_chance_88 : decode cX12_chance 88 = .ok (.iconst 1, 1) := by decide +kernel
theorem dX12_chance_89 : decode cX12_chance 89 = .ok (.goto 4, 3) := by decide +kernel
theorem dX12_chance_92 : decode cX12_chance 92 = .ok (.iconst 0, 1) := by decide +kernel
theorem dX12_chance_93 : decode cX12_chance 93 = .ok (.iadd, 1) := by decide +kernel
theorem dX12_chance_94 : decode cX12_chance 94 = .ok (.istore 6, 2) := by decide +kernel
theorem dX12_chance_96 : decode cX12_chance 96 = .ok (.iinc 7 1, 3) := by decide +kernel
theorem dX12_chance_99 : decode cX12_chance 99 = .ok (.goto (-49), 3) := by decide +kernel
theorem dX12_chance_102 : decode cX12_chance 102 = .ok (.aload_n 0, 1) := by decide +kernel
theorem dX12_chance_103 : decode cX12_chance 103 = .ok (.iconst 0, 1) := by decide +kernel
theorem dX12_chance_104 : decode cX12_chance 104 = .ok (.putfield 356, 3) := by decide +kernel
theorem dX12_chance_107 : decode cX12_chance 107 = .ok (.aload_n 0, 1) := by decide +kernel
theorem dX12_chance_108 : decode cX12_chance 108 = .ok (.lload 4, 2) := by decide +kernel
theorem dX12_chance_110 : decode cX12_chance 110 = .ok (.putfield 340, 3) := by decide +kernel
theorem dX12_chance_113 : decode cX12_chance 113 = .ok (.iload 6, 2) := by decide +kernel
theorem dX12_chance_115 : decode cX12_chance 115 = .ok (.ireturn, 1) := by decide +kernel
theorem dX12_tried_0 : decode cX12_tried 0 = .ok (.aload_n 0, 1) := by decide +kernel
theorem dX12_tried_1 : decode cX12_tried 1 = .ok (.iconst 0, 1) := by decide +kernel
theorem dX12_tried_2 : decode cX12_tried 2 = .ok (.putfield 145, 3) := by decide +kernel
theorem dX12_tried_5 : decode cX12_tried 5 = .ok (.iload_n 1, 1) := by decide +kernel
theorem dX12_tried_6 : decode cX12_tried 6 = .ok (.iconst 0, 1) := by decide +kernel
theorem dX12_tried_7 : decode cX12_tried 7 = .ok (.iconst 4, 1) := by decide +kernel
theorem dX12_tried_8 : decode cX12_tried 8 = .ok (.invokestatic 190, 3) := by decide +kernel
theorem dX12_tried_11 : decode cX12_tried 11 = .ok (.ifCond .eq 33, 3) := by decide +kernel
theorem dX12_tried_14 : decode cX12_tried 14 = .ok (.iload_n 3, 1) := by decide +kernel
theorem dX12_tried_15 : decode cX12_tried 15 = .ok (.iconst 0, 1) := by decide +kernel
theorem dX12_tried_16 : decode cX12_tried 16 = .ok (.bipush 99, 2) := by decide +kernel
theorem dX12_tried_18 : decode cX12_tried 18 = .ok (.invokestatic 190, 3) := by decide +kernel
theorem dX12_tried_21 : decode cX12_tried 21 = .ok (.ifCond .eq 23, 3) := by decide +kernel
theorem dX12_tried_24 : decode cX12_tried 24 = .ok (.iload_n 1, 1) := by decide +kernel
theorem dX12_tried_25 : decode cX12_tried 25 = .ok (.iconst 2, 1) := by decide +kernel
theorem dX12_tried_26 : decode cX12_tried 26 = .ok (.if_icmp .ne 14, 3) := by decide +kernel
theorem dX12_tried_29 : decode cX12_tried 29 = .ok (.aload_n 0, 1) := by decide +kernel
theorem dX12_tried_30 : decode cX12_tried 30 = .ok (.iload_n 2, 1) := by decide +kernel
theorem dX12_tried_31 : decode cX12_tried 31 = .ok (.invokevirtual 460, 3) := by decide +kernel
theorem dX12_tried_34 : decode cX12_tried 34 = .ok (.ifCond .ne 12, 3) := by decide +kernel
theorem dX12_tried_37 : decode cX12_tried 37 = .ok (.goto 7, 3) := by decide +kernel
theorem dX12_tried_40 : decode cX12_tried 40 = .ok (.iload_n 2, 1) := by decide +kernel
theorem dX12_tried_41 : decode cX12_tried 41 = .ok (.ifCond .eq 5, 3) := by decide +kernel
theorem dX12_tried_44 : decode cX12_tried 44 = .ok (.iconst (-1), 1) := by decide +kernel
theorem dX12_tried_45 : decode cX12_tried 45 = .ok (.ireturn, 1) := by decide +kernel
theorem dX12_tried_46 : decode cX12_tried 46 = .ok (.aload_n 0, 1) := by decide +kernel
theorem dX12_tried_47 : decode cX12_tried 47 = .ok (.invokevirtual 474, 3) := by decide +kernel
theorem dX12_tried_50 : decode cX12_tried 50 = .ok (.aload_n 0, 1) := by decide +kernel
theorem dX12_tried_51 : decode cX12_tried 51 = .ok (.iload_n 1, 1) := by decide +kernel
theorem dX12_tried_52 : decode cX12_tried 52 = .ok (.ifCond .ne 7, 3) := by decide +kernel
theorem dX12_tried_55 : decode cX12_tried 55 = .ok (.iconst 1, 1) := by decide +kernel
theorem dX12_tried_56 : decode cX12_tried 56 = .ok (.goto 4, 3) := by decide +kernel
theorem dX12_tried_59 : decode cX12_tried 59 = .ok (.iconst 0, 1) := by decide +kernel
theorem dX12_tried_60 : decode cX12_tried 60 = .ok (.putfield 359, 3) := by decide +kernel
theorem dX12_tried_63 : decode cX12_tried 63 = .ok (.aload_n 0, 1) := by decide +kernel
theorem dX12_tried_64 : decode cX12_tried 64 = .ok (.iload_n 1, 1) := by decide +kernel
theorem dX12_tried_65 : decode cX12_tried 65 = .ok (.iconst 2, 1) := by decide +kernel
theorem dX12_tried_66 : decode cX12_tried 66 = .ok (.if_icmp .ne 7, 3) := by decide +kernel
theorem dX12_tried_69 : decode cX12_tried 69 = .ok (.iload_n 2, 1) := by decide +kernel
theorem dX12_tried_70 : decode cX12_tried 70 = .ok (.goto 4, 3) := by decide +kernel
theorem dX12_tried_73 : decode cX12_tried 73 = .ok (.iconst (-1), 1) := by decide +kernel
theorem dX12_tried_74 : decode cX12_tried 74 = .ok (.putfield 371, 3) := by decide +kernel
theorem dX12_tried_77 : decode cX12_tried 77 = .ok (.aload_n 0, 1) := by decide +kernel
theorem dX12_tried_78 : decode cX12_tried 78 = .ok (.iload_n 1, 1) := by decide +kernel
theorem dX12_tried_79 : decode cX12_tried 79 = .ok (.iconst 3, 1) := by decide +kernel
theorem dX12_tried_80 : decode cX12_tried 80 = .ok (.if_icmp .ne 7, 3) := by decide +kernel
theorem dX12_tried_83 : decode cX12_tried 83 = .ok (.iconst 1, 1) := by decide +kernel
theorem dX12_tried_84 : decode cX12_tried 84 = .ok (.goto 4, 3) := by decide +kernel
theorem dX12_tried_87 : decode cX12_tried 87 = .ok (.iconst 0, 1) := by decide +kernel
theorem dX12_tried_88 : decode cX12_tried 88 = .ok (.putfield 362, 3) := by decide +kernel
theorem dX12_tried_91 : decode cX12_tried 91 = .ok (.aload_n 0, 1) := by decide +kernel
theorem dX12_tried_92 : decode cX12_tried 92 = .ok (.iload_n 1, 1) := by decide +kernel
theorem dX12_tried_93 : decode cX12_tried 93 = .ok (.iconst 4, 1) := by decide +kernel
theorem dX12_tried_94 : decode cX12_tried 94 = .ok (.if_icmp .ne 7, 3) := by decide +kernel
theorem dX12_tried_97 : decode cX12_tried 97 = .ok (.iconst 1, 1) := by decide +kernel
theorem dX12_tried_98 : decode cX12_tried 98 = .ok (.goto 4, 3) := by decide +kernel
theorem dX12_tried_101 : decode cX12_tried 101 = .ok (.iconst 0, 1) := by decide +kernel
theorem dX12_tried_102 : decode cX12_tried 102 = .ok (.putfield 365, 3) := by decide +kernel
theorem dX12_tried_105 : decode cX12_tried 105 = .ok (.iconst 0, 1) := by decide +kernel
theorem dX12_tried_106 : decode cX12_tried 106 = .ok (.istore 4, 2) := by decide +kernel
theorem dX12_tried_108 : decode cX12_tried 108 = .ok (.iload 4, 2) := by decide +kernel
theorem dX12_tried_110 : decode cX12_tried 110 = .ok (.bipush 6, 2) := by decide +kernel
theorem dX12_tried_112 : decode cX12_tried 112 = .ok (.if_icmp .ge 25, 3) := by decide +kernel
theorem dX12_tried_115 : decode cX12_tried 115 = .ok (.iload_n 1, 1) := by decide +kernel
theorem dX12_tried_116 : decode cX12_tried 116 = .ok (.iconst 1, 1) := by decide +kernel
theorem dX12_tried_117 : decode cX12_tried 117 = .ok (.if_icmp .ne 20, 3) := by decide +kernel
theorem dX12_tried_120 : decode cX12_tried 120 = .ok (.aload_n 0, 1) := by decide +kernel
theorem dX12_tried_121 : decode cX12_tried 121 = .ok (.getfield 106, 3) := by decide +kernel
theorem dX12_tried_124 : decode cX12_tried 124 = .ok (.bipush 6, 2) := by decide +kernel
theorem dX12_tried_126 : decode cX12_tried 126 = .ok (.iload 4, 2) := by decide +kernel
theorem dX12_tried_128 : decode cX12_tried 128 = .ok (.iadd, 1) := by decide +kernel
theorem dX12_tried_129 : decode cX12_tried 129 = .ok (.iconst 0, 1) := by decide +kernel
theorem dX12_tried_130 : decode cX12_tried 130 = .ok (.iastore, 1) := by decide +kernel
theorem dX12_tried_131 : decode cX12_tried 131 = .ok (.iinc 4 1, 3) := by decide +kernel
theorem dX12_tried_134 : decode cX12_tried 134 = .ok (.goto (-26), 3) := by decide +kernel
theorem dX12_tried_137 : decode cX12_tried 137 = .ok (.aload_n 0, 1) := by decide +kernel
theorem dX12_tried_138 : decode cX12_tried 138 = .ok (.iload_n 3, 1) := by decide +kernel
theorem dX12_tried_139 : decode cX12_tried 139 = .ok (.invokevirtual 477, 3) := by decide +kernel
theorem dX12_tried_142 : decode cX12_tried 142 = .ok (.aload_n 0, 1) := by decide +kernel
theorem dX12_tried_143 : decode cX12_tried 143 = .ok (.invokevirtual 344, 3) := by decide +kernel
theorem dX12_tried_146 : decode cX12_tried 146 = .ok (.aload_n 0, 1) := by decide +kernel
theorem dX12_tried_147 : decode cX12_tried 147 = .ok (.iconst 1, 1) := by decide +kernel
theorem dX12_tried_148 : decode cX12_tried 148 = .ok (.invokevirtual 448, 3) := by decide +kernel
theorem dX12_tried_151 : decode cX12_tried 151 = .ok (.aload_n 0, 1) := by decide +kernel
theorem dX12_tried_152 : decode cX12_tried 152 = .ok (.iconst 0, 1) := by decide +kernel
theorem dX12_tried_153 : decode cX12_tried 153 = .ok (.invokevirtual 448, 3) := by decide +kernel
theorem dX12_tried_156 : decode cX12_tried 156 = .ok (.isub, 1) := by decide +kernel
theorem dX12_tried_157 : decode cX12_tried 157 = .ok (.ireturn, 1) := by decide +kernel
theorem dX12_put_0 : decode cX12_put 0 = .ok (.iconst 0, 1) := by decide +kernel
theorem dX12_put_1 : decode cX12_put 1 = .ok (.istore_n 3, 1) := by decide +kernel
theorem dX12_put_2 : decode cX12_put 2 = .ok (.iload_n 3, 1) := by decide +kernel
theorem dX12_put_3 : decode cX12_put 3 = .ok (.bipush 12, 2) := by decide +kernel
theorem dX12_put_5 : decode cX12_put 5 = .ok (.if_icmp .ge 20, 3) := by decide +kernel
theorem dX12_put_8 : decode cX12_put 8 = .ok (.aload_n 1, 1) := by decide +kernel
theorem dX12_put_9 : decode cX12_put 9 = .ok (.iload_n 2, 1) := by decide +kernel
theorem dX12_put_10 : decode cX12_put 10 = .ok (.iload_n 3, 1) := by decide +kernel
theorem dX12_put_11 : decode cX12_put 11 = .ok (.iadd, 1) := by decide +kernel
theorem dX12_put_12 : decode cX12_put 12 = .ok (.aload_n 0, 1) := by decide +kernel
theorem dX12_put_13 : decode cX12_put 13 = .ok (.getfield 91, 3) := by decide +kernel
theorem dX12_put_16 : decode cX12_put 16 = .ok (.iload_n 3, 1) := by decide +kernel
theorem dX12_put_17 : decode cX12_put 17 = .ok (.iaload, 1) := by decide +kernel
theorem dX12_put_18 : decode cX12_put 18 = .ok (.iastore, 1) := by decide +kernel
theorem dX12_put_19 : decode cX12_put 19 = .ok (.iinc 3 1, 3) := by decide +kernel
theorem dX12_put_22 : decode cX12_put 22 = .ok (.goto (-20), 3) := by decide +kernel
theorem dX12_put_25 : decode cX12_put 25 = .ok (.iconst 0, 1) := by decide +kernel
theorem dX12_put_26 : decode cX12_put 26 = .ok (.istore_n 3, 1) := by decide +kernel
theorem dX12_put_27 : decode cX12_put 27 = .ok (.iload_n 3, 1) := by decide +kernel
theorem dX12_put_28 : decode cX12_put 28 = .ok (.bipush 6, 2) := by decide +kernel
theorem dX12_put_30 : decode cX12_put 30 = .ok (.if_icmp .ge 51, 3) := by decide +kernel
theorem dX12_put_33 : decode cX12_put 33 = .ok (.aload_n 1, 1) := by decide +kernel
theorem dX12_put_34 : decode cX12_put 34 = .ok (.iload_n 2, 1) := by decide +kernel
theorem dX12_put_35 : decode cX12_put 35 = .ok (.bipush 12, 2) := by decide +kernel
theorem dX12_put_37 : decode cX12_put 37 = .ok (.iadd, 1) := by decide +kernel
theorem dX12_put_38 : decode cX12_put 38 = .ok (.iload_n 3, 1) := by decide +kernel
theorem dX12_put_39 : decode cX12_put 39 = .ok (.iadd, 1) := by decide +kernel
theorem dX12_put_40 : decode cX12_put 40 = .ok (.aload_n 0, 1) := by decide +kernel
theorem dX12_put_41 : decode cX12_put 41 = .ok (.getfield 97, 3) := by decide +kernel
theorem dX12_put_44 : decode cX12_put 44 = .ok (.iload_n 3, 1) := by decide +kernel
theorem dX12_put_45 : decode cX12_put 45 = .ok (.iaload, 1) := by decide +kernel
theorem dX12_put_46 : decode cX12_put 46 = .ok (.iastore, 1) := by decide +kernel
theorem dX12_put_47 : decode cX12_put 47 = .ok (.aload_n 1, 1) := by decide +kernel
theorem dX12_put_48 : decode cX12_put 48 = .ok (.iload_n 2, 1) := by decide +kernel
theorem dX12_put_49 : decode cX12_put 49 = .ok (.bipush 18, 2) := by decide +kernel
theorem dX12_put_51 : decode cX12_put 51 = .ok (.iadd, 1) := by decide +kernel
theorem dX12_put_52 : decode cX12_put 52 = .ok (.iload_n 3, 1) := by decide +kernel
theorem dX12_put_53 : decode cX12_put 53 = .ok (.iadd, 1) := by decide +kernel
theorem dX12_put_54 : decode cX12_put 54 = .ok (.aload_n 0, 1) := by decide +kernel
theorem dX12_put_55 : decode cX12_put 55 = .ok (.getfield 106, 3) := by decide +kernel
theorem dX12_put_58 : decode cX12_put 58 = .ok (.iload_n 3, 1) := by decide +kernel
theorem dX12_put_59 : decode cX12_put 59 = .ok (.iaload, 1) := by decide +kernel
theorem dX12_put_60 : decode cX12_put 60 = .ok (.iastore, 1) := by decide +kernel
theorem dX12_put_61 : decode cX12_put 61 = .ok (.aload_n 1, 1) := by decide +kernel
theorem dX12_put_62 : decode cX12_put 62 = .ok (.iload_n 2, 1) := by decide +kernel
theorem dX12_put_63 : decode cX12_put 63 = .ok (.bipush 24, 2) := by decide +kernel
theorem dX12_put_65 : decode cX12_put 65 = .ok (.iadd, 1) := by decide +kernel
theorem dX12_put_66 : decode cX12_put 66 = .ok (.iload_n 3, 1) := by decide +kernel
theorem dX12_put_67 : decode cX12_put 67 = .ok (.iadd, 1) := by decide +kernel
theorem dX12_put_68 : decode cX12_put 68 = .ok (.aload_n 0, 1) := by decide +kernel
theorem dX12_put_69 : decode cX12_put 69 = .ok (.getfield 109, 3) := by decide +kernel
theorem dX12_put_72 : decode cX12_put 72 = .ok (.iload_n 3, 1) := by decide +kernel
theorem dX12_put_73 : decode cX12_put 73 = .ok (.iaload, 1) := by decide +kernel
theorem dX12_put_74 : decode cX12_put 74 = .ok (.iastore, 1) := by decide +kernel
theorem dX12_put_75 : decode cX12_put 75 = .ok (.iinc 3 1, 3) := by decide +kernel
theorem dX12_put_78 : decode cX12_put 78 = .ok (.goto (-51), 3) := by decide +kernel
theorem dX12_put_81 : decode cX12_put 81 = .ok (.aload_n 1, 1) := by decide +kernel
theorem dX12_put_82 : decode cX12_put 82 = .ok (.iload_n 2, 1) := by decide +kernel
theorem dX12_put_83 : decode cX12_put 83 = .ok (.bipush 30, 2) := by decide +kernel
theorem dX12_put_85 : decode cX12_put 85 = .ok (.iadd, 1) := by decide +kernel
theorem dX12_put_86 : decode cX12_put 86 = .ok (.aload_n 0, 1) := by decide +kernel
theorem dX12_put_87 : decode cX12_put 87 = .ok (.getfield 112, 3) := by decide +kernel
theorem dX12_put_90 : decode cX12_put 90 = .ok (.iconst 0, 1) := by decide +kernel
theorem dX12_put_91 : decode cX12_put 91 = .ok (.iaload, 1) := by decide +kernel
theorem dX12_put_92 : decode cX12_put 92 = .ok (.iastore, 1) := by decide +kernel
theorem dX12_put_93 : decode cX12_put 93 = .ok (.return_, 1) := by decide +kernel
theorem dX12_take_0 : decode cX12_take 0 = .ok (.iconst 0, 1) := by decide +kernel
theorem dX12_take_1 : decode cX12_take 1 = .ok (.istore_n 3, 1) := by decide +kernel
theorem dX12_take_2 : decode cX12_take 2 = .ok (.iload_n 3, 1) := by decide +kernel
theorem dX12_take_3 : decode cX12_take 3 = .ok (.bipush 12, 2) := by decide +kernel
theorem dX12_take_5 : decode cX12_take 5 = .ok (.if_icmp .ge 20, 3) := by decide +kernel
theorem dX12_take_8 : decode cX12_take 8 = .ok (.aload_n 0, 1) := by decide +kernel
theorem dX12_take_9 : decode cX12_take 9 = .ok (.getfield 91, 3) := by decide +kernel
theorem dX12_take_12 : decode cX12_take 12 = .ok (.iload_n 3, 1) := by decide +kernel
theorem dX12_take_13 : decode cX12_take 13 = .ok (.aload_n 1, 1) := by decide +kernel
theorem dX12_take_14 : decode cX12_take 14 = .ok (.iload_n 2, 1) := by decide +kernel
theorem dX12_take_15 : decode cX12_take 15 = .ok (.iload_n 3, 1) := by decide +kernel
theorem dX12_take_16 : decode cX12_take 16 = .ok (.iadd, 1) := by decide +kernel
theorem dX12_take_17 : decode cX12_take 17 = .ok (.iaload, 1) := by decide +kernel
theorem dX12_take_18 : decode cX12_take 18 = .ok (.iastore, 1) := by decide +kernel
theorem dX12_take_19 : decode cX12_take 19 = .ok (.iinc 3 1, 3) := by decide +kernel
theorem dX12_take_22 : decode cX12_take 22 = .ok (.goto (-20), 3) := by decide +kernel
theorem dX12_take_25 : decode cX12_take 25 = .ok (.iconst 0, 1) := by decide +kernel
theorem dX12_take_26 : decode cX12_take 26 = .ok (.istore_n 3, 1) := by decide +kernel
theorem dX12_take_27 : decode cX12_take 27 = .ok (.iload_n 3, 1) := by decide +kernel
theorem dX12_take_28 : decode cX12_take 28 = .ok (.bipush 6, 2) := by decide +kernel
theorem dX12_take_30 : decode cX12_take 30 = .ok (.if_icmp .ge 51, 3) := by decide +kernel
theorem dX12_take_33 : decode cX12_take 33 = .ok (.aload_n 0, 1) := by decide +kernel
theorem dX12_take_34 : decode cX12_take 34 = .ok (.getfield 97, 3) := by decide +kernel
theorem dX12_take_37 : decode cX12_take 37 = .ok (.iload_n 3, 1) := by decide +kernel
theorem dX12_take_38 : decode cX12_take 38 = .ok (.aload_n 1, 1) := by decide +kernel
theorem dX12_take_39 : decode cX12_take 39 = .ok (.iload_n 2, 1) := by decide +kernel
theorem dX12_take_40 : decode cX12_take 40 = .ok (.bipush 12, 2) := by decide +kernel
theorem dX12_take_42 : decode cX12_take 42 = .ok (.iadd, 1) := by decide +kernel
theorem dX12_take_43 : decode cX12_take 43 = .ok (.iload_n 3, 1) := by decide +kernel
theorem dX12_take_44 : decode cX12_take 44 = .ok (.iadd, 1) := by decide +kernel
theorem dX12_take_45 : decode cX12_take 45 = .ok (.iaload, 1) := by decide +kernel
theorem dX12_take_46 : decode cX12_take 46 = .ok (.iastore, 1) := by decide +kernel
theorem dX12_take_47 : decode cX12_take 47 = .ok (.aload_n 0, 1) := by decide +kernel
theorem dX12_take_48 : decode cX12_take 48 = .ok (.getfield 106, 3) := by decide +kernel
theorem dX12_take_51 : decode cX12_take 51 = .ok (.iload_n 3, 1) := by decide +kernel
theorem dX12_take_52 : decode cX12_take 52 = .ok (.aload_n 1, 1) := by decide +kernel
theorem dX12_take_53 : decode cX12_take 53 = .ok (.iload_n 2, 1) := by decide +kernel
theorem dX12_take_54 : decode cX12_take 54 = .ok (.bipush 18, 2) := by decide +kernel
theorem dX12_take_56 : decode cX12_take 56 = .ok (.iadd, 1) := by decide +kernel
theorem dX12_take_57 : decode cX12_take 57 = .ok (.iload_n 3, 1) := by decide +kernel
theorem dX12_take_58 : decode cX12_take 58 = .ok (.iadd, 1) := by decide +kernel
theorem dX12_take_59 : decode cX12_take 59 = .ok (.iaload, 1) := by decide +kernel
theorem dX12_take_60 : decode cX12_take 60 = .ok (.iastore, 1) := by decide +kernel
theorem dX12_take_61 : decode cX12_take 61 = .ok (.aload_n 0, 1) := by decide +kernel
theorem dX12_take_62 : decode cX12_take 62 = .ok (.getfield 109, 3) := by decide +kernel
theorem dX12_take_65 : decode cX12_take 65 = .ok (.iload_n 3, 1) := by decide +kernel
theorem dX12_take_66 : decode cX12_take 66 = .ok (.aload_n 1, 1) := by decide +kernel
theorem dX12_take_67 : decode cX12_take 67 = .ok (.iload_n 2, 1) := by decide +kernel
theorem dX12_take_68 : decode cX12_take 68 = .ok (.bipush 24, 2) := by decide +kernel
theorem dX12_take_70 : decode cX12_take 70 = .ok (.iadd, 1) := by decide +kernel
theorem dX12_take_71 : decode cX12_take 71 = .ok (.iload_n 3, 1) := by decide +kernel
theorem dX12_take_72 : decode cX12_take 72 = .ok (.iadd, 1) := by decide +kernel
theorem dX12_take_73 : decode cX12_take 73 = .ok (.iaload, 1) := by decide +kernel
theorem dX12_take_74 : decode cX12_take 74 = .ok (.iastore, 1) := by decide +kernel
theorem dX12_take_75 : decode cX12_take 75 = .ok (.iinc 3 1, 3) := by decide +kernel
theorem dX12_take_78 : decode cX12_take 78 = .ok (.goto (-51), 3) := by decide +kernel
theorem dX12_take_81 : decode cX12_take 81 = .ok (.aload_n 0, 1) := by decide +kernel
theorem dX12_take_82 : decode cX12_take 82 = .ok (.getfield 112, 3) := by decide +kernel
theorem dX12_take_85 : decode cX12_take 85 = .ok (.iconst 0, 1) := by decide +kernel
theorem dX12_take_86 : decode cX12_take 86 = .ok (.aload_n 1, 1) := by decide +kernel
theorem dX12_take_87 : decode cX12_take 87 = .ok (.iload_n 2, 1) := by decide +kernel
theorem dX12_take_88 : decode cX12_take 88 = .ok (.bipush 30, 2) := by decide +kernel
theorem dX12_take_90 : decode cX12_take 90 = .ok (.iadd, 1) := by decide +kernel
theorem dX12_take_91 : decode cX12_take 91 = .ok (.iaload, 1) := by decide +kernel
theorem dX12_take_92 : decode cX12_take 92 = .ok (.iastore, 1) := by decide +kernel
theorem dX12_take_93 : decode cX12_take 93 = .ok (.return_, 1) := by decide +kernel
theorem dX12_remember_0 : decode cX12_remember 0 = .ok (.aload_n 0, 1) := by decide +kernel
theorem dX12_remember_1 : decode cX12_remember 1 = .ok (.getfield 350, 3) := by decide +kernel
theorem dX12_remember_4 : decode cX12_remember 4 = .ok (.bipush 20, 2) := by decide +kernel
theorem dX12_remember_6 : decode cX12_remember 6 = .ok (.if_icmp .ne 43, 3) := by decide +kernel
theorem dX12_remember_9 : decode cX12_remember 9 = .ok (.iconst 0, 1) := by decide +kernel
theorem dX12_remember_10 : decode cX12_remember 10 = .ok (.istore_n 1, 1) := by decide +kernel
theorem dX12_remember_11 : decode cX12_remember 11 = .ok (.iload_n 1, 1) := by decide +kernel
theorem dX12_remember_12 : decode cX12_remember 12 = .ok (.sipush 589, 3) := by decide +kernel
theorem dX12_remember_15 : decode cX12_remember 15 = .ok (.if_icmp .ge 24, 3) := by decide +kernel
theorem dX12_remember_18 : decode cX12_remember 18 = .ok (.aload_n 0, 1) := by decide +kernel
theorem dX12_remember_19 : decode cX12_remember 19 = .ok (.getfield 130, 3) := by decide +kernel
theorem dX12_remember_22 : decode cX12_remember 22 = .ok (.iload_n 1, 1) := by decide +kernel
theorem dX12_remember_23 : decode cX12_remember 23 = .ok (.aload_n 0, 1) := by decide +kernel
theorem dX12_remember_24 : decode cX12_remember 24 = .ok (.getfield 130, 3) := by decide +kernel
theorem dX12_remember_27 : decode cX12_remember 27 = .ok (.iload_n 1, 1) := by decide +kernel
theorem dX12_remember_28 : decode cX12_remember 28 = .ok (.bipush 31, 2) := by decide +kernel
theorem dX12_remember_30 : decode cX12_remember 30 = .ok (.iadd, 1) := by decide +kernel
theorem dX12_remember_31 : decode cX12_remember 31 = .ok (.iaload, 1) := by decide +kernel
theorem dX12_remember_32 : decode cX12_remember 32 = .ok (.iastore, 1) := by decide +kernel
theorem dX12_remember_33 : decode cX12_remember 33 = .ok (.iinc 1 1, 3) := by decide +kernel
theorem dX12_remember_36 : decode cX12_remember 36 = .ok (.goto (-25), 3) := by decide +kernel
theorem dX12_remember_39 : decode cX12_remember 39 = .ok (.aload_n 0, 1) := by decide +kernel
theorem dX12_remember_40 : decode cX12_remember 40 = .ok (.dup, 1) := by decide +kernel
theorem dX12_remember_41 : decode cX12_remember 41 = .ok (.getfield 350, 3) := by decide +kernel
theorem dX12_remember_44 : decode cX12_remember 44 = .ok (.iconst 1, 1) := by decide +kernel
theorem dX12_remember_45 : decode cX12_remember 45 = .ok (.isub, 1) := by decide +kernel
theorem dX12_remember_46 : decode cX12_remember 46 = .ok (.putfield 350, 3) := by decide +kernel
theorem dX12_remember_49 : decode cX12_remember 49 = .ok (.aload_n 0, 1) := by decide +kernel
theorem dX12_remember_50 : decode cX12_remember 50 = .ok (.aload_n 0, 1) := by decide +kernel
theorem dX12_remember_51 : decode cX12_remember 51 = .ok (.getfield 130, 3) := by decide +kernel
theorem dX12_remember_54 : decode cX12_remember 54 = .ok (.bipush 31, 2) := by decide +kernel
theorem dX12_remember_56 : decode cX12_remember 56 = .ok (.aload_n 0, 1) := by decide +kernel
theorem dX12_remember_57 : decode cX12_remember 57 = .ok (.getfield 350, 3) := by decide +kernel
theorem dX12_remember_60 : decode cX12_remember 60 = .ok (.imul, 1) := by decide +kernel
theorem dX12_remember_61 : decode cX12_remember 61 = .ok (.invokevirtual 516, 3) := by decide +kernel
theorem dX12_remember_64 : decode cX12_remember 64 = .ok (.aload_n 0, 1) := by decide +kernel
theorem dX12_remember_65 : decode cX12_remember 65 = .ok (.dup, 1) := by decide +kernel
theorem dX12_remember_66 : decode cX12_remember 66 = .ok (.getfield 350, 3) := by decide +kernel
theorem dX12_remember_69 : decode cX12_remember 69 = .ok (.iconst 1, 1) := by decide +kernel
theorem dX12_remember_70 : decode cX12_remember 70 = .ok (.iadd, 1) := by decide +kernel
theorem dX12_remember_71 : decode cX12_remember 71 = .ok (.putfield 350, 3) := by decide +kernel
theorem dX12_remember_74 : decode cX12_remember 74 = .ok (.return_, 1) := by decide +kernel
theorem dX12_undo_0 : decode cX12_undo 0 = .ok (.aload_n 0, 1) := by decide +kernel
theorem dX12_undo_1 : decode cX12_undo 1 = .ok (.iconst 0, 1) := by decide +kernel
theorem dX12_undo_2 : decode cX12_undo 2 = .ok (.putfield 145, 3) := by decide +kernel
theorem dX12_undo_5 : decode cX12_undo 5 = .ok (.aload_n 0, 1) := by decide +kernel
theorem dX12_undo_6 : decode cX12_undo 6 = .ok (.getfield 350, 3) := by decide +kernel
theorem dX12_undo_9 : decode cX12_undo 9 = .ok (.ifCond .ne 5, 3) := by decide +kernel
theorem dX12_undo_12 : decode cX12_undo 12 = .ok (.iconst (-1), 1) := by decide +kernel
theorem dX12_undo_13 : decode cX12_undo 13 = .ok (.ireturn, 1) := by decide +kernel
theorem dX12_undo_14 : decode cX12_undo 14 = .ok (.aload_n 0, 1) := by decide +kernel
theorem dX12_undo_15 : decode cX12_undo 15 = .ok (.dup, 1) := by decide +kernel
theorem dX12_undo_16 : decode cX12_undo 16 = .ok (.getfield 350, 3) := by decide +kernel
theorem dX12_undo_19 : decode cX12_undo 19 = .ok (.iconst 1, 1) := by decide +kernel
theorem dX12_undo_20 : decode cX12_undo 20 = .ok (.isub, 1) := by decide +kernel
theorem dX12_undo_21 : decode cX12_undo 21 = .ok (.putfield 350, 3) := by decide +kernel
theorem dX12_undo_24 : decode cX12_undo 24 = .ok (.aload_n 0, 1) := by decide +kernel
theorem dX12_undo_25 : decode cX12_undo 25 = .ok (.aload_n 0, 1) := by decide +kernel
theorem dX12_undo_26 : decode cX12_undo 26 = .ok (.getfield 130, 3) := by decide +kernel
theorem dX12_undo_29 : decode cX12_undo 29 = .ok (.bipush 31, 2) := by decide +kernel
theorem dX12_undo_31 : decode cX12_undo 31 = .ok (.aload_n 0, 1) := by decide +kernel
theorem dX12_undo_32 : decode cX12_undo 32 = .ok (.getfield 350, 3) := by decide +kernel
theorem dX12_undo_35 : decode cX12_undo 35 = .ok (.imul, 1) := by decide +kernel
theorem dX12_undo_36 : decode cX12_undo 36 = .ok (.invokevirtual 519, 3) := by decide +kernel
theorem dX12_undo_39 : decode cX12_undo 39 = .ok (.aload_n 0, 1) := by decide +kernel
theorem dX12_undo_40 : decode cX12_undo 40 = .ok (.getfield 350, 3) := by decide +kernel
theorem dX12_undo_43 : decode cX12_undo 43 = .ok (.ireturn, 1) := by decide +kernel
theorem dX12_keep_0 : decode cX12_keep 0 = .ok (.aload_n 0, 1) := by decide +kernel
theorem dX12_keep_1 : decode cX12_keep 1 = .ok (.iconst 0, 1) := by decide +kernel
theorem dX12_keep_2 : decode cX12_keep 2 = .ok (.putfield 145, 3) := by decide +kernel
theorem dX12_keep_5 : decode cX12_keep 5 = .ok (.aload_n 0, 1) := by decide +kernel
theorem dX12_keep_6 : decode cX12_keep 6 = .ok (.iconst 1, 1) := by decide +kernel
theorem dX12_keep_7 : decode cX12_keep 7 = .ok (.putfield 353, 3) := by decide +kernel
theorem dX12_keep_10 : decode cX12_keep 10 = .ok (.aload_n 0, 1) := by decide +kernel
theorem dX12_keep_11 : decode cX12_keep 11 = .ok (.aload_n 0, 1) := by decide +kernel
theorem dX12_keep_12 : decode cX12_keep 12 = .ok (.getfield 133, 3) := by decide +kernel
theorem dX12_keep_15 : decode cX12_keep 15 = .ok (.iconst 0, 1) := by decide +kernel
theorem dX12_keep_16 : decode cX12_keep 16 = .ok (.invokevirtual 516, 3) := by decide +kernel
theorem dX12_keep_19 : decode cX12_keep 19 = .ok (.iconst 0, 1) := by decide +kernel
theorem dX12_keep_20 : decode cX12_keep 20 = .ok (.istore_n 1, 1) := by decide +kernel
theorem dX12_keep_21 : decode cX12_keep 21 = .ok (.iload_n 1, 1) := by decide +kernel
theorem dX12_keep_22 : decode cX12_keep 22 = .ok (.bipush 12, 2) := by decide +kernel
theorem dX12_keep_24 : decode cX12_keep 24 = .ok (.if_icmp .ge 44, 3) := by decide +kernel
theorem dX12_keep_27 : decode cX12_keep 27 = .ok (.aload_n 0, 1) := by decide +kernel
theorem dX12_keep_28 : decode cX12_keep 28 = .ok (.getfield 136, 3) := by decide +kernel
theorem dX12_keep_31 : decode cX12_keep 31 = .ok (.iload_n 1, 1) := by decide +kernel
theorem dX12_keep_32 : decode cX12_keep 32 = .ok (.aload_n 0, 1) := by decide +kernel
theorem dX12_keep_33 : decode cX12_keep 33 = .ok (.getfield 88, 3) := by decide +kernel
theorem dX12_keep_36 : decode cX12_keep 36 = .ok (.iload_n 1, 1) := by decide +kernel
theorem dX12_keep_37 : decode cX12_keep 37 = .ok (.iaload, 1) := by decide +kernel
theorem dX12_keep_38 : decode cX12_keep 38 = .ok (.iastore, 1) := by decide +kernel
theorem dX12_keep_39 : decode cX12_keep 39 = .ok (.aload_n 0, 1) := by decide +kernel
theorem dX12_keep_40 : decode cX12_keep 40 = .ok (.getfield 136, 3) := by decide +kernel
theorem dX12_keep_43 : decode cX12_keep 43 = .ok (.bipush 12, 2) := by decide +kernel
theorem dX12_keep_45 : decode cX12_keep 45 = .ok (.iload_n 1, 1) := by decide +kernel
theorem dX12_keep_46 : decode cX12_keep 46 = .ok (.iadd, 1) := by decide +kernel
theorem dX12_keep_47 : decode cX12_keep 47 = .ok (.aload_n 0, 1) := by decide +kernel
theorem dX12_keep_48 : decode cX12_keep 48 = .ok (.getfield 94, 3) := by decide +kernel
theorem dX12_keep_51 : decode cX12_keep 51 = .ok (.iload_n 1, 1) := by decide +kernel
theorem dX12_keep_52 : decode cX12_keep 52 = .ok (.baload, 1) := by decide +kernel
theorem dX12_keep_53 : decode cX12_keep 53 = .ok (.ifCond .eq 7, 3) := by decide +kernel
theorem dX12_keep_56 : decode cX12_keep 56 = .ok (.iconst 1, 1) := by decide +kernel
theorem dX12_keep_57 : decode cX12_keep 57 = .ok (.goto 4, 3) := by decide +kernel
theorem dX12_keep_60 : decode cX12_keep 60 = .ok (.iconst 0, 1) := by decide +kernel
theorem dX12_keep_61 : decode cX12_keep 61 = .ok (.iastore, 1) := by decide +kernel
theorem dX12_keep_62 : decode cX12_keep 62 = .ok (.iinc 1 1, 3) := by decide +kernel
theorem dX12_keep_65 : decode cX12_keep 65 = .ok (.goto (-44), 3) := by decide +kernel
theorem dX12_keep_68 : decode cX12_keep 68 = .ok (.iconst 0, 1) := by decide +kernel
theorem dX12_keep_69 : decode cX12_keep 69 = .ok (.istore_n 1, 1) := by decide +kernel
theorem dX12_keep_70 : decode cX12_keep 70 = .ok (.iload_n 1, 1) := by decide +kernel
theorem dX12_keep_71 : decode cX12_keep 71 = .ok (.bipush 6, 2) := by decide +kernel
theorem dX12_keep_73 : decode cX12_keep 73 = .ok (.if_icmp .ge 39, 3) := by decide +kernel
theorem dX12_keep_76 : decode cX12_keep 76 = .ok (.aload_n 0, 1) := by decide +kernel
theorem dX12_keep_77 : decode cX12_keep 77 = .ok (.getfield 136, 3) := by decide +kernel
theorem dX12_keep_80 : decode cX12_keep 80 = .ok (.bipush 24, 2) := by decide +kernel
theorem dX12_keep_82 : decode cX12_keep 82 = .ok (.iload_n 1, 1) := by decide +kernel
theorem dX12_keep_83 : decode cX12_keep 83 = .ok (.iadd, 1) := by decide +kernel
theorem dX12_keep_84 : decode cX12_keep 84 = .ok (.aload_n 0, 1) := by decide +kernel
theorem dX12_keep_85 : decode cX12_keep 85 = .ok (.getfield 100, 3) := by decide +kernel
theorem dX12_keep_88 : decode cX12_keep 88 = .ok (.iload_n 1, 1) := by decide +kernel
theorem dX12_keep_89 : decode cX12_keep 89 = .ok (.iaload, 1) := by decide +kernel
theorem dX12_keep_90 : decode cX12_keep 90 = .ok (.iastore, 1) := by decide +kernel
theorem dX12_keep_91 : decode cX12_keep 91 = .ok (.aload_n 0, 1) := by decide +kernel
theorem dX12_keep_92 : decode cX12_keep 92 = .ok (.getfield 136, 3) := by decide +kernel
theorem dX12_keep_95 : decode cX12_keep 95 = .ok (.bipush 30, 2) := by decide +kernel
theorem dX12_keep_97 : decode cX12_keep 97 = .ok (.iload_n 1, 1) := by decide +kernel
theorem dX12_keep_98 : decode cX12_keep 98 = .ok (.iadd, 1) := by decide +kernel
theorem dX12_keep_99 : decode cX12_keep 99 = .ok (.aload_n 0, 1) := by decide +kernel
theorem dX12_keep_100 : decode cX12_keep 100 = .ok (.getfield 103, 3) := by decide +kernel
theorem dX12_keep_103 : decode cX12_keep 103 = .ok (.iload_n 1, 1) := by decide +kernel
theorem dX12_keep_104 : decode cX12_keep 104 = .ok (.iaload, 1) := by decide +kernel
theorem dX12_keep_105 : decode cX12_keep 105 = .ok (.iastore, 1) := by decide +kernel
theorem dX12_keep_106 : decode cX12_keep 106 = .ok (.iinc 1 1, 3) := by decide +kernel
theorem dX12_keep_109 : decode cX12_keep 109 = .ok (.goto (-39), 3) := by decide +kernel
theorem dX12_keep_112 : decode cX12_keep 112 = .ok (.aload_n 0, 1) := by decide +kernel
theorem dX12_keep_113 : decode cX12_keep 113 = .ok (.getfield 136, 3) := by decide +kernel
theorem dX12_keep_116 : decode cX12_keep 116 = .ok (.bipush 36, 2) := by decide +kernel
theorem dX12_keep_118 : decode cX12_keep 118 = .ok (.aload_n 0, 1) := by decide +kernel
theorem dX12_keep_119 : decode cX12_keep 119 = .ok (.getfield 115, 3) := by decide +kernel
theorem dX12_keep_122 : decode cX12_keep 122 = .ok (.iconst 0, 1) := by decide +kernel
theorem dX12_keep_123 : decode cX12_keep 123 = .ok (.iaload, 1) := by decide +kernel
theorem dX12_keep_124 : decode cX12_keep 124 = .ok (.iastore, 1) := by decide +kernel
theorem dX12_keep_125 : decode cX12_keep 125 = .ok (.aload_n 0, 1) := by decide +kernel
theorem dX12_keep_126 : decode cX12_keep 126 = .ok (.aload_n 0, 1) := by decide +kernel
theorem dX12_keep_127 : decode cX12_keep 127 = .ok (.getfield 340, 3) := by decide +kernel
theorem dX12_keep_130 : decode cX12_keep 130 = .ok (.putfield 522, 3) := by decide +kernel
theorem dX12_keep_133 : decode cX12_keep 133 = .ok (.aload_n 0, 1) := by decide +kernel
theorem dX12_keep_134 : decode cX12_keep 134 = .ok (.getfield 115, 3) := by decide +kernel
theorem dX12_keep_137 : decode cX12_keep 137 = .ok (.iconst 0, 1) := by decide +kernel
theorem dX12_keep_138 : decode cX12_keep 138 = .ok (.iaload, 1) := by decide +kernel
theorem dX12_keep_139 : decode cX12_keep 139 = .ok (.ireturn, 1) := by decide +kernel
theorem dX12_back_0 : decode cX12_back 0 = .ok (.aload_n 0, 1) := by decide +kernel
theorem dX12_back_1 : decode cX12_back 1 = .ok (.iconst 0, 1) := by decide +kernel
theorem dX12_back_2 : decode cX12_back 2 = .ok (.putfield 145, 3) := by decide +kernel
theorem dX12_back_5 : decode cX12_back 5 = .ok (.aload_n 0, 1) := by decide +kernel
theorem dX12_back_6 : decode cX12_back 6 = .ok (.getfield 353, 3) := by decide +kernel
theorem dX12_back_9 : decode cX12_back 9 = .ok (.ifCond .ne 5, 3) := by decide +kernel
theorem dX12_back_12 : decode cX12_back 12 = .ok (.iconst (-1), 1) := by decide +kernel
theorem dX12_back_13 : decode cX12_back 13 = .ok (.ireturn, 1) := by decide +kernel
theorem dX12_back_14 : decode cX12_back 14 = .ok (.aload_n 0, 1) := by decide +kernel
theorem dX12_back_15 : decode cX12_back 15 = .ok (.aload_n 0, 1) := by decide +kernel
theorem dX12_back_16 : decode cX12_back 16 = .ok (.getfield 133, 3) := by decide +kernel
theorem dX12_back_19 : decode cX12_back 19 = .ok (.iconst 0, 1) := by decide +kernel
theorem dX12_back_20 : decode cX12_back 20 = .ok (.invokevirtual 519, 3) := by decide +kernel
theorem dX12_back_23 : decode cX12_back 23 = .ok (.iconst 0, 1) := by decide +kernel
theorem dX12_back_24 : decode cX12_back 24 = .ok (.istore_n 1, 1) := by decide +kernel
theorem dX12_back_25 : decode cX12_back 25 = .ok (.iload_n 1, 1) := by decide +kernel
theorem dX12_back_26 : decode cX12_back 26 = .ok (.bipush 12, 2) := by decide +kernel
theorem dX12_back_28 : decode cX12_back 28 = .ok (.if_icmp .ge 45, 3) := by decide +kernel
theorem dX12_back_31 : decode cX12_back 31 = .ok (.aload_n 0, 1) := by decide +kernel
theorem dX12_back_32 : decode cX12_back 32 = .ok (.getfield 88, 3) := by decide +kernel
theorem dX12_back_35 : decode cX12_back 35 = .ok (.iload_n 1, 1) := by decide +kernel
theorem dX12_back_36 : decode cX12_back 36 = .ok (.aload_n 0, 1) := by decide +kernel
theorem dX12_back_37 : decode cX12_back 37 = .ok (.getfield 136, 3) := by decide +kernel
theorem dX12_back_40 : decode cX12_back 40 = .ok (.iload_n 1, 1) := by decide +kernel
theorem dX12_back_41 : decode cX12_back 41 = .ok (.iaload, 1) := by decide +kernel
theorem dX12_back_42 : decode cX12_back 42 = .ok (.iastore, 1) := by decide +kernel
theorem dX12_back_43 : decode cX12_back 43 = .ok (.aload_n 0, 1) := by decide +kernel
theorem dX12_back_44 : decode cX12_back 44 = .ok (.getfield 94, 3) := by decide +kernel
theorem dX12_back_47 : decode cX12_back 47 = .ok (.iload_n 1, 1) := by decide +kernel
theorem dX12_back_48 : decode cX12_back 48 = .ok (.aload_n 0, 1) := by decide +kernel
theorem dX12_back_49 : decode cX12_back 49 = .ok (.getfield 136, 3) := by decide +kernel
theorem dX12_back_52 : decode cX12_back 52 = .ok (.bipush 12, 2) := by decide +kernel
theorem dX12_back_54 : decode cX12_back 54 = .ok (.iload_n 1, 1) := by decide +kernel
theorem dX12_back_55 : decode cX12_back 55 = .ok (.iadd, 1) := by decide +kernel
theorem dX12_back_56 : decode cX12_back 56 = .ok (.iaload, 1) := by decide +kernel
theorem dX12_back_57 : decode cX12_back 57 = .ok (.iconst 1, 1) := by decide +kernel
theorem dX12_back_58 : decode cX12_back 58 = .ok (.if_icmp .ne 7, 3) := by decide +kernel
theorem dX12_back_61 : decode cX12_back 61 = .ok (.iconst 1, 1) := by decide +kernel
theorem dX12_back_62 : decode cX12_back 62 = .ok (.goto 4, 3) := by decide +kernel
theorem dX12_back_65 : decode cX12_back 65 = .ok (.iconst 0, 1) := by decide +kernel
theorem dX12_back_66 : decode cX12_back 66 = .ok (.bastore, 1) := by decide +kernel
theorem dX12_back_67 : decode cX12_back 67 = .ok (.iinc 1 1, 3) := by decide +kernel
theorem dX12_back_70 : decode cX12_back 70 = .ok (.goto (-45), 3) := by decide +kernel
theorem dX12_back_73 : decode cX12_back 73 = .ok (.iconst 0, 1) := by decide +kernel
theorem dX12_back_74 : decode cX12_back 74 = .ok (.istore_n 1, 1) := by decide +kernel
theorem dX12_back_75 : decode cX12_back 75 = .ok (.iload_n 1, 1) := by decide +kernel
theorem dX12_back_76 : decode cX12_back 76 = .ok (.bipush 6, 2) := by decide +kernel
theorem dX12_back_78 : decode cX12_back 78 = .ok (.if_icmp .ge 39, 3) := by decide +kernel
theorem dX12_back_81 : decode cX12_back 81 = .ok (.aload_n 0, 1) := by decide +kernel
theorem dX12_back_82 : decode cX12_back 82 = .ok (.getfield 100, 3) := by decide +kernel
theorem dX12_back_85 : decode cX12_back 85 = .ok (.iload_n 1, 1) := by decide +kernel
theorem dX12_back_86 : decode cX12_back 86 = .ok (.aload_n 0, 1) := by decide +kernel
theorem dX12_back_87 : decode cX12_back 87 = .ok (.getfield 136, 3) := by decide +kernel
theorem dX12_back_90 : decode cX12_back 90 = .ok (.bipush 24, 2) := by decide +kernel
theorem dX12_back_92 : decode cX12_back 92 = .ok (.iload_n 1, 1) := by decide +kernel
theorem dX12_back_93 : decode cX12_back 93 = .ok (.iadd, 1) := by decide +kernel
theorem dX12_back_94 : decode cX12_back 94 = .ok (.iaload, 1) := by decide +kernel
theorem dX12_back_95 : decode cX12_back 95 = .ok (.iastore, 1) := by decide +kernel
theorem dX12_back_96 : decode cX12_back 96 = .ok (.aload_n 0, 1) := by decide +kernel
theorem dX12_back_97 : decode cX12_back 97 = .ok (.getfield 103, 3) := by decide +kernel
theorem dX12_back_100 : decode cX12_back 100 = .ok (.iload_n 1, 1) := by decide +kernel
theorem dX12_back_101 : decode cX12_back 101 = .ok (.aload_n 0, 1) := by decide +kernel
theorem dX12_back_102 : decode cX12_back 102 = .ok (.getfield 136, 3) := by decide +kernel
theorem dX12_back_105 : decode cX12_back 105 = .ok (.bipush 30, 2) := by decide +kernel
theorem dX12_back_107 : decode cX12_back 107 = .ok (.iload_n 1, 1) := by decide +kernel
theorem dX12_back_108 : decode cX12_back 108 = .ok (.iadd, 1) := by decide +kernel
theorem dX12_back_109 : decode cX12_back 109 = .ok (.iaload, 1) := by decide +kernel
theorem dX12_back_110 : decode cX12_back 110 = .ok (.iastore, 1) := by decide +kernel
theorem dX12_back_111 : decode cX12_back 111 = .ok (.iinc 1 1, 3) := by decide +kernel
theorem dX12_back_114 : decode cX12_back 114 = .ok (.goto (-39), 3) := by decide +kernel
theorem dX12_back_117 : decode cX12_back 117 = .ok (.aload_n 0, 1) := by decide +kernel
