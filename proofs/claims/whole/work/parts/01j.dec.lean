theorem dX12_thought_2 : decode cX12_thought 2 = .ok (.putfield 145, 3) := by decide +kernel
theorem dX12_thought_5 : decode cX12_thought 5 = .ok (.aload_n 0, 1) := by decide +kernel
theorem dX12_thought_6 : decode cX12_thought 6 = .ok (.iload_n 1, 1) := by decide +kernel
theorem dX12_thought_7 : decode cX12_thought 7 = .ok (.invokevirtual 454, 3) := by decide +kernel
theorem dX12_thought_10 : decode cX12_thought 10 = .ok (.ifCond .ne 9, 3) := by decide +kernel
theorem dX12_thought_13 : decode cX12_thought 13 = .ok (.aload_n 0, 1) := by decide +kernel
theorem dX12_thought_14 : decode cX12_thought 14 = .ok (.iconst 1, 1) := by decide +kernel
theorem dX12_thought_15 : decode cX12_thought 15 = .ok (.invokevirtual 457, 3) := by decide +kernel
theorem dX12_thought_18 : decode cX12_thought 18 = .ok (.ireturn, 1) := by decide +kernel
theorem dX12_thought_19 : decode cX12_thought 19 = .ok (.iload_n 2, 1) := by decide +kernel
theorem dX12_thought_20 : decode cX12_thought 20 = .ok (.tableswitch 101 0 6 #[44, 51, 58, 65, 72, 79, 86], 44) := by decide +kernel
theorem dX12_thought_64 : decode cX12_thought 64 = .ok (.aload_n 0, 1) := by decide +kernel
theorem dX12_thought_65 : decode cX12_thought 65 = .ok (.getfield 36, 3) := by decide +kernel
theorem dX12_thought_68 : decode cX12_thought 68 = .ok (.iload_n 1, 1) := by decide +kernel
theorem dX12_thought_69 : decode cX12_thought 69 = .ok (.iaload, 1) := by decide +kernel
theorem dX12_thought_70 : decode cX12_thought 70 = .ok (.ireturn, 1) := by decide +kernel
theorem dX12_thought_71 : decode cX12_thought 71 = .ok (.aload_n 0, 1) := by decide +kernel
theorem dX12_thought_72 : decode cX12_thought 72 = .ok (.getfield 39, 3) := by decide +kernel
theorem dX12_thought_75 : decode cX12_thought 75 = .ok (.iload_n 1, 1) := by decide +kernel
theorem dX12_thought_76 : decode cX12_thought 76 = .ok (.iaload, 1) := by decide +kernel
theorem dX12_thought_77 : decode cX12_thought 77 = .ok (.ireturn, 1) := by decide +kernel
theorem dX12_thought_78 : decode cX12_thought 78 = .ok (.aload_n 0, 1) := by decide +kernel
theorem dX12_thought_79 : decode cX12_thought 79 = .ok (.getfield 42, 3) := by decide +kernel
theorem dX12_thought_82 : decode cX12_thought 82 = .ok (.iload_n 1, 1) := by decide +kernel
theorem dX12_thought_83 : decode cX12_thought 83 = .ok (.iaload, 1) := by decide +kernel
theorem dX12_thought_84 : decode cX12_thought 84 = .ok (.ireturn, 1) := by decide +kernel
theorem dX12_thought_85 : decode cX12_thought 85 = .ok (.aload_n 0, 1) := by decide +kernel
theorem dX12_thought_86 : decode cX12_thought 86 = .ok (.getfield 45, 3) := by decide +kernel
theorem dX12_thought_89 : decode cX12_thought 89 = .ok (.iload_n 1, 1) := by decide +kernel
theorem dX12_thought_90 : decode cX12_thought 90 = .ok (.iaload, 1) := by decide +kernel
theorem dX12_thought_91 : decode cX12_thought 91 = .ok (.ireturn, 1) := by decide +kernel
theorem dX12_thought_92 : decode cX12_thought 92 = .ok (.aload_n 0, 1) := by decide +kernel
theorem dX12_thought_93 : decode cX12_thought 93 = .ok (.getfield 88, 3) := by decide +kernel
theorem dX12_thought_96 : decode cX12_thought 96 = .ok (.iload_n 1, 1) := by decide +kernel
theorem dX12_thought_97 : decode cX12_thought 97 = .ok (.iaload, 1) := by decide +kernel
theorem dX12_thought_98 : decode cX12_thought 98 = .ok (.ireturn, 1) := by decide +kernel
theorem dX12_thought_99 : decode cX12_thought 99 = .ok (.aload_n 0, 1) := by decide +kernel
theorem dX12_thought_100 : decode cX12_thought 100 = .ok (.getfield 91, 3) := by decide +kernel
theorem dX12_thought_103 : decode cX12_thought 103 = .ok (.iload_n 1, 1) := by decide +kernel
theorem dX12_thought_104 : decode cX12_thought 104 = .ok (.iaload, 1) := by decide +kernel
theorem dX12_thought_105 : decode cX12_thought 105 = .ok (.ireturn, 1) := by decide +kernel
theorem dX12_thought_106 : decode cX12_thought 106 = .ok (.aload_n 0, 1) := by decide +kernel
theorem dX12_thought_107 : decode cX12_thought 107 = .ok (.getfield 94, 3) := by decide +kernel
theorem dX12_thought_110 : decode cX12_thought 110 = .ok (.iload_n 1, 1) := by decide +kernel
theorem dX12_thought_111 : decode cX12_thought 111 = .ok (.baload, 1) := by decide +kernel
theorem dX12_thought_112 : decode cX12_thought 112 = .ok (.ifCond .eq 7, 3) := by decide +kernel
theorem dX12_thought_115 : decode cX12_thought 115 = .ok (.iconst 1, 1) := by decide +kernel
theorem dX12_thought_116 : decode cX12_thought 116 = .ok (.goto 4, 3) := by decide +kernel
theorem dX12_thought_119 : decode cX12_thought 119 = .ok (.iconst 0, 1) := by decide +kernel
theorem dX12_thought_120 : decode cX12_thought 120 = .ok (.ireturn, 1) := by decide +kernel
theorem dX12_thought_121 : decode cX12_thought 121 = .ok (.aload_n 0, 1) := by decide +kernel
theorem dX12_thought_122 : decode cX12_thought 122 = .ok (.iconst 2, 1) := by decide +kernel
theorem dX12_thought_123 : decode cX12_thought 123 = .ok (.invokevirtual 457, 3) := by decide +kernel
theorem dX12_thought_126 : decode cX12_thought 126 = .ok (.ireturn, 1) := by decide +kernel
theorem dX12_man_0 : decode cX12_man 0 = .ok (.aload_n 0, 1) := by decide +kernel
theorem dX12_man_1 : decode cX12_man 1 = .ok (.iconst 0, 1) := by decide +kernel
theorem dX12_man_2 : decode cX12_man 2 = .ok (.putfield 145, 3) := by decide +kernel
theorem dX12_man_5 : decode cX12_man 5 = .ok (.aload_n 0, 1) := by decide +kernel
theorem dX12_man_6 : decode cX12_man 6 = .ok (.iload_n 1, 1) := by decide +kernel
theorem dX12_man_7 : decode cX12_man 7 = .ok (.invokevirtual 460, 3) := by decide +kernel
theorem dX12_man_10 : decode cX12_man 10 = .ok (.ifCond .ne 5, 3) := by decide +kernel
theorem dX12_man_13 : decode cX12_man 13 = .ok (.iconst (-1), 1) := by decide +kernel
theorem dX12_man_14 : decode cX12_man 14 = .ok (.ireturn, 1) := by decide +kernel
theorem dX12_man_15 : decode cX12_man 15 = .ok (.iload_n 2, 1) := by decide +kernel
theorem dX12_man_16 : decode cX12_man 16 = .ok (.tableswitch 82 0 5 #[40, 47, 54, 61, 68, 75], 40) := by decide +kernel
theorem dX12_man_56 : decode cX12_man 56 = .ok (.aload_n 0, 1) := by decide +kernel
theorem dX12_man_57 : decode cX12_man 57 = .ok (.getfield 97, 3) := by decide +kernel
theorem dX12_man_60 : decode cX12_man 60 = .ok (.iload_n 1, 1) := by decide +kernel
theorem dX12_man_61 : decode cX12_man 61 = .ok (.iaload, 1) := by decide +kernel
theorem dX12_man_62 : decode cX12_man 62 = .ok (.ireturn, 1) := by decide +kernel
theorem dX12_man_63 : decode cX12_man 63 = .ok (.aload_n 0, 1) := by decide +kernel
theorem dX12_man_64 : decode cX12_man 64 = .ok (.getfield 33, 3) := by decide +kernel
theorem dX12_man_67 : decode cX12_man 67 = .ok (.iload_n 1, 1) := by decide +kernel
theorem dX12_man_68 : decode cX12_man 68 = .ok (.iaload, 1) := by decide +kernel
theorem dX12_man_69 : decode cX12_man 69 = .ok (.ireturn, 1) := by decide +kernel
theorem dX12_man_70 : decode cX12_man 70 = .ok (.aload_n 0, 1) := by decide +kernel
theorem dX12_man_71 : decode cX12_man 71 = .ok (.getfield 100, 3) := by decide +kernel
theorem dX12_man_74 : decode cX12_man 74 = .ok (.iload_n 1, 1) := by decide +kernel
theorem dX12_man_75 : decode cX12_man 75 = .ok (.iaload, 1) := by decide +kernel
theorem dX12_man_76 : decode cX12_man 76 = .ok (.ireturn, 1) := by decide +kernel
theorem dX12_man_77 : decode cX12_man 77 = .ok (.aload_n 0, 1) := by decide +kernel
theorem dX12_man_78 : decode cX12_man 78 = .ok (.getfield 103, 3) := by decide +kernel
theorem dX12_man_81 : decode cX12_man 81 = .ok (.iload_n 1, 1) := by decide +kernel
theorem dX12_man_82 : decode cX12_man 82 = .ok (.iaload, 1) := by decide +kernel
theorem dX12_man_83 : decode cX12_man 83 = .ok (.ireturn, 1) := by decide +kernel
theorem dX12_man_84 : decode cX12_man 84 = .ok (.aload_n 0, 1) := by decide +kernel
theorem dX12_man_85 : decode cX12_man 85 = .ok (.getfield 106, 3) := by decide +kernel
theorem dX12_man_88 : decode cX12_man 88 = .ok (.iload_n 1, 1) := by decide +kernel
theorem dX12_man_89 : decode cX12_man 89 = .ok (.iaload, 1) := by decide +kernel
theorem dX12_man_90 : decode cX12_man 90 = .ok (.ireturn, 1) := by decide +kernel
theorem dX12_man_91 : decode cX12_man 91 = .ok (.aload_n 0, 1) := by decide +kernel
theorem dX12_man_92 : decode cX12_man 92 = .ok (.getfield 109, 3) := by decide +kernel
theorem dX12_man_95 : decode cX12_man 95 = .ok (.iload_n 1, 1) := by decide +kernel
theorem dX12_man_96 : decode cX12_man 96 = .ok (.iaload, 1) := by decide +kernel
theorem dX12_man_97 : decode cX12_man 97 = .ok (.ireturn, 1) := by decide +kernel
theorem dX12_man_98 : decode cX12_man 98 = .ok (.iconst (-1), 1) := by decide +kernel
theorem dX12_man_99 : decode cX12_man 99 = .ok (.ireturn, 1) := by decide +kernel
theorem dX12_reader_0 : decode cX12_reader 0 = .ok (.aload_n 0, 1) := by decide +kernel
theorem dX12_reader_1 : decode cX12_reader 1 = .ok (.iconst 0, 1) := by decide +kernel
theorem dX12_reader_2 : decode cX12_reader 2 = .ok (.putfield 145, 3) := by decide +kernel
theorem dX12_reader_5 : decode cX12_reader 5 = .ok (.aload_n 0, 1) := by decide +kernel
theorem dX12_reader_6 : decode cX12_reader 6 = .ok (.iload_n 1, 1) := by decide +kernel
theorem dX12_reader_7 : decode cX12_reader 7 = .ok (.invokevirtual 463, 3) := by decide +kernel
theorem dX12_reader_10 : decode cX12_reader 10 = .ok (.ifCond .ne 5, 3) := by decide +kernel
theorem dX12_reader_13 : decode cX12_reader 13 = .ok (.iconst (-1), 1) := by decide +kernel
theorem dX12_reader_14 : decode cX12_reader 14 = .ok (.ireturn, 1) := by decide +kernel
theorem dX12_reader_15 : decode cX12_reader 15 = .ok (.iload_n 2, 1) := by decide +kernel
theorem dX12_reader_16 : decode cX12_reader 16 = .ok (.ifCond .ne 12, 3) := by decide +kernel
theorem dX12_reader_19 : decode cX12_reader 19 = .ok (.aload_n 0, 1) := by decide +kernel
theorem dX12_reader_20 : decode cX12_reader 20 = .ok (.getfield 51, 3) := by decide +kernel
theorem dX12_reader_23 : decode cX12_reader 23 = .ok (.iload_n 1, 1) := by decide +kernel
theorem dX12_reader_24 : decode cX12_reader 24 = .ok (.iaload, 1) := by decide +kernel
theorem dX12_reader_25 : decode cX12_reader 25 = .ok (.goto 18, 3) := by decide +kernel
theorem dX12_reader_28 : decode cX12_reader 28 = .ok (.iload_n 2, 1) := by decide +kernel
theorem dX12_reader_29 : decode cX12_reader 29 = .ok (.iconst 1, 1) := by decide +kernel
theorem dX12_reader_30 : decode cX12_reader 30 = .ok (.if_icmp .ne 12, 3) := by decide +kernel
theorem dX12_reader_33 : decode cX12_reader 33 = .ok (.aload_n 0, 1) := by decide +kernel
theorem dX12_reader_34 : decode cX12_reader 34 = .ok (.getfield 54, 3) := by decide +kernel
theorem dX12_reader_37 : decode cX12_reader 37 = .ok (.iload_n 1, 1) := by decide +kernel
theorem dX12_reader_38 : decode cX12_reader 38 = .ok (.iaload, 1) := by decide +kernel
theorem dX12_reader_39 : decode cX12_reader 39 = .ok (.goto 4, 3) := by decide +kernel
theorem dX12_reader_42 : decode cX12_reader 42 = .ok (.iconst (-1), 1) := by decide +kernel
theorem dX12_reader_43 : decode cX12_reader 43 = .ok (.ireturn, 1) := by decide +kernel
theorem dX12_bestHeld_0 : decode cX12_bestHeld 0 = .ok (.iconst 0, 1) := by decide +kernel
theorem dX12_bestHeld_1 : decode cX12_bestHeld 1 = .ok (.istore_n 2, 1) := by decide +kernel
theorem dX12_bestHeld_2 : decode cX12_bestHeld 2 = .ok (.iconst 0, 1) := by decide +kernel
theorem dX12_bestHeld_3 : decode cX12_bestHeld 3 = .ok (.istore_n 3, 1) := by decide +kernel
theorem dX12_bestHeld_4 : decode cX12_bestHeld 4 = .ok (.iload_n 3, 1) := by decide +kernel
theorem dX12_bestHeld_5 : decode cX12_bestHeld 5 = .ok (.aload_n 0, 1) := by decide +kernel
theorem dX12_bestHeld_6 : decode cX12_bestHeld 6 = .ok (.getfield 225, 3) := by decide +kernel
theorem dX12_bestHeld_9 : decode cX12_bestHeld 9 = .ok (.if_icmp .ge 50, 3) := by decide +kernel
theorem dX12_bestHeld_12 : decode cX12_bestHeld 12 = .ok (.aload_n 0, 1) := by decide +kernel
theorem dX12_bestHeld_13 : decode cX12_bestHeld 13 = .ok (.getfield 88, 3) := by decide +kernel
theorem dX12_bestHeld_16 : decode cX12_bestHeld 16 = .ok (.iload_n 3, 1) := by decide +kernel
theorem dX12_bestHeld_17 : decode cX12_bestHeld 17 = .ok (.iaload, 1) := by decide +kernel
theorem dX12_bestHeld_18 : decode cX12_bestHeld 18 = .ok (.iconst 1, 1) := by decide +kernel
theorem dX12_bestHeld_19 : decode cX12_bestHeld 19 = .ok (.if_icmp .ne 32, 3) := by decide +kernel
theorem dX12_bestHeld_22 : decode cX12_bestHeld 22 = .ok (.aload_n 0, 1) := by decide +kernel
theorem dX12_bestHeld_23 : decode cX12_bestHeld 23 = .ok (.getfield 91, 3) := by decide +kernel
theorem dX12_bestHeld_26 : decode cX12_bestHeld 26 = .ok (.iload_n 3, 1) := by decide +kernel
theorem dX12_bestHeld_27 : decode cX12_bestHeld 27 = .ok (.iaload, 1) := by decide +kernel
theorem dX12_bestHeld_28 : decode cX12_bestHeld 28 = .ok (.iload_n 1, 1) := by decide +kernel
theorem dX12_bestHeld_29 : decode cX12_bestHeld 29 = .ok (.if_icmp .ne 22, 3) := by decide +kernel
theorem dX12_bestHeld_32 : decode cX12_bestHeld 32 = .ok (.aload_n 0, 1) := by decide +kernel
theorem dX12_bestHeld_33 : decode cX12_bestHeld 33 = .ok (.getfield 39, 3) := by decide +kernel
theorem dX12_bestHeld_36 : decode cX12_bestHeld 36 = .ok (.iload_n 3, 1) := by decide +kernel
theorem dX12_bestHeld_37 : decode cX12_bestHeld 37 = .ok (.iaload, 1) := by decide +kernel
theorem dX12_bestHeld_38 : decode cX12_bestHeld 38 = .ok (.iload_n 2, 1) := by decide +kernel
theorem dX12_bestHeld_39 : decode cX12_bestHeld 39 = .ok (.if_icmp .le 12, 3) := by decide +kernel
theorem dX12_bestHeld_42 : decode cX12_bestHeld 42 = .ok (.aload_n 0, 1) := by decide +kernel
theorem dX12_bestHeld_43 : decode cX12_bestHeld 43 = .ok (.getfield 39, 3) := by decide +kernel
theorem dX12_bestHeld_46 : decode cX12_bestHeld 46 = .ok (.iload_n 3, 1) := by decide +kernel
theorem dX12_bestHeld_47 : decode cX12_bestHeld 47 = .ok (.iaload, 1) := by decide +kernel
theorem dX12_bestHeld_48 : decode cX12_bestHeld 48 = .ok (.goto 4, 3) := by decide +kernel
theorem dX12_bestHeld_51 : decode cX12_bestHeld 51 = .ok (.iload_n 2, 1) := by decide +kernel
theorem dX12_bestHeld_52 : decode cX12_bestHeld 52 = .ok (.istore_n 2, 1) := by decide +kernel
theorem dX12_bestHeld_53 : decode cX12_bestHeld 53 = .ok (.iinc 3 1, 3) := by decide +kernel
theorem dX12_bestHeld_56 : decode cX12_bestHeld 56 = .ok (.goto (-52), 3) := by decide +kernel
theorem dX12_bestHeld_59 : decode cX12_bestHeld 59 = .ok (.iload_n 2, 1) := by decide +kernel
theorem dX12_bestHeld_60 : decode cX12_bestHeld 60 = .ok (.ireturn, 1) := by decide +kernel
theorem dX12_law_0 : decode cX12_law 0 = .ok (.aload_n 0, 1) := by decide +kernel
theorem dX12_law_1 : decode cX12_law 1 = .ok (.iconst 0, 1) := by decide +kernel
theorem dX12_law_2 : decode cX12_law 2 = .ok (.putfield 145, 3) := by decide +kernel
theorem dX12_law_5 : decode cX12_law 5 = .ok (.iload_n 1, 1) := by decide +kernel
theorem dX12_law_6 : decode cX12_law 6 = .ok (.iconst 0, 1) := by decide +kernel
theorem dX12_law_7 : decode cX12_law 7 = .ok (.iconst 2, 1) := by decide +kernel
theorem dX12_law_8 : decode cX12_law 8 = .ok (.invokestatic 190, 3) := by decide +kernel
theorem dX12_law_11 : decode cX12_law 11 = .ok (.ifCond .eq 48, 3) := by decide +kernel
theorem dX12_law_14 : decode cX12_law 14 = .ok (.aload_n 0, 1) := by decide +kernel
theorem dX12_law_15 : decode cX12_law 15 = .ok (.getfield 57, 3) := by decide +kernel
theorem dX12_law_18 : decode cX12_law 18 = .ok (.iload_n 1, 1) := by decide +kernel
theorem dX12_law_19 : decode cX12_law 19 = .ok (.baload, 1) := by decide +kernel
theorem dX12_law_20 : decode cX12_law 20 = .ok (.ifCond .eq 39, 3) := by decide +kernel
theorem dX12_law_23 : decode cX12_law 23 = .ok (.iload_n 1, 1) := by decide +kernel
theorem dX12_law_24 : decode cX12_law 24 = .ok (.iconst 1, 1) := by decide +kernel
theorem dX12_law_25 : decode cX12_law 25 = .ok (.if_icmp .ne 11, 3) := by decide +kernel
theorem dX12_law_28 : decode cX12_law 28 = .ok (.aload_n 0, 1) := by decide +kernel
theorem dX12_law_29 : decode cX12_law 29 = .ok (.iload_n 2, 1) := by decide +kernel
theorem dX12_law_30 : decode cX12_law 30 = .ok (.invokevirtual 460, 3) := by decide +kernel
theorem dX12_law_33 : decode cX12_law 33 = .ok (.ifCond .eq 26, 3) := by decide +kernel
theorem dX12_law_36 : decode cX12_law 36 = .ok (.iload_n 1, 1) := by decide +kernel
theorem dX12_law_37 : decode cX12_law 37 = .ok (.iconst 1, 1) := by decide +kernel
theorem dX12_law_38 : decode cX12_law 38 = .ok (.if_icmp .eq 25, 3) := by decide +kernel
theorem dX12_law_41 : decode cX12_law 41 = .ok (.aload_n 0, 1) := by decide +kernel
theorem dX12_law_42 : decode cX12_law 42 = .ok (.iload_n 2, 1) := by decide +kernel
theorem dX12_law_43 : decode cX12_law 43 = .ok (.invokevirtual 454, 3) := by decide +kernel
theorem dX12_law_46 : decode cX12_law 46 = .ok (.ifCond .eq 13, 3) := by decide +kernel
theorem dX12_law_49 : decode cX12_law 49 = .ok (.aload_n 0, 1) := by decide +kernel
theorem dX12_law_50 : decode cX12_law 50 = .ok (.getfield 88, 3) := by decide +kernel
theorem dX12_law_53 : decode cX12_law 53 = .ok (.iload_n 2, 1) := by decide +kernel
theorem dX12_law_54 : decode cX12_law 54 = .ok (.iaload, 1) := by decide +kernel
theorem dX12_law_55 : decode cX12_law 55 = .ok (.iconst 1, 1) := by decide +kernel
theorem dX12_law_56 : decode cX12_law 56 = .ok (.if_icmp .eq 7, 3) := by decide +kernel
theorem dX12_law_59 : decode cX12_law 59 = .ok (.ldc2_w 466, 3) := by decide +kernel
theorem dX12_law_62 : decode cX12_law 62 = .ok (.lreturn, 1) := by decide +kernel
theorem dX12_law_63 : decode cX12_law 63 = .ok (.aload_n 0, 1) := by decide +kernel
theorem dX12_law_64 : decode cX12_law 64 = .ok (.invokevirtual 344, 3) := by decide +kernel
theorem dX12_law_67 : decode cX12_law 67 = .ok (.iload_n 1, 1) := by decide +kernel
theorem dX12_law_68 : decode cX12_law 68 = .ok (.iconst 1, 1) := by decide +kernel
theorem dX12_law_69 : decode cX12_law 69 = .ok (.if_icmp .ne 7, 3) := by decide +kernel
theorem dX12_law_72 : decode cX12_law 72 = .ok (.iload_n 2, 1) := by decide +kernel
theorem dX12_law_73 : decode cX12_law 73 = .ok (.goto 9, 3) := by decide +kernel
theorem dX12_law_76 : decode cX12_law 76 = .ok (.aload_n 0, 1) := by decide +kernel
theorem dX12_law_77 : decode cX12_law 77 = .ok (.getfield 91, 3) := by decide +kernel
theorem dX12_law_80 : decode cX12_law 80 = .ok (.iload_n 2, 1) := by decide +kernel
theorem dX12_law_81 : decode cX12_law 81 = .ok (.iaload, 1) := by decide +kernel
theorem dX12_law_82 : decode cX12_law 82 = .ok (.istore_n 3, 1) := by decide +kernel
theorem dX12_law_83 : decode cX12_law 83 = .ok (.aload_n 0, 1) := by decide +kernel
theorem dX12_law_84 : decode cX12_law 84 = .ok (.iconst 0, 1) := by decide +kernel
theorem dX12_law_85 : decode cX12_law 85 = .ok (.iload_n 1, 1) := by decide +kernel
theorem dX12_law_86 : decode cX12_law 86 = .ok (.iconst 1, 1) := by decide +kernel
theorem dX12_law_87 : decode cX12_law 87 = .ok (.if_icmp .ne 11, 3) := by decide +kernel
theorem dX12_law_90 : decode cX12_law 90 = .ok (.aload_n 0, 1) := by decide +kernel
theorem dX12_law_91 : decode cX12_law 91 = .ok (.iload_n 3, 1) := by decide +kernel
theorem dX12_law_92 : decode cX12_law 92 = .ok (.invokevirtual 468, 3) := by decide +kernel
theorem dX12_law_95 : decode cX12_law 95 = .ok (.goto 9, 3) := by decide +kernel
theorem dX12_law_98 : decode cX12_law 98 = .ok (.aload_n 0, 1) := by decide +kernel
theorem dX12_law_99 : decode cX12_law 99 = .ok (.getfield 39, 3) := by decide +kernel
theorem dX12_law_102 : decode cX12_law 102 = .ok (.iload_n 2, 1) := by decide +kernel
theorem dX12_law_103 : decode cX12_law 103 = .ok (.iaload, 1) := by decide +kernel
theorem dX12_law_104 : decode cX12_law 104 = .ok (.iload_n 1, 1) := by decide +kernel
theorem dX12_law_105 : decode cX12_law 105 = .ok (.iconst 2, 1) := by decide +kernel
theorem dX12_law_106 : decode cX12_law 106 = .ok (.if_icmp .ne 7, 3) := by decide +kernel
theorem dX12_law_109 : decode cX12_law 109 = .ok (.iconst 0, 1) := by decide +kernel
theorem dX12_law_110 : decode cX12_law 110 = .ok (.goto 13, 3) := by decide +kernel
theorem dX12_law_113 : decode cX12_law 113 = .ok (.aload_n 0, 1) := by decide +kernel
theorem dX12_law_114 : decode cX12_law 114 = .ok (.aload_n 0, 1) := by decide +kernel
theorem dX12_law_115 : decode cX12_law 115 = .ok (.getfield 109, 3) := by decide +kernel
theorem dX12_law_118 : decode cX12_law 118 = .ok (.iload_n 3, 1) := by decide +kernel
theorem dX12_law_119 : decode cX12_law 119 = .ok (.iaload, 1) := by decide +kernel
theorem dX12_law_120 : decode cX12_law 120 = .ok (.invokevirtual 399, 3) := by decide +kernel
theorem dX12_law_123 : decode cX12_law 123 = .ok (.iload_n 3, 1) := by decide +kernel
theorem dX12_law_124 : decode cX12_law 124 = .ok (.invokevirtual 402, 3) := by decide +kernel
theorem dX12_law_127 : decode cX12_law 127 = .ok (.aload_n 0, 1) := by decide +kernel
theorem dX12_law_128 : decode cX12_law 128 = .ok (.iload_n 1, 1) := by decide +kernel
theorem dX12_law_129 : decode cX12_law 129 = .ok (.invokevirtual 396, 3) := by decide +kernel
theorem dX12_law_132 : decode cX12_law 132 = .ok (.lstore 4, 2) := by decide +kernel
theorem dX12_law_134 : decode cX12_law 134 = .ok (.aload_n 0, 1) := by decide +kernel
theorem dX12_law_135 : decode cX12_law 135 = .ok (.getfield 318, 3) := by decide +kernel
theorem dX12_law_138 : decode cX12_law 138 = .ok (.ifCond .eq 9, 3) := by decide +kernel
theorem dX12_law_141 : decode cX12_law 141 = .ok (.ldc2_w 466, 3) := by decide +kernel
theorem dX12_law_144 : decode cX12_law 144 = .ok (.goto 5, 3) := by decide +kernel
theorem dX12_law_147 : decode cX12_law 147 = .ok (.lload 4, 2) := by decide +kernel
theorem dX12_law_149 : decode cX12_law 149 = .ok (.lreturn, 1) := by decide +kernel
theorem dX12_hide_0 : decode cX12_hide 0 = .ok (.aload_n 0, 1) := by decide +kernel
theorem dX12_hide_1 : decode cX12_hide 1 = .ok (.iconst 0, 1) := by decide +kernel
theorem dX12_hide_2 : decode cX12_hide 2 = .ok (.putfield 145, 3) := by decide +kernel
theorem dX12_hide_5 : decode cX12_hide 5 = .ok (.aload_n 0, 1) := by decide +kernel
theorem dX12_hide_6 : decode cX12_hide 6 = .ok (.iload_n 1, 1) := by decide +kernel
theorem dX12_hide_7 : decode cX12_hide 7 = .ok (.invokevirtual 454, 3) := by decide +kernel
theorem dX12_hide_10 : decode cX12_hide 10 = .ok (.ifCond .eq 31, 3) := by decide +kernel
theorem dX12_hide_13 : decode cX12_hide 13 = .ok (.aload_n 0, 1) := by decide +kernel
theorem dX12_hide_14 : decode cX12_hide 14 = .ok (.getfield 88, 3) := by decide +kernel
theorem dX12_hide_17 : decode cX12_hide 17 = .ok (.iload_n 1, 1) := by decide +kernel
theorem dX12_hide_18 : decode cX12_hide 18 = .ok (.iaload, 1) := by decide +kernel
theorem dX12_hide_19 : decode cX12_hide 19 = .ok (.iconst 1, 1) := by decide +kernel
theorem dX12_hide_20 : decode cX12_hide 20 = .ok (.if_icmp .ne 21, 3) := by decide +kernel
theorem dX12_hide_23 : decode cX12_hide 23 = .ok (.aload_n 0, 1) := by decide +kernel
theorem dX12_hide_24 : decode cX12_hide 24 = .ok (.iload_n 2, 1) := by decide +kernel
theorem dX12_hide_25 : decode cX12_hide 25 = .ok (.invokevirtual 460, 3) := by decide +kernel
theorem dX12_hide_28 : decode cX12_hide 28 = .ok (.ifCond .eq 13, 3) := by decide +kernel
theorem dX12_hide_31 : decode cX12_hide 31 = .ok (.aload_n 0, 1) := by decide +kernel
theorem dX12_hide_32 : decode cX12_hide 32 = .ok (.getfield 91, 3) := by decide +kernel
theorem dX12_hide_35 : decode cX12_hide 35 = .ok (.iload_n 1, 1) := by decide +kernel
theorem dX12_hide_36 : decode cX12_hide 36 = .ok (.iaload, 1) := by decide +kernel
theorem dX12_hide_37 : decode cX12_hide 37 = .ok (.iload_n 2, 1) := by decide +kernel
theorem dX12_hide_38 : decode cX12_hide 38 = .ok (.if_icmp .ne 5, 3) := by decide +kernel
theorem dX12_hide_41 : decode cX12_hide 41 = .ok (.iconst 0, 1) := by decide +kernel
theorem dX12_hide_42 : decode cX12_hide 42 = .ok (.ireturn, 1) := by decide +kernel
theorem dX12_hide_43 : decode cX12_hide 43 = .ok (.aload_n 0, 1) := by decide +kernel
theorem dX12_hide_44 : decode cX12_hide 44 = .ok (.invokevirtual 471, 3) := by decide +kernel
theorem dX12_hide_47 : decode cX12_hide 47 = .ok (.aload_n 0, 1) := by decide +kernel
theorem dX12_hide_48 : decode cX12_hide 48 = .ok (.getfield 91, 3) := by decide +kernel
theorem dX12_hide_51 : decode cX12_hide 51 = .ok (.iload_n 1, 1) := by decide +kernel
theorem dX12_hide_52 : decode cX12_hide 52 = .ok (.iload_n 2, 1) := by decide +kernel
theorem dX12_hide_53 : decode cX12_hide 53 = .ok (.iastore, 1) := by decide +kernel
theorem dX12_hide_54 : decode cX12_hide 54 = .ok (.iconst 1, 1) := by decide +kernel
theorem dX12_hide_55 : decode cX12_hide 55 = .ok (.ireturn, 1) := by decide +kernel
theorem dX12_buy_0 : decode cX12_buy 0 = .ok (.aload_n 0, 1) := by decide +kernel
theorem dX12_buy_1 : decode cX12_buy 1 = .ok (.iconst 0, 1) := by decide +kernel
theorem dX12_buy_2 : decode cX12_buy 2 = .ok (.putfield 145, 3) := by decide +kernel
theorem dX12_buy_5 : decode cX12_buy 5 = .ok (.aload_n 0, 1) := by decide +kernel
theorem dX12_buy_6 : decode cX12_buy 6 = .ok (.iload_n 1, 1) := by decide +kernel
theorem dX12_buy_7 : decode cX12_buy 7 = .ok (.invokevirtual 460, 3) := by decide +kernel
theorem dX12_buy_10 : decode cX12_buy 10 = .ok (.ifCond .eq 26, 3) := by decide +kernel
theorem dX12_buy_13 : decode cX12_buy 13 = .ok (.iload_n 2, 1) := by decide +kernel
theorem dX12_buy_14 : decode cX12_buy 14 = .ok (.iconst 1, 1) := by decide +kernel
theorem dX12_buy_15 : decode cX12_buy 15 = .ok (.bipush 9, 2) := by decide +kernel
theorem dX12_buy_17 : decode cX12_buy 17 = .ok (.invokestatic 190, 3) := by decide +kernel
theorem dX12_buy_20 : decode cX12_buy 20 = .ok (.ifCond .eq 16, 3) := by decide +kernel
theorem dX12_buy_23 : decode cX12_buy 23 = .ok (.aload_n 0, 1) := by decide +kernel
theorem dX12_buy_24 : decode cX12_buy 24 = .ok (.getfield 106, 3) := by decide +kernel
theorem dX12_buy_27 : decode cX12_buy 27 = .ok (.iload_n 1, 1) := by decide +kernel
theorem dX12_buy_28 : decode cX12_buy 28 = .ok (.iaload, 1) := by decide +kernel
theorem dX12_buy_29 : decode cX12_buy 29 = .ok (.iload_n 2, 1) := by decide +kernel
theorem dX12_buy_30 : decode cX12_buy 30 = .ok (.iadd, 1) := by decide +kernel
theorem dX12_buy_31 : decode cX12_buy 31 = .ok (.bipush 9, 2) := by decide +kernel
theorem dX12_buy_33 : decode cX12_buy 33 = .ok (.if_icmp .le 5, 3) := by decide +kernel
theorem dX12_buy_36 : decode cX12_buy 36 = .ok (.iconst (-1), 1) := by decide +kernel
theorem dX12_buy_37 : decode cX12_buy 37 = .ok (.ireturn, 1) := by decide +kernel
theorem dX12_buy_38 : decode cX12_buy 38 = .ok (.iload_n 2, 1) := by decide +kernel
theorem dX12_buy_39 : decode cX12_buy 39 = .ok (.aload_n 0, 1) := by decide +kernel
theorem dX12_buy_40 : decode cX12_buy 40 = .ok (.getfield 24, 3) := by decide +kernel
theorem dX12_buy_43 : decode cX12_buy 43 = .ok (.iconst 1, 1) := by decide +kernel
theorem dX12_buy_44 : decode cX12_buy 44 = .ok (.iaload, 1) := by decide +kernel
theorem dX12_buy_45 : decode cX12_buy 45 = .ok (.imul, 1) := by decide +kernel
theorem dX12_buy_46 : decode cX12_buy 46 = .ok (.aload_n 0, 1) := by decide +kernel
theorem dX12_buy_47 : decode cX12_buy 47 = .ok (.getfield 97, 3) := by decide +kernel
theorem dX12_buy_50 : decode cX12_buy 50 = .ok (.iload_n 1, 1) := by decide +kernel
theorem dX12_buy_51 : decode cX12_buy 51 = .ok (.iaload, 1) := by decide +kernel
theorem dX12_buy_52 : decode cX12_buy 52 = .ok (.if_icmp .le 6, 3) := by decide +kernel
theorem dX12_buy_55 : decode cX12_buy 55 = .ok (.bipush (-2), 2) := by decide +kernel
theorem dX12_buy_57 : decode cX12_buy 57 = .ok (.ireturn, 1) := by decide +kernel
theorem dX12_buy_58 : decode cX12_buy 58 = .ok (.aload_n 0, 1) := by decide +kernel
theorem dX12_buy_59 : decode cX12_buy 59 = .ok (.invokevirtual 471, 3) := by decide +kernel
theorem dX12_buy_62 : decode cX12_buy 62 = .ok (.aload_n 0, 1) := by decide +kernel
theorem dX12_buy_63 : decode cX12_buy 63 = .ok (.getfield 97, 3) := by decide +kernel
theorem dX12_buy_66 : decode cX12_buy 66 = .ok (.iload_n 1, 1) := by decide +kernel
theorem dX12_buy_67 : decode cX12_buy 67 = .ok (.dup2, 1) := by decide +kernel
theorem dX12_buy_68 : decode cX12_buy 68 = .ok (.iaload, 1) := by decide +kernel
theorem dX12_buy_69 : decode cX12_buy 69 = .ok (.iload_n 2, 1) := by decide +kernel
theorem dX12_buy_70 : decode cX12_buy 70 = .ok (.aload_n 0, 1) := by decide +kernel
theorem dX12_buy_71 : decode cX12_buy 71 = .ok (.getfield 24, 3) := by decide +kernel
theorem dX12_buy_74 : decode cX12_buy 74 = .ok (.iconst 1, 1) := by decide +kernel
theorem dX12_buy_75 : decode cX12_buy 75 = .ok (.iaload, 1) := by decide +kernel
theorem dX12_buy_76 : decode cX12_buy 76 = .ok (.imul, 1) := by decide +kernel
theorem dX12_buy_77 : decode cX12_buy 77 = .ok (.isub, 1) := by decide +kernel
theorem dX12_buy_78 : decode cX12_buy 78 = .ok (.iastore, 1) := by decide +kernel
theorem dX12_buy_79 : decode cX12_buy 79 = .ok (.aload_n 0, 1) := by decide +kernel
theorem dX12_buy_80 : decode cX12_buy 80 = .ok (.getfield 106, 3) := by decide +kernel
theorem dX12_buy_83 : decode cX12_buy 83 = .ok (.iload_n 1, 1) := by decide +kernel
theorem dX12_buy_84 : decode cX12_buy 84 = .ok (.dup2, 1) := by decide +kernel
theorem dX12_buy_85 : decode cX12_buy 85 = .ok (.iaload, 1) := by decide +kernel
theorem dX12_buy_86 : decode cX12_buy 86 = .ok (.iload_n 2, 1) := by decide +kernel
theorem dX12_buy_87 : decode cX12_buy 87 = .ok (.iadd, 1) := by decide +kernel
theorem dX12_buy_88 : decode cX12_buy 88 = .ok (.iastore, 1) := by decide +kernel
theorem dX12_buy_89 : decode cX12_buy 89 = .ok (.aload_n 0, 1) := by decide +kernel
theorem dX12_buy_90 : decode cX12_buy 90 = .ok (.getfield 106, 3) := by decide +kernel
theorem dX12_buy_93 : decode cX12_buy 93 = .ok (.iload_n 1, 1) := by decide +kernel
theorem dX12_buy_94 : decode cX12_buy 94 = .ok (.iaload, 1) := by decide +kernel
theorem dX12_buy_95 : decode cX12_buy 95 = .ok (.ireturn, 1) := by decide +kernel
theorem dX12_round_0 : decode cX12_round 0 = .ok (.aload_n 0, 1) := by decide +kernel
theorem dX12_round_1 : decode cX12_round 1 = .ok (.iconst 0, 1) := by decide +kernel
theorem dX12_round_2 : decode cX12_round 2 = .ok (.putfield 145, 3) := by decide +kernel
theorem dX12_round_5 : decode cX12_round 5 = .ok (.aload_n 0, 1) := by decide +kernel
theorem dX12_round_6 : decode cX12_round 6 = .ok (.iload_n 1, 1) := by decide +kernel
theorem dX12_round_7 : decode cX12_round 7 = .ok (.invokevirtual 460, 3) := by decide +kernel
theorem dX12_round_10 : decode cX12_round 10 = .ok (.ifCond .eq 21, 3) := by decide +kernel
theorem dX12_round_13 : decode cX12_round 13 = .ok (.aload_n 0, 1) := by decide +kernel
theorem dX12_round_14 : decode cX12_round 14 = .ok (.iload_n 2, 1) := by decide +kernel
theorem dX12_round_15 : decode cX12_round 15 = .ok (.invokevirtual 463, 3) := by decide +kernel
theorem dX12_round_18 : decode cX12_round 18 = .ok (.ifCond .eq 13, 3) := by decide +kernel
theorem dX12_round_21 : decode cX12_round 21 = .ok (.aload_n 0, 1) := by decide +kernel
theorem dX12_round_22 : decode cX12_round 22 = .ok (.getfield 109, 3) := by decide +kernel
theorem dX12_round_25 : decode cX12_round 25 = .ok (.iload_n 1, 1) := by decide +kernel
theorem dX12_round_26 : decode cX12_round 26 = .ok (.iaload, 1) := by decide +kernel
theorem dX12_round_27 : decode cX12_round 27 = .ok (.iload_n 2, 1) := by decide +kernel
theorem dX12_round_28 : decode cX12_round 28 = .ok (.if_icmp .ne 5, 3) := by decide +kernel
theorem dX12_round_31 : decode cX12_round 31 = .ok (.iconst 0, 1) := by decide +kernel
theorem dX12_round_32 : decode cX12_round 32 = .ok (.ireturn, 1) := by decide +kernel
theorem dX12_round_33 : decode cX12_round 33 = .ok (.aload_n 0, 1) := by decide +kernel
theorem dX12_round_34 : decode cX12_round 34 = .ok (.invokevirtual 471, 3) := by decide +kernel
theorem dX12_round_37 : decode cX12_round 37 = .ok (.aload_n 0, 1) := by decide +kernel
theorem dX12_round_38 : decode cX12_round 38 = .ok (.getfield 109, 3) := by decide +kernel
theorem dX12_round_41 : decode cX12_round 41 = .ok (.iload_n 1, 1) := by decide +kernel
theorem dX12_round_42 : decode cX12_round 42 = .ok (.iload_n 2, 1) := by decide +kernel
theorem dX12_round_43 : decode cX12_round 43 = .ok (.iastore, 1) := by decide +kernel
theorem dX12_round_44 : decode cX12_round 44 = .ok (.iconst 1, 1) := by decide +kernel
theorem dX12_round_45 : decode cX12_round 45 = .ok (.ireturn, 1) := by decide +kernel
theorem dX12_rate_0 : decode cX12_rate 0 = .ok (.aload_n 0, 1) := by decide +kernel
theorem dX12_rate_1 : decode cX12_rate 1 = .ok (.iconst 0, 1) := by decide +kernel
theorem dX12_rate_2 : decode cX12_rate 2 = .ok (.putfield 145, 3) := by decide +kernel
theorem dX12_rate_5 : decode cX12_rate 5 = .ok (.iload_n 1, 1) := by decide +kernel
theorem dX12_rate_6 : decode cX12_rate 6 = .ok (.iconst 0, 1) := by decide +kernel
theorem dX12_rate_7 : decode cX12_rate 7 = .ok (.bipush 100, 2) := by decide +kernel
theorem dX12_rate_9 : decode cX12_rate 9 = .ok (.invokestatic 190, 3) := by decide +kernel
theorem dX12_rate_12 : decode cX12_rate 12 = .ok (.ifCond .eq 13, 3) := by decide +kernel
theorem dX12_rate_15 : decode cX12_rate 15 = .ok (.aload_n 0, 1) := by decide +kernel
theorem dX12_rate_16 : decode cX12_rate 16 = .ok (.getfield 112, 3) := by decide +kernel
theorem dX12_rate_19 : decode cX12_rate 19 = .ok (.iconst 0, 1) := by decide +kernel
theorem dX12_rate_20 : decode cX12_rate 20 = .ok (.iaload, 1) := by decide +kernel
theorem dX12_rate_21 : decode cX12_rate 21 = .ok (.iload_n 1, 1) := by decide +kernel
theorem dX12_rate_22 : decode cX12_rate 22 = .ok (.if_icmp .ne 5, 3) := by decide +kernel
theorem dX12_rate_25 : decode cX12_rate 25 = .ok (.iconst 0, 1) := by decide +kernel
theorem dX12_rate_26 : decode cX12_rate 26 = .ok (.ireturn, 1) := by decide +kernel
theorem dX12_rate_27 : decode cX12_rate 27 = .ok (.aload_n 0, 1) := by decide +kernel
theorem dX12_rate_28 : decode cX12_rate 28 = .ok (.invokevirtual 471, 3) := by decide +kernel
theorem dX12_rate_31 : decode cX12_rate 31 = .ok (.aload_n 0, 1) := by decide +kernel
theorem dX12_rate_32 : decode cX12_rate 32 = .ok (.getfield 112, 3) := by decide +kernel
theorem dX12_rate_35 : decode cX12_rate 35 = .ok (.iconst 0, 1) := by decide +kernel
theorem dX12_rate_36 : decode cX12_rate 36 = .ok (.iload_n 1, 1) := by decide +kernel
theorem dX12_rate_37 : decode cX12_rate 37 = .ok (.iastore, 1) := by decide +kernel
theorem dX12_rate_38 : decode cX12_rate 38 = .ok (.iconst 1, 1) := by decide +kernel
theorem dX12_rate_39 : decode cX12_rate 39 = .ok (.ireturn, 1) := by decide +kernel
theorem dX12_weeks_0 : decode cX12_weeks 0 = .ok (.aload_n 0, 1) := by decide +kernel
theorem dX12_weeks_1 : decode cX12_weeks 1 = .ok (.iconst 0, 1) := by decide +kernel
theorem dX12_weeks_2 : decode cX12_weeks 2 = .ok (.putfield 145, 3) := by decide +kernel
theorem dX12_weeks_5 : decode cX12_weeks 5 = .ok (.iload_n 1, 1) := by decide +kernel
theorem dX12_weeks_6 : decode cX12_weeks 6 = .ok (.iconst 0, 1) := by decide +kernel
theorem dX12_weeks_7 : decode cX12_weeks 7 = .ok (.bipush 99, 2) := by decide +kernel
theorem dX12_weeks_9 : decode cX12_weeks 9 = .ok (.invokestatic 190, 3) := by decide +kernel
theorem dX12_weeks_12 : decode cX12_weeks 12 = .ok (.ifCond .eq 17, 3) := by decide +kernel
theorem dX12_weeks_15 : decode cX12_weeks 15 = .ok (.aload_n 0, 1) := by decide +kernel
theorem dX12_weeks_16 : decode cX12_weeks 16 = .ok (.getfield 115, 3) := by decide +kernel
theorem dX12_weeks_19 : decode cX12_weeks 19 = .ok (.iconst 0, 1) := by decide +kernel
theorem dX12_weeks_20 : decode cX12_weeks 20 = .ok (.iaload, 1) := by decide +kernel
theorem dX12_weeks_21 : decode cX12_weeks 21 = .ok (.iload_n 1, 1) := by decide +kernel
theorem dX12_weeks_22 : decode cX12_weeks 22 = .ok (.iadd, 1) := by decide +kernel
theorem dX12_weeks_23 : decode cX12_weeks 23 = .ok (.sipush 9900, 3) := by decide +kernel
theorem dX12_weeks_26 : decode cX12_weeks 26 = .ok (.if_icmp .le 5, 3) := by decide +kernel
theorem dX12_weeks_29 : decode cX12_weeks 29 = .ok (.iconst (-1), 1) := by decide +kernel
theorem dX12_weeks_30 : decode cX12_weeks 30 = .ok (.ireturn, 1) := by decide +kernel
theorem dX12_weeks_31 : decode cX12_weeks 31 = .ok (.aload_n 0, 1) := by decide +kernel
theorem dX12_weeks_32 : decode cX12_weeks 32 = .ok (.invokevirtual 344, 3) := by decide +kernel
theorem dX12_weeks_35 : decode cX12_weeks 35 = .ok (.aload_n 0, 1) := by decide +kernel
theorem dX12_weeks_36 : decode cX12_weeks 36 = .ok (.iconst 1, 1) := by decide +kernel
theorem dX12_weeks_37 : decode cX12_weeks 37 = .ok (.putfield 356, 3) := by decide +kernel
theorem dX12_weeks_40 : decode cX12_weeks 40 = .ok (.iconst 0, 1) := by decide +kernel
theorem dX12_weeks_41 : decode cX12_weeks 41 = .ok (.istore_n 2, 1) := by decide +kernel
theorem dX12_weeks_42 : decode cX12_weeks 42 = .ok (.iload_n 2, 1) := by decide +kernel
theorem dX12_weeks_43 : decode cX12_weeks 43 = .ok (.iload_n 1, 1) := by decide +kernel
theorem dX12_weeks_44 : decode cX12_weeks 44 = .ok (.if_icmp .ge 14, 3) := by decide +kernel
theorem dX12_weeks_47 : decode cX12_weeks 47 = .ok (.aload_n 0, 1) := by decide +kernel
theorem dX12_weeks_48 : decode cX12_weeks 48 = .ok (.iconst 0, 1) := by decide +kernel
theorem dX12_weeks_49 : decode cX12_weeks 49 = .ok (.invokevirtual 445, 3) := by decide +kernel
theorem dX12_weeks_52 : decode cX12_weeks 52 = .ok (.iinc 2 1, 3) := by decide +kernel
theorem dX12_weeks_55 : decode cX12_weeks 55 = .ok (.goto (-13), 3) := by decide +kernel
theorem dX12_weeks_58 : decode cX12_weeks 58 = .ok (.aload_n 0, 1) := by decide +kernel
theorem dX12_weeks_59 : decode cX12_weeks 59 = .ok (.iconst 0, 1) := by decide +kernel
theorem dX12_weeks_60 : decode cX12_weeks 60 = .ok (.putfield 356, 3) := by decide +kernel
theorem dX12_weeks_63 : decode cX12_weeks 63 = .ok (.aload_n 0, 1) := by decide +kernel
theorem dX12_weeks_64 : decode cX12_weeks 64 = .ok (.iload_n 1, 1) := by decide +kernel
theorem dX12_weeks_65 : decode cX12_weeks 65 = .ok (.ifCond .le 7, 3) := by decide +kernel
theorem dX12_weeks_68 : decode cX12_weeks 68 = .ok (.iconst 0, 1) := by decide +kernel
theorem dX12_weeks_69 : decode cX12_weeks 69 = .ok (.goto 7, 3) := by decide +kernel
theorem dX12_weeks_72 : decode cX12_weeks 72 = .ok (.aload_n 0, 1) := by decide +kernel
theorem dX12_weeks_73 : decode cX12_weeks 73 = .ok (.getfield 350, 3) := by decide +kernel
theorem dX12_weeks_76 : decode cX12_weeks 76 = .ok (.putfield 350, 3) := by decide +kernel
theorem dX12_weeks_79 : decode cX12_weeks 79 = .ok (.aload_n 0, 1) := by decide +kernel
theorem dX12_weeks_80 : decode cX12_weeks 80 = .ok (.getfield 115, 3) := by decide +kernel
theorem dX12_weeks_83 : decode cX12_weeks 83 = .ok (.iconst 0, 1) := by decide +kernel
theorem dX12_weeks_84 : decode cX12_weeks 84 = .ok (.iaload, 1) := by decide +kernel
theorem dX12_weeks_85 : decode cX12_weeks 85 = .ok (.ireturn, 1) := by decide +kernel
theorem dX12_ahead_0 : decode cX12_ahead 0 = .ok (.aload_n 0, 1) := by decide +kernel
theorem dX12_ahead_1 : decode cX12_ahead 1 = .ok (.iconst 0, 1) := by decide +kernel
theorem dX12_ahead_2 : decode cX12_ahead 2 = .ok (.putfield 145, 3) := by decide +kernel
theorem dX12_ahead_5 : decode cX12_ahead 5 = .ok (.iload_n 1, 1) := by decide +kernel
theorem dX12_ahead_6 : decode cX12_ahead 6 = .ok (.iconst 0, 1) := by decide +kernel
theorem dX12_ahead_7 : decode cX12_ahead 7 = .ok (.bipush 99, 2) := by decide +kernel
theorem dX12_ahead_9 : decode cX12_ahead 9 = .ok (.invokestatic 190, 3) := by decide +kernel
theorem dX12_ahead_12 : decode cX12_ahead 12 = .ok (.ifCond .eq 12, 3) := by decide +kernel
theorem dX12_ahead_15 : decode cX12_ahead 15 = .ok (.iload_n 2, 1) := by decide +kernel
theorem dX12_ahead_16 : decode cX12_ahead 16 = .ok (.iconst 0, 1) := by decide +kernel
theorem dX12_ahead_17 : decode cX12_ahead 17 = .ok (.iconst 3, 1) := by decide +kernel
theorem dX12_ahead_18 : decode cX12_ahead 18 = .ok (.invokestatic 190, 3) := by decide +kernel
theorem dX12_ahead_21 : decode cX12_ahead 21 = .ok (.ifCond .ne 5, 3) := by decide +kernel
theorem dX12_ahead_24 : decode cX12_ahead 24 = .ok (.iconst (-1), 1) := by decide +kernel
theorem dX12_ahead_25 : decode cX12_ahead 25 = .ok (.ireturn, 1) := by decide +kernel
theorem dX12_ahead_26 : decode cX12_ahead 26 = .ok (.aload_n 0, 1) := by decide +kernel
theorem dX12_ahead_27 : decode cX12_ahead 27 = .ok (.invokevirtual 474, 3) := by decide +kernel
theorem dX12_ahead_30 : decode cX12_ahead 30 = .ok (.aload_n 0, 1) := by decide +kernel
theorem dX12_ahead_31 : decode cX12_ahead 31 = .ok (.iload_n 1, 1) := by decide +kernel
theorem dX12_ahead_32 : decode cX12_ahead 32 = .ok (.invokevirtual 477, 3) := by decide +kernel
theorem dX12_ahead_35 : decode cX12_ahead 35 = .ok (.iload_n 2, 1) := by decide +kernel
theorem dX12_ahead_36 : decode cX12_ahead 36 = .ok (.tableswitch 66 0 2 #[28, 40, 52], 28) := by decide +kernel
theorem dX12_ahead_64 : decode cX12_ahead 64 = .ok (.aload_n 0, 1) := by decide +kernel
theorem dX12_ahead_65 : decode cX12_ahead 65 = .ok (.iconst 1, 1) := by decide +kernel
theorem dX12_ahead_66 : decode cX12_ahead 66 = .ok (.invokevirtual 448, 3) := by decide +kernel
theorem dX12_ahead_69 : decode cX12_ahead 69 = .ok (.aload_n 0, 1) := by decide +kernel
theorem dX12_ahead_70 : decode cX12_ahead 70 = .ok (.iconst 0, 1) := by decide +kernel
theorem dX12_ahead_71 : decode cX12_ahead 71 = .ok (.invokevirtual 448, 3) := by decide +kernel
theorem dX12_ahead_74 : decode cX12_ahead 74 = .ok (.isub, 1) := by decide +kernel
theorem dX12_ahead_75 : decode cX12_ahead 75 = .ok (.ireturn, 1) := by decide +kernel
theorem dX12_ahead_76 : decode cX12_ahead 76 = .ok (.aload_n 0, 1) := by decide +kernel
theorem dX12_ahead_77 : decode cX12_ahead 77 = .ok (.iconst 1, 1) := by decide +kernel
theorem dX12_ahead_78 : decode cX12_ahead 78 = .ok (.invokevirtual 451, 3) := by decide +kernel
theorem dX12_ahead_81 : decode cX12_ahead 81 = .ok (.aload_n 0, 1) := by decide +kernel
theorem dX12_ahead_82 : decode cX12_ahead 82 = .ok (.iconst 0, 1) := by decide +kernel
theorem dX12_ahead_83 : decode cX12_ahead 83 = .ok (.invokevirtual 451, 3) := by decide +kernel
theorem dX12_ahead_86 : decode cX12_ahead 86 = .ok (.isub, 1) := by decide +kernel
theorem dX12_ahead_87 : decode cX12_ahead 87 = .ok (.ireturn, 1) := by decide +kernel
theorem dX12_ahead_88 : decode cX12_ahead 88 = .ok (.aload_n 0, 1) := by decide +kernel
theorem dX12_ahead_89 : decode cX12_ahead 89 = .ok (.iconst 1, 1) := by decide +kernel
theorem dX12_ahead_90 : decode cX12_ahead 90 = .ok (.iconst 2, 1) := by decide +kernel
theorem dX12_ahead_91 : decode cX12_ahead 91 = .ok (.invokevirtual 480, 3) := by decide +kernel
theorem dX12_ahead_94 : decode cX12_ahead 94 = .ok (.aload_n 0, 1) := by decide +kernel
theorem dX12_ahead_95 : decode cX12_ahead 95 = .ok (.iconst 0, 1) := by decide +kernel
theorem dX12_ahead_96 : decode cX12_ahead 96 = .ok (.iconst 2, 1) := by decide +kernel
theorem dX12_ahead_97 : decode cX12_ahead 97 = .ok (.invokevirtual 480, 3) := by decide +kernel
theorem dX12_ahead_100 : decode cX12_ahead 100 = .ok (.isub, 1) := by decide +kernel
theorem dX12_ahead_101 : decode cX12_ahead 101 = .ok (.ireturn, 1) := by decide +kernel
theorem dX12_ahead_102 : decode cX12_ahead 102 = .ok (.aload_n 0, 1) := by decide +kernel
theorem dX12_ahead_103 : decode cX12_ahead 103 = .ok (.iconst 1, 1) := by decide +kernel
theorem dX12_ahead_104 : decode cX12_ahead 104 = .ok (.iconst 1, 1) := by decide +kernel
theorem dX12_ahead_105 : decode cX12_ahead 105 = .ok (.invokevirtual 480, 3) := by decide +kernel
theorem dX12_ahead_108 : decode cX12_ahead 108 = .ok (.ireturn, 1) := by decide +kernel
theorem dX12_likely_0 : decode cX12_likely 0 = .ok (.aload_n 0, 1) := by decide +kernel
theorem dX12_likely_1 : decode cX12_likely 1 = .ok (.iconst 0, 1) := by decide +kernel
theorem dX12_likely_2 : decode cX12_likely 2 = .ok (.putfield 145, 3) := by decide +kernel
theorem dX12_likely_5 : decode cX12_likely 5 = .ok (.aload_n 0, 1) := by decide +kernel
theorem dX12_likely_6 : decode cX12_likely 6 = .ok (.iload_n 1, 1) := by decide +kernel
theorem dX12_likely_7 : decode cX12_likely 7 = .ok (.invokevirtual 454, 3) := by decide +kernel
theorem dX12_likely_10 : decode cX12_likely 10 = .ok (.ifCond .ne 5, 3) := by decide +kernel
theorem dX12_likely_13 : decode cX12_likely 13 = .ok (.iconst (-1), 1) := by decide +kernel
theorem dX12_likely_14 : decode cX12_likely 14 = .ok (.ireturn, 1) := by decide +kernel
theorem dX12_likely_15 : decode cX12_likely 15 = .ok (.aload_n 0, 1) := by decide +kernel
theorem dX12_likely_16 : decode cX12_likely 16 = .ok (.getfield 88, 3) := by decide +kernel
theorem dX12_likely_19 : decode cX12_likely 19 = .ok (.iload_n 1, 1) := by decide +kernel
theorem dX12_likely_20 : decode cX12_likely 20 = .ok (.iaload, 1) := by decide +kernel
theorem dX12_likely_21 : decode cX12_likely 21 = .ok (.iconst 1, 1) := by decide +kernel
theorem dX12_likely_22 : decode cX12_likely 22 = .ok (.if_icmp .eq 6, 3) := by decide +kernel
theorem dX12_likely_25 : decode cX12_likely 25 = .ok (.bipush (-2), 2) := by decide +kernel
theorem dX12_likely_27 : decode cX12_likely 27 = .ok (.ireturn, 1) := by decide +kernel
theorem dX12_likely_28 : decode cX12_likely 28 = .ok (.aload_n 0, 1) := by decide +kernel
theorem dX12_likely_29 : decode cX12_likely 29 = .ok (.invokevirtual 344, 3) := by decide +kernel
theorem dX12_likely_32 : decode cX12_likely 32 = .ok (.aload_n 0, 1) := by decide +kernel
theorem dX12_likely_33 : decode cX12_likely 33 = .ok (.getfield 109, 3) := by decide +kernel
theorem dX12_likely_36 : decode cX12_likely 36 = .ok (.aload_n 0, 1) := by decide +kernel
theorem dX12_likely_37 : decode cX12_likely 37 = .ok (.getfield 91, 3) := by decide +kernel
theorem dX12_likely_40 : decode cX12_likely 40 = .ok (.iload_n 1, 1) := by decide +kernel
theorem dX12_likely_41 : decode cX12_likely 41 = .ok (.iaload, 1) := by decide +kernel
theorem dX12_likely_42 : decode cX12_likely 42 = .ok (.iaload, 1) := by decide +kernel
theorem dX12_likely_43 : decode cX12_likely 43 = .ok (.istore_n 2, 1) := by decide +kernel
theorem dX12_likely_44 : decode cX12_likely 44 = .ok (.iload_n 2, 1) := by decide +kernel
theorem dX12_likely_45 : decode cX12_likely 45 = .ok (.ifCond .lt 12, 3) := by decide +kernel
theorem dX12_likely_48 : decode cX12_likely 48 = .ok (.aload_n 0, 1) := by decide +kernel
theorem dX12_likely_49 : decode cX12_likely 49 = .ok (.iload_n 2, 1) := by decide +kernel
theorem dX12_likely_50 : decode cX12_likely 50 = .ok (.iload_n 1, 1) := by decide +kernel
theorem dX12_likely_51 : decode cX12_likely 51 = .ok (.invokevirtual 421, 3) := by decide +kernel
theorem dX12_likely_54 : decode cX12_likely 54 = .ok (.ifCond .ne 7, 3) := by decide +kernel
theorem dX12_likely_57 : decode cX12_likely 57 = .ok (.iconst 0, 1) := by decide +kernel
theorem dX12_likely_58 : decode cX12_likely 58 = .ok (.goto 16, 3) := by decide +kernel
theorem dX12_likely_61 : decode cX12_likely 61 = .ok (.aload_n 0, 1) := by decide +kernel
theorem dX12_likely_62 : decode cX12_likely 62 = .ok (.iconst 0, 1) := by decide +kernel
theorem dX12_likely_63 : decode cX12_likely 63 = .ok (.iload_n 1, 1) := by decide +kernel
theorem dX12_likely_64 : decode cX12_likely 64 = .ok (.aload_n 0, 1) := by decide +kernel
theorem dX12_likely_65 : decode cX12_likely 65 = .ok (.getfield 91, 3) := by decide +kernel
theorem dX12_likely_68 : decode cX12_likely 68 = .ok (.iload_n 1, 1) := by decide +kernel
theorem dX12_likely_69 : decode cX12_likely 69 = .ok (.iaload, 1) := by decide +kernel
theorem dX12_likely_70 : decode cX12_likely 70 = .ok (.iload_n 2, 1) := by decide +kernel
theorem dX12_likely_71 : decode cX12_likely 71 = .ok (.invokevirtual 424, 3) := by decide +kernel
theorem dX12_likely_74 : decode cX12_likely 74 = .ok (.ireturn, 1) := by decide +kernel
theorem dX12_powerOf_0 : decode cX12_powerOf 0 = .ok (.iconst 1, 1) := by decide +kernel
theorem dX12_powerOf_1 : decode cX12_powerOf 1 = .ok (.istore_n 2, 1) := by decide +kernel
theorem dX12_powerOf_2 : decode cX12_powerOf 2 = .ok (.iconst 0, 1) := by decide +kernel
theorem dX12_powerOf_3 : decode cX12_powerOf 3 = .ok (.istore_n 3, 1) := by decide +kernel
theorem dX12_powerOf_4 : decode cX12_powerOf 4 = .ok (.iload_n 3, 1) := by decide +kernel
theorem dX12_powerOf_5 : decode cX12_powerOf 5 = .ok (.iload_n 1, 1) := by decide +kernel
theorem dX12_powerOf_6 : decode cX12_powerOf 6 = .ok (.if_icmp .ge 13, 3) := by decide +kernel
theorem dX12_powerOf_9 : decode cX12_powerOf 9 = .ok (.iload_n 2, 1) := by decide +kernel
theorem dX12_powerOf_10 : decode cX12_powerOf 10 = .ok (.iload_n 0, 1) := by decide +kernel
theorem dX12_powerOf_11 : decode cX12_powerOf 11 = .ok (.imul, 1) := by decide +kernel
theorem dX12_powerOf_12 : decode cX12_powerOf 12 = .ok (.istore_n 2, 1) := by decide +kernel
theorem dX12_powerOf_13 : decode cX12_powerOf 13 = .ok (.iinc 3 1, 3) := by decide +kernel
theorem dX12_powerOf_16 : decode cX12_powerOf 16 = .ok (.goto (-12), 3) := by decide +kernel
theorem dX12_powerOf_19 : decode cX12_powerOf 19 = .ok (.iload_n 2, 1) := by decide +kernel
theorem dX12_powerOf_20 : decode cX12_powerOf 20 = .ok (.ireturn, 1) := by decide +kernel
theorem dX12_bestRound_0 : decode cX12_bestRound 0 = .ok (.aload_n 0, 1) := by decide +kernel
theorem dX12_bestRound_1 : decode cX12_bestRound 1 = .ok (.iconst 0, 1) := by decide +kernel
theorem dX12_bestRound_2 : decode cX12_bestRound 2 = .ok (.putfield 145, 3) := by decide +kernel
theorem dX12_bestRound_5 : decode cX12_bestRound 5 = .ok (.iload_n 1, 1) := by decide +kernel
theorem dX12_bestRound_6 : decode cX12_bestRound 6 = .ok (.iconst 0, 1) := by decide +kernel
theorem dX12_bestRound_7 : decode cX12_bestRound 7 = .ok (.iconst 4, 1) := by decide +kernel
theorem dX12_bestRound_8 : decode cX12_bestRound 8 = .ok (.invokestatic 190, 3) := by decide +kernel
theorem dX12_bestRound_11 : decode cX12_bestRound 11 = .ok (.ifCond .eq 10, 3) := by decide +kernel
theorem dX12_bestRound_14 : decode cX12_bestRound 14 = .ok (.aload_n 0, 1) := by decide +kernel
theorem dX12_bestRound_15 : decode cX12_bestRound 15 = .ok (.getfield 228, 3) := by decide +kernel
theorem dX12_bestRound_18 : decode cX12_bestRound 18 = .ok (.ifCond .ne 5, 3) := by decide +kernel
theorem dX12_bestRound_21 : decode cX12_bestRound 21 = .ok (.iconst (-1), 1) := by decide +kernel
theorem dX12_bestRound_22 : decode cX12_bestRound 22 = .ok (.ireturn, 1) := by decide +kernel
theorem dX12_bestRound_23 : decode cX12_bestRound 23 = .ok (.aload_n 0, 1) := by decide +kernel
theorem dX12_bestRound_24 : decode cX12_bestRound 24 = .ok (.getfield 222, 3) := by decide +kernel
theorem dX12_bestRound_27 : decode cX12_bestRound 27 = .ok (.iconst 4, 1) := by decide +kernel
theorem dX12_bestRound_28 : decode cX12_bestRound 28 = .ok (.if_icmp .ge 10, 3) := by decide +kernel
theorem dX12_bestRound_31 : decode cX12_bestRound 31 = .ok (.aload_n 0, 1) := by decide +kernel
theorem dX12_bestRound_32 : decode cX12_bestRound 32 = .ok (.getfield 222, 3) := by decide +kernel
theorem dX12_bestRound_35 : decode cX12_bestRound 35 = .ok (.goto 4, 3) := by decide +kernel
theorem dX12_bestRound_38 : decode cX12_bestRound 38 = .ok (.iconst 4, 1) := by decide +kernel
theorem dX12_bestRound_39 : decode cX12_bestRound 39 = .ok (.istore_n 2, 1) := by decide +kernel
theorem dX12_bestRound_40 : decode cX12_bestRound 40 = .ok (.iload_n 1, 1) := by decide +kernel
theorem dX12_bestRound_41 : decode cX12_bestRound 41 = .ok (.iconst 4, 1) := by decide +kernel
theorem dX12_bestRound_42 : decode cX12_bestRound 42 = .ok (.if_icmp .ge 11, 3) := by decide +kernel
theorem dX12_bestRound_45 : decode cX12_bestRound 45 = .ok (.iload_n 1, 1) := by decide +kernel
theorem dX12_bestRound_46 : decode cX12_bestRound 46 = .ok (.iload_n 2, 1) := by decide +kernel
theorem dX12_bestRound_47 : decode cX12_bestRound 47 = .ok (.if_icmp .lt 6, 3) := by decide +kernel
theorem dX12_bestRound_50 : decode cX12_bestRound 50 = .ok (.bipush (-2), 2) := by decide +kernel
theorem dX12_bestRound_52 : decode cX12_bestRound 52 = .ok (.ireturn, 1) := by decide +kernel
theorem dX12_bestRound_53 : decode cX12_bestRound 53 = .ok (.iconst (-1), 1) := by decide +kernel
theorem dX12_bestRound_54 : decode cX12_bestRound 54 = .ok (.istore_n 3, 1) := by decide +kernel
theorem dX12_bestRound_55 : decode cX12_bestRound 55 = .ok (.iconst 0, 1) := by decide +kernel
theorem dX12_bestRound_56 : decode cX12_bestRound 56 = .ok (.istore 4, 2) := by decide +kernel
theorem dX12_bestRound_58 : decode cX12_bestRound 58 = .ok (.iconst 0, 1) := by decide +kernel
theorem dX12_bestRound_59 : decode cX12_bestRound 59 = .ok (.istore 5, 2) := by decide +kernel
theorem dX12_bestRound_61 : decode cX12_bestRound 61 = .ok (.iload 5, 2) := by decide +kernel
theorem dX12_bestRound_63 : decode cX12_bestRound 63 = .ok (.aload_n 0, 1) := by decide +kernel
theorem dX12_bestRound_64 : decode cX12_bestRound 64 = .ok (.getfield 228, 3) := by decide +kernel
theorem dX12_bestRound_67 : decode cX12_bestRound 67 = .ok (.iload_n 2, 1) := by decide +kernel
theorem dX12_bestRound_68 : decode cX12_bestRound 68 = .ok (.invokestatic 483, 3) := by decide +kernel
theorem dX12_bestRound_71 : decode cX12_bestRound 71 = .ok (.if_icmp .ge 96, 3) := by decide +kernel
theorem dX12_bestRound_74 : decode cX12_bestRound 74 = .ok (.aload_n 0, 1) := by decide +kernel
theorem dX12_bestRound_75 : decode cX12_bestRound 75 = .ok (.invokevirtual 474, 3) := by decide +kernel
theorem dX12_bestRound_78 : decode cX12_bestRound 78 = .ok (.iconst 0, 1) := by decide +kernel
theorem dX12_bestRound_79 : decode cX12_bestRound 79 = .ok (.istore 6, 2) := by decide +kernel
theorem dX12_bestRound_81 : decode cX12_bestRound 81 = .ok (.iload 6, 2) := by decide +kernel
theorem dX12_bestRound_83 : decode cX12_bestRound 83 = .ok (.iload_n 2, 1) := by decide +kernel
theorem dX12_bestRound_84 : decode cX12_bestRound 84 = .ok (.if_icmp .ge 40, 3) := by decide +kernel
theorem dX12_bestRound_87 : decode cX12_bestRound 87 = .ok (.aload_n 0, 1) := by decide +kernel
theorem dX12_bestRound_88 : decode cX12_bestRound 88 = .ok (.getfield 109, 3) := by decide +kernel
theorem dX12_bestRound_91 : decode cX12_bestRound 91 = .ok (.bipush 6, 2) := by decide +kernel
theorem dX12_bestRound_93 : decode cX12_bestRound 93 = .ok (.iload 6, 2) := by decide +kernel
theorem dX12_bestRound_95 : decode cX12_bestRound 95 = .ok (.iadd, 1) := by decide +kernel
theorem dX12_bestRound_96 : decode cX12_bestRound 96 = .ok (.iload 5, 2) := by decide +kernel
theorem dX12_bestRound_98 : decode cX12_bestRound 98 = .ok (.aload_n 0, 1) := by decide +kernel
theorem dX12_bestRound_99 : decode cX12_bestRound 99 = .ok (.getfield 228, 3) := by decide +kernel
theorem dX12_bestRound_102 : decode cX12_bestRound 102 = .ok (.iload_n 2, 1) := by decide +kernel
theorem dX12_bestRound_103 : decode cX12_bestRound 103 = .ok (.iconst 1, 1) := by decide +kernel
theorem dX12_bestRound_104 : decode cX12_bestRound 104 = .ok (.isub, 1) := by decide +kernel
theorem dX12_bestRound_105 : decode cX12_bestRound 105 = .ok (.iload 6, 2) := by decide +kernel
theorem dX12_bestRound_107 : decode cX12_bestRound 107 = .ok (.isub, 1) := by decide +kernel
theorem dX12_bestRound_108 : decode cX12_bestRound 108 = .ok (.invokestatic 483, 3) := by decide +kernel
theorem dX12_bestRound_111 : decode cX12_bestRound 111 = .ok (.idiv, 1) := by decide +kernel
theorem dX12_bestRound_112 : decode cX12_bestRound 112 = .ok (.aload_n 0, 1) := by decide +kernel
theorem dX12_bestRound_113 : decode cX12_bestRound 113 = .ok (.getfield 228, 3) := by decide +kernel
theorem dX12_bestRound_116 : decode cX12_bestRound 116 = .ok (.irem, 1) := by decide +kernel
theorem dX12_bestRound_117 : decode cX12_bestRound 117 = .ok (.iastore, 1) := by decide +kernel
theorem dX12_bestRound_118 : decode cX12_bestRound 118 = .ok (.iinc 6 1, 3) := by decide +kernel
theorem dX12_bestRound_121 : decode cX12_bestRound 121 = .ok (.goto (-40), 3) := by decide +kernel
theorem dX12_bestRound_124 : decode cX12_bestRound 124 = .ok (.aload_n 0, 1) := by decide +kernel
theorem dX12_bestRound_125 : decode cX12_bestRound 125 = .ok (.iconst 1, 1) := by decide +kernel
theorem dX12_bestRound_126 : decode cX12_bestRound 126 = .ok (.putfield 368, 3) := by decide +kernel
theorem dX12_bestRound_129 : decode cX12_bestRound 129 = .ok (.aload_n 0, 1) := by decide +kernel
theorem dX12_bestRound_130 : decode cX12_bestRound 130 = .ok (.iconst 1, 1) := by decide +kernel
theorem dX12_bestRound_131 : decode cX12_bestRound 131 = .ok (.invokevirtual 445, 3) := by decide +kernel
theorem dX12_bestRound_134 : decode cX12_bestRound 134 = .ok (.aload_n 0, 1) := by decide +kernel
theorem dX12_bestRound_135 : decode cX12_bestRound 135 = .ok (.invokevirtual 486, 3) := by decide +kernel
theorem dX12_bestRound_138 : decode cX12_bestRound 138 = .ok (.istore 6, 2) := by decide +kernel
theorem dX12_bestRound_140 : decode cX12_bestRound 140 = .ok (.iload_n 3, 1) := by decide +kernel
theorem dX12_bestRound_141 : decode cX12_bestRound 141 = .ok (.ifCond .lt 13, 3) := by decide +kernel
theorem dX12_bestRound_144 : decode cX12_bestRound 144 = .ok (.iload 6, 2) := by decide +kernel
theorem dX12_bestRound_146 : decode cX12_bestRound 146 = .ok (.iload 4, 2) := by decide +kernel
theorem dX12_bestRound_148 : decode cX12_bestRound 148 = .ok (.if_icmp .gt 6, 3) := by decide +kernel
theorem dX12_bestRound_151 : decode cX12_bestRound 151 = .ok (.goto 10, 3) := by decide +kernel
theorem dX12_bestRound_154 : decode cX12_bestRound 154 = .ok (.iload 5, 2) := by decide +kernel
theorem dX12_bestRound_156 : decode cX12_bestRound 156 = .ok (.istore_n 3, 1) := by decide +kernel
theorem dX12_bestRound_157 : decode cX12_bestRound 157 = .ok (.iload 6, 2) := by decide +kernel
theorem dX12_bestRound_159 : decode cX12_bestRound 159 = .ok (.istore 4, 2) := by decide +kernel
theorem dX12_bestRound_161 : decode cX12_bestRound 161 = .ok (.iinc 5 1, 3) := by decide +kernel
theorem dX12_bestRound_164 : decode cX12_bestRound 164 = .ok (.goto (-103), 3) := by decide +kernel
theorem dX12_bestRound_167 : decode cX12_bestRound 167 = .ok (.aload_n 0, 1) := by decide +kernel
theorem dX12_bestRound_168 : decode cX12_bestRound 168 = .ok (.invokevirtual 344, 3) := by decide +kernel
theorem dX12_bestRound_171 : decode cX12_bestRound 171 = .ok (.iload_n 1, 1) := by decide +kernel
theorem dX12_bestRound_172 : decode cX12_bestRound 172 = .ok (.iconst 4, 1) := by decide +kernel
theorem dX12_bestRound_173 : decode cX12_bestRound 173 = .ok (.if_icmp .ne 8, 3) := by decide +kernel
theorem dX12_bestRound_176 : decode cX12_bestRound 176 = .ok (.iload 4, 2) := by decide +kernel
theorem dX12_bestRound_178 : decode cX12_bestRound 178 = .ok (.goto 22, 3) := by decide +kernel
theorem dX12_bestRound_181 : decode cX12_bestRound 181 = .ok (.iload_n 3, 1) := by decide +kernel
theorem dX12_bestRound_182 : decode cX12_bestRound 182 = .ok (.aload_n 0, 1) := by decide +kernel
theorem dX12_bestRound_183 : decode cX12_bestRound 183 = .ok (.getfield 228, 3) := by decide +kernel
theorem dX12_bestRound_186 : decode cX12_bestRound 186 = .ok (.iload_n 2, 1) := by decide +kernel
theorem dX12_bestRound_187 : decode cX12_bestRound 187 = .ok (.iconst 1, 1) := by decide +kernel
theorem dX12_bestRound_188 : decode cX12_bestRound 188 = .ok (.isub, 1) := by decide +kernel
theorem dX12_bestRound_189 : decode cX12_bestRound 189 = .ok (.iload_n 1, 1) := by decide +kernel
theorem dX12_bestRound_190 : decode cX12_bestRound 190 = .ok (.isub, 1) := by decide +kernel
theorem dX12_bestRound_191 : decode cX12_bestRound 191 = .ok (.invokestatic 483, 3) := by decide +kernel
theorem dX12_bestRound_194 : decode cX12_bestRound 194 = .ok (.idiv, 1) := by decide +kernel
theorem dX12_bestRound_195 : decode cX12_bestRound 195 = .ok (.aload_n 0, 1) := by decide +kernel
theorem dX12_bestRound_196 : decode cX12_bestRound 196 = .ok (.getfield 228, 3) := by decide +kernel
theorem dX12_bestRound_199 : decode cX12_bestRound 199 = .ok (.irem, 1) := by decide +kernel
theorem dX12_bestRound_200 : decode cX12_bestRound 200 = .ok (.ireturn, 1) := by decide +kernel
theorem dX12_hideIn_0 : decode cX12_hideIn 0 = .ok (.aload_n 0, 1) := by decide +kernel
theorem dX12_hideIn_1 : decode cX12_hideIn 1 = .ok (.iconst 0, 1) := by decide +kernel
theorem dX12_hideIn_2 : decode cX12_hideIn 2 = .ok (.putfield 145, 3) := by decide +kernel
theorem dX12_hideIn_5 : decode cX12_hideIn 5 = .ok (.aload_n 0, 1) := by decide +kernel
theorem dX12_hideIn_6 : decode cX12_hideIn 6 = .ok (.iload_n 1, 1) := by decide +kernel
theorem dX12_hideIn_7 : decode cX12_hideIn 7 = .ok (.invokevirtual 454, 3) := by decide +kernel
theorem dX12_hideIn_10 : decode cX12_hideIn 10 = .ok (.ifCond .eq 12, 3) := by decide +kernel
theorem dX12_hideIn_13 : decode cX12_hideIn 13 = .ok (.iload_n 2, 1) := by decide +kernel
theorem dX12_hideIn_14 : decode cX12_hideIn 14 = .ok (.iconst 0, 1) := by decide +kernel
theorem dX12_hideIn_15 : decode cX12_hideIn 15 = .ok (.iconst 1, 1) := by decide +kernel
theorem dX12_hideIn_16 : decode cX12_hideIn 16 = .ok (.invokestatic 190, 3) := by decide +kernel
theorem dX12_hideIn_19 : decode cX12_hideIn 19 = .ok (.ifCond .ne 5, 3) := by decide +kernel
theorem dX12_hideIn_22 : decode cX12_hideIn 22 = .ok (.iconst (-1), 1) := by decide +kernel
theorem dX12_hideIn_23 : decode cX12_hideIn 23 = .ok (.ireturn, 1) := by decide +kernel
theorem dX12_hideIn_24 : decode cX12_hideIn 24 = .ok (.aload_n 0, 1) := by decide +kernel
theorem dX12_hideIn_25 : decode cX12_hideIn 25 = .ok (.getfield 88, 3) := by decide +kernel
theorem dX12_hideIn_28 : decode cX12_hideIn 28 = .ok (.iload_n 1, 1) := by decide +kernel
theorem dX12_hideIn_29 : decode cX12_hideIn 29 = .ok (.iaload, 1) := by decide +kernel
theorem dX12_hideIn_30 : decode cX12_hideIn 30 = .ok (.iconst 1, 1) := by decide +kernel
theorem dX12_hideIn_31 : decode cX12_hideIn 31 = .ok (.if_icmp .eq 6, 3) := by decide +kernel
theorem dX12_hideIn_34 : decode cX12_hideIn 34 = .ok (.bipush (-2), 2) := by decide +kernel
theorem dX12_hideIn_36 : decode cX12_hideIn 36 = .ok (.ireturn, 1) := by decide +kernel
theorem dX12_hideIn_37 : decode cX12_hideIn 37 = .ok (.iconst (-1), 1) := by decide +kernel
theorem dX12_hideIn_38 : decode cX12_hideIn 38 = .ok (.istore_n 3, 1) := by decide +kernel
theorem dX12_hideIn_39 : decode cX12_hideIn 39 = .ok (.iconst 0, 1) := by decide +kernel
theorem dX12_hideIn_40 : decode cX12_hideIn 40 = .ok (.istore 4, 2) := by decide +kernel
theorem dX12_hideIn_42 : decode cX12_hideIn 42 = .ok (.iconst 0, 1) := by decide +kernel
theorem dX12_hideIn_43 : decode cX12_hideIn 43 = .ok (.istore 5, 2) := by decide +kernel
theorem dX12_hideIn_45 : decode cX12_hideIn 45 = .ok (.iload 5, 2) := by decide +kernel
theorem dX12_hideIn_47 : decode cX12_hideIn 47 = .ok (.aload_n 0, 1) := by decide +kernel
theorem dX12_hideIn_48 : decode cX12_hideIn 48 = .ok (.getfield 222, 3) := by decide +kernel
theorem dX12_hideIn_51 : decode cX12_hideIn 51 = .ok (.if_icmp .ge 55, 3) := by decide +kernel
theorem dX12_hideIn_54 : decode cX12_hideIn 54 = .ok (.aload_n 0, 1) := by decide +kernel
theorem dX12_hideIn_55 : decode cX12_hideIn 55 = .ok (.invokevirtual 474, 3) := by decide +kernel
theorem dX12_hideIn_58 : decode cX12_hideIn 58 = .ok (.aload_n 0, 1) := by decide +kernel
theorem dX12_hideIn_59 : decode cX12_hideIn 59 = .ok (.getfield 91, 3) := by decide +kernel
theorem dX12_hideIn_62 : decode cX12_hideIn 62 = .ok (.bipush 12, 2) := by decide +kernel
theorem dX12_hideIn_64 : decode cX12_hideIn 64 = .ok (.iload_n 1, 1) := by decide +kernel
theorem dX12_hideIn_65 : decode cX12_hideIn 65 = .ok (.iadd, 1) := by decide +kernel
theorem dX12_hideIn_66 : decode cX12_hideIn 66 = .ok (.iload 5, 2) := by decide +kernel
theorem dX12_hideIn_68 : decode cX12_hideIn 68 = .ok (.iastore, 1) := by decide +kernel
theorem dX12_hideIn_69 : decode cX12_hideIn 69 = .ok (.aload_n 0, 1) := by decide +kernel
theorem dX12_hideIn_70 : decode cX12_hideIn 70 = .ok (.bipush 12, 2) := by decide +kernel
theorem dX12_hideIn_72 : decode cX12_hideIn 72 = .ok (.invokevirtual 477, 3) := by decide +kernel
theorem dX12_hideIn_75 : decode cX12_hideIn 75 = .ok (.iload_n 3, 1) := by decide +kernel
theorem dX12_hideIn_76 : decode cX12_hideIn 76 = .ok (.ifCond .lt 15, 3) := by decide +kernel
theorem dX12_hideIn_79 : decode cX12_hideIn 79 = .ok (.aload_n 0, 1) := by decide +kernel
theorem dX12_hideIn_80 : decode cX12_hideIn 80 = .ok (.invokevirtual 486, 3) := by decide +kernel
theorem dX12_hideIn_83 : decode cX12_hideIn 83 = .ok (.iload 4, 2) := by decide +kernel
theorem dX12_hideIn_85 : decode cX12_hideIn 85 = .ok (.if_icmp .lt 6, 3) := by decide +kernel
theorem dX12_hideIn_88 : decode cX12_hideIn 88 = .ok (.goto 12, 3) := by decide +kernel
theorem dX12_hideIn_91 : decode cX12_hideIn 91 = .ok (.iload 5, 2) := by decide +kernel
theorem dX12_hideIn_93 : decode cX12_hideIn 93 = .ok (.istore_n 3, 1) := by decide +kernel
theorem dX12_hideIn_94 : decode cX12_hideIn 94 = .ok (.aload_n 0, 1) := by decide +kernel
theorem dX12_hideIn_95 : decode cX12_hideIn 95 = .ok (.invokevirtual 486, 3) := by decide +kernel
theorem dX12_hideIn_98 : decode cX12_hideIn 98 = .ok (.istore 4, 2) := by decide +kernel
theorem dX12_hideIn_100 : decode cX12_hideIn 100 = .ok (.iinc 5 1, 3) := by decide +kernel
theorem dX12_hideIn_103 : decode cX12_hideIn 103 = .ok (.goto (-58), 3) := by decide +kernel
theorem dX12_hideIn_106 : decode cX12_hideIn 106 = .ok (.iload_n 2, 1) := by decide +kernel
theorem dX12_hideIn_107 : decode cX12_hideIn 107 = .ok (.ifCond .ne 7, 3) := by decide +kernel
theorem dX12_hideIn_110 : decode cX12_hideIn 110 = .ok (.iload_n 3, 1) := by decide +kernel
theorem dX12_hideIn_111 : decode cX12_hideIn 111 = .ok (.goto 5, 3) := by decide +kernel
theorem dX12_hideIn_114 : decode cX12_hideIn 114 = .ok (.iload 4, 2) := by decide +kernel
theorem dX12_hideIn_116 : decode cX12_hideIn 116 = .ok (.ireturn, 1) := by decide +kernel
theorem dX12_bestRate_0 : decode cX12_bestRate 0 = .ok (.aload_n 0, 1) := by decide +kernel
theorem dX12_bestRate_1 : decode cX12_bestRate 1 = .ok (.iconst 0, 1) := by decide +kernel
theorem dX12_bestRate_2 : decode cX12_bestRate 2 = .ok (.putfield 145, 3) := by decide +kernel
theorem dX12_bestRate_5 : decode cX12_bestRate 5 = .ok (.iload_n 1, 1) := by decide +kernel
theorem dX12_bestRate_6 : decode cX12_bestRate 6 = .ok (.iconst 1, 1) := by decide +kernel
theorem dX12_bestRate_7 : decode cX12_bestRate 7 = .ok (.bipush 40, 2) := by decide +kernel
theorem dX12_bestRate_9 : decode cX12_bestRate 9 = .ok (.invokestatic 190, 3) := by decide +kernel
theorem dX12_bestRate_12 : decode cX12_bestRate 12 = .ok (.ifCond .eq 12, 3) := by decide +kernel
theorem dX12_bestRate_15 : decode cX12_bestRate 15 = .ok (.iload_n 2, 1) := by decide +kernel
theorem dX12_bestRate_16 : decode cX12_bestRate 16 = .ok (.iconst 0, 1) := by decide +kernel
theorem dX12_bestRate_17 : decode cX12_bestRate 17 = .ok (.iconst 1, 1) := by decide +kernel
theorem dX12_bestRate_18 : decode cX12_bestRate 18 = .ok (.invokestatic 190, 3) := by decide +kernel
theorem dX12_bestRate_21 : decode cX12_bestRate 21 = .ok (.ifCond .ne 5, 3) := by decide +kernel
theorem dX12_bestRate_24 : decode cX12_bestRate 24 = .ok (.iconst (-1), 1) := by decide +kernel
theorem dX12_bestRate_25 : decode cX12_bestRate 25 = .ok (.ireturn, 1) := by decide +kernel
theorem dX12_bestRate_26 : decode cX12_bestRate 26 = .ok (.iconst (-1), 1) := by decide +kernel
theorem dX12_bestRate_27 : decode cX12_bestRate 27 = .ok (.istore_n 3, 1) := by decide +kernel
theorem dX12_bestRate_28 : decode cX12_bestRate 28 = .ok (.iconst 0, 1) := by decide +kernel
theorem dX12_bestRate_29 : decode cX12_bestRate 29 = .ok (.istore 4, 2) := by decide +kernel
theorem dX12_bestRate_31 : decode cX12_bestRate 31 = .ok (.iconst 0, 1) := by decide +kernel
theorem dX12_bestRate_32 : decode cX12_bestRate 32 = .ok (.istore 5, 2) := by decide +kernel
theorem dX12_bestRate_34 : decode cX12_bestRate 34 = .ok (.iload 5, 2) := by decide +kernel
theorem dX12_bestRate_36 : decode cX12_bestRate 36 = .ok (.bipush 100, 2) := by decide +kernel
theorem dX12_bestRate_38 : decode cX12_bestRate 38 = .ok (.if_icmp .gt 60, 3) := by decide +kernel
theorem dX12_bestRate_41 : decode cX12_bestRate 41 = .ok (.aload_n 0, 1) := by decide +kernel
theorem dX12_bestRate_42 : decode cX12_bestRate 42 = .ok (.invokevirtual 474, 3) := by decide +kernel
theorem dX12_bestRate_45 : decode cX12_bestRate 45 = .ok (.aload_n 0, 1) := by decide +kernel
theorem dX12_bestRate_46 : decode cX12_bestRate 46 = .ok (.getfield 112, 3) := by decide +kernel
theorem dX12_bestRate_49 : decode cX12_bestRate 49 = .ok (.iconst 1, 1) := by decide +kernel
theorem dX12_bestRate_50 : decode cX12_bestRate 50 = .ok (.iload 5, 2) := by decide +kernel
theorem dX12_bestRate_52 : decode cX12_bestRate 52 = .ok (.iastore, 1) := by decide +kernel
theorem dX12_bestRate_53 : decode cX12_bestRate 53 = .ok (.aload_n 0, 1) := by decide +kernel
theorem dX12_bestRate_54 : decode cX12_bestRate 54 = .ok (.iload_n 1, 1) := by decide +kernel
theorem dX12_bestRate_55 : decode cX12_bestRate 55 = .ok (.invokevirtual 477, 3) := by decide +kernel
theorem dX12_bestRate_58 : decode cX12_bestRate 58 = .ok (.aload_n 0, 1) := by decide +kernel
theorem dX12_bestRate_59 : decode cX12_bestRate 59 = .ok (.iconst 1, 1) := by decide +kernel
theorem dX12_bestRate_60 : decode cX12_bestRate 60 = .ok (.invokevirtual 448, 3) := by decide +kernel
theorem dX12_bestRate_63 : decode cX12_bestRate 63 = .ok (.aload_n 0, 1) := by decide +kernel
theorem dX12_bestRate_64 : decode cX12_bestRate 64 = .ok (.iconst 0, 1) := by decide +kernel
theorem dX12_bestRate_65 : decode cX12_bestRate 65 = .ok (.invokevirtual 448, 3) := by decide +kernel
theorem dX12_bestRate_68 : decode cX12_bestRate 68 = .ok (.isub, 1) := by decide +kernel
theorem dX12_bestRate_69 : decode cX12_bestRate 69 = .ok (.istore 6, 2) := by decide +kernel
theorem dX12_bestRate_71 : decode cX12_bestRate 71 = .ok (.iload_n 3, 1) := by decide +kernel
theorem dX12_bestRate_72 : decode cX12_bestRate 72 = .ok (.ifCond .lt 13, 3) := by decide +kernel
theorem dX12_bestRate_75 : decode cX12_bestRate 75 = .ok (.iload 6, 2) := by decide +kernel
theorem dX12_bestRate_77 : decode cX12_bestRate 77 = .ok (.iload 4, 2) := by decide +kernel
theorem dX12_bestRate_79 : decode cX12_bestRate 79 = .ok (.if_icmp .gt 6, 3) := by decide +kernel
theorem dX12_bestRate_82 : decode cX12_bestRate 82 = .ok (.goto 10, 3) := by decide +kernel
theorem dX12_bestRate_85 : decode cX12_bestRate 85 = .ok (.iload 5, 2) := by decide +kernel
theorem dX12_bestRate_87 : decode cX12_bestRate 87 = .ok (.istore_n 3, 1) := by decide +kernel
theorem dX12_bestRate_88 : decode cX12_bestRate 88 = .ok (.iload 6, 2) := by decide +kernel
theorem dX12_bestRate_90 : decode cX12_bestRate 90 = .ok (.istore 4, 2) := by decide +kernel
theorem dX12_bestRate_92 : decode cX12_bestRate 92 = .ok (.iinc 5 1, 3) := by decide +kernel
theorem dX12_bestRate_95 : decode cX12_bestRate 95 = .ok (.goto (-61), 3) := by decide +kernel
theorem dX12_bestRate_98 : decode cX12_bestRate 98 = .ok (.iload_n 2, 1) := by decide +kernel
theorem dX12_bestRate_99 : decode cX12_bestRate 99 = .ok (.ifCond .ne 7, 3) := by decide +kernel
theorem dX12_bestRate_102 : decode cX12_bestRate 102 = .ok (.iload_n 3, 1) := by decide +kernel
theorem dX12_bestRate_103 : decode cX12_bestRate 103 = .ok (.goto 5, 3) := by decide +kernel
theorem dX12_bestRate_106 : decode cX12_bestRate 106 = .ok (.iload 4, 2) := by decide +kernel
theorem dX12_bestRate_108 : decode cX12_bestRate 108 = .ok (.ireturn, 1) := by decide +kernel
theorem dX12_worthless_0 : decode cX12_worthless 0 = .ok (.aload_n 0, 1) := by decide +kernel
theorem dX12_worthless_1 : decode cX12_worthless 1 = .ok (.iconst 0, 1) := by decide +kernel
theorem dX12_worthless_2 : decode cX12_worthless 2 = .ok (.putfield 145, 3) := by decide +kernel
theorem dX12_worthless_5 : decode cX12_worthless 5 = .ok (.iconst 0, 1) := by decide +kernel
theorem dX12_worthless_6 : decode cX12_worthless 6 = .ok (.istore_n 1, 1) := by decide +kernel
theorem dX12_worthless_7 : decode cX12_worthless 7 = .ok (.iconst 0, 1) := by decide +kernel
theorem dX12_worthless_8 : decode cX12_worthless 8 = .ok (.istore_n 2, 1) := by decide +kernel
theorem dX12_worthless_9 : decode cX12_worthless 9 = .ok (.iload_n 2, 1) := by decide +kernel
theorem dX12_worthless_10 : decode cX12_worthless 10 = .ok (.aload_n 0, 1) := by decide +kernel
theorem dX12_worthless_11 : decode cX12_worthless 11 = .ok (.getfield 225, 3) := by decide +kernel
theorem dX12_worthless_14 : decode cX12_worthless 14 = .ok (.if_icmp .ge 80, 3) := by decide +kernel
theorem dX12_worthless_17 : decode cX12_worthless 17 = .ok (.aload_n 0, 1) := by decide +kernel
theorem dX12_worthless_18 : decode cX12_worthless 18 = .ok (.getfield 88, 3) := by decide +kernel
theorem dX12_worthless_21 : decode cX12_worthless 21 = .ok (.iload_n 2, 1) := by decide +kernel
theorem dX12_worthless_22 : decode cX12_worthless 22 = .ok (.iaload, 1) := by decide +kernel
theorem dX12_worthless_23 : decode cX12_worthless 23 = .ok (.ifCond .eq 6, 3) := by decide +kernel
theorem dX12_worthless_26 : decode cX12_worthless 26 = .ok (.goto 62, 3) := by decide +kernel
theorem dX12_worthless_29 : decode cX12_worthless 29 = .ok (.aload_n 0, 1) := by decide +kernel
theorem dX12_worthless_30 : decode cX12_worthless 30 = .ok (.getfield 36, 3) := by decide +kernel
theorem dX12_worthless_33 : decode cX12_worthless 33 = .ok (.iload_n 2, 1) := by decide +kernel
theorem dX12_worthless_34 : decode cX12_worthless 34 = .ok (.iaload, 1) := by decide +kernel
theorem dX12_worthless_35 : decode cX12_worthless 35 = .ok (.istore_n 3, 1) := by decide +kernel
theorem dX12_worthless_36 : decode cX12_worthless 36 = .ok (.aload_n 0, 1) := by decide +kernel
theorem dX12_worthless_37 : decode cX12_worthless 37 = .ok (.invokevirtual 474, 3) := by decide +kernel
theorem dX12_worthless_40 : decode cX12_worthless 40 = .ok (.aload_n 0, 1) := by decide +kernel
theorem dX12_worthless_41 : decode cX12_worthless 41 = .ok (.bipush 20, 2) := by decide +kernel
theorem dX12_worthless_43 : decode cX12_worthless 43 = .ok (.invokevirtual 477, 3) := by decide +kernel
theorem dX12_worthless_46 : decode cX12_worthless 46 = .ok (.aload_n 0, 1) := by decide +kernel
theorem dX12_worthless_47 : decode cX12_worthless 47 = .ok (.iload_n 3, 1) := by decide +kernel
theorem dX12_worthless_48 : decode cX12_worthless 48 = .ok (.invokevirtual 489, 3) := by decide +kernel
theorem dX12_worthless_51 : decode cX12_worthless 51 = .ok (.istore 4, 2) := by decide +kernel
theorem dX12_worthless_53 : decode cX12_worthless 53 = .ok (.aload_n 0, 1) := by decide +kernel
theorem dX12_worthless_54 : decode cX12_worthless 54 = .ok (.invokevirtual 474, 3) := by decide +kernel
theorem dX12_worthless_57 : decode cX12_worthless 57 = .ok (.aload_n 0, 1) := by decide +kernel
theorem dX12_worthless_58 : decode cX12_worthless 58 = .ok (.iload_n 2, 1) := by decide +kernel
theorem dX12_worthless_59 : decode cX12_worthless 59 = .ok (.putfield 374, 3) := by decide +kernel
theorem dX12_worthless_62 : decode cX12_worthless 62 = .ok (.aload_n 0, 1) := by decide +kernel
theorem dX12_worthless_63 : decode cX12_worthless 63 = .ok (.bipush 20, 2) := by decide +kernel
theorem dX12_worthless_65 : decode cX12_worthless 65 = .ok (.invokevirtual 477, 3) := by decide +kernel
theorem dX12_worthless_68 : decode cX12_worthless 68 = .ok (.iload_n 1, 1) := by decide +kernel
theorem dX12_worthless_69 : decode cX12_worthless 69 = .ok (.aload_n 0, 1) := by decide +kernel
theorem dX12_worthless_70 : decode cX12_worthless 70 = .ok (.iload_n 3, 1) := by decide +kernel
theorem dX12_worthless_71 : decode cX12_worthless 71 = .ok (.invokevirtual 489, 3) := by decide +kernel
theorem dX12_worthless_74 : decode cX12_worthless 74 = .ok (.iload 4, 2) := by decide +kernel
theorem dX12_worthless_76 : decode cX12_worthless 76 = .ok (.if_icmp .ge 9, 3) := by decide +kernel
theorem dX12_worthless_79 : decode cX12_worthless 79 = .ok (.iconst 1, 1) := by decide +kernel
theorem dX12_worthless_80 : decode cX12_worthless 80 = .ok (.iload_n 2, 1) := by decide +kernel
theorem dX12_worthless_81 : decode cX12_worthless 81 = .ok (.ishl, 1) := by decide +kernel
theorem dX12_worthless_82 : decode cX12_worthless 82 = .ok (.goto 4, 3) := by decide +kernel
theorem dX12_worthless_85 : decode cX12_worthless 85 = .ok (.iconst 0, 1) := by decide +kernel
theorem dX12_worthless_86 : decode cX12_worthless 86 = .ok (.ior, 1) := by decide +kernel
theorem dX12_worthless_87 : decode cX12_worthless 87 = .ok (.istore_n 1, 1) := by decide +kernel
theorem dX12_worthless_88 : decode cX12_worthless 88 = .ok (.iinc 2 1, 3) := by decide +kernel
theorem dX12_worthless_91 : decode cX12_worthless 91 = .ok (.goto (-82), 3) := by decide +kernel
theorem dX12_worthless_94 : decode cX12_worthless 94 = .ok (.aload_n 0, 1) := by decide +kernel
theorem dX12_worthless_95 : decode cX12_worthless 95 = .ok (.invokevirtual 344, 3) := by decide +kernel
theorem dX12_worthless_98 : decode cX12_worthless 98 = .ok (.iload_n 1, 1) := by decide +kernel
theorem dX12_worthless_99 : decode cX12_worthless 99 = .ok (.ireturn, 1) := by decide +kernel
theorem dX12_share_0 : decode cX12_share 0 = .ok (.aload_n 0, 1) := by decide +kernel
theorem dX12_share_1 : decode cX12_share 1 = .ok (.iconst 0, 1) := by decide +kernel
theorem dX12_share_2 : decode cX12_share 2 = .ok (.putfield 145, 3) := by decide +kernel
theorem dX12_share_5 : decode cX12_share 5 = .ok (.aload_n 0, 1) := by decide +kernel
theorem dX12_share_6 : decode cX12_share 6 = .ok (.iload_n 1, 1) := by decide +kernel
theorem dX12_share_7 : decode cX12_share 7 = .ok (.invokevirtual 454, 3) := by decide +kernel
theorem dX12_share_10 : decode cX12_share 10 = .ok (.ifCond .eq 35, 3) := by decide +kernel
theorem dX12_share_13 : decode cX12_share 13 = .ok (.aload_n 0, 1) := by decide +kernel
theorem dX12_share_14 : decode cX12_share 14 = .ok (.iload_n 2, 1) := by decide +kernel
theorem dX12_share_15 : decode cX12_share 15 = .ok (.invokevirtual 454, 3) := by decide +kernel
theorem dX12_share_18 : decode cX12_share 18 = .ok (.ifCond .eq 27, 3) := by decide +kernel
theorem dX12_share_21 : decode cX12_share 21 = .ok (.aload_n 0, 1) := by decide +kernel
theorem dX12_share_22 : decode cX12_share 22 = .ok (.getfield 36, 3) := by decide +kernel
theorem dX12_share_25 : decode cX12_share 25 = .ok (.iload_n 1, 1) := by decide +kernel
theorem dX12_share_26 : decode cX12_share 26 = .ok (.iaload, 1) := by decide +kernel
theorem dX12_share_27 : decode cX12_share 27 = .ok (.aload_n 0, 1) := by decide +kernel
theorem dX12_share_28 : decode cX12_share 28 = .ok (.getfield 36, 3) := by decide +kernel
theorem dX12_share_31 : decode cX12_share 31 = .ok (.iload_n 2, 1) := by decide +kernel
theorem dX12_share_32 : decode cX12_share 32 = .ok (.iaload, 1) := by decide +kernel
theorem dX12_share_33 : decode cX12_share 33 = .ok (.if_icmp .eq 12, 3) := by decide +kernel
theorem dX12_share_36 : decode cX12_share 36 = .ok (.iload_n 3, 1) := by decide +kernel
theorem dX12_share_37 : decode cX12_share 37 = .ok (.iconst 0, 1) := by decide +kernel
theorem dX12_share_38 : decode cX12_share 38 = .ok (.iconst 1, 1) := by decide +kernel
theorem dX12_share_39 : decode cX12_share 39 = .ok (.invokestatic 190, 3) := by decide +kernel
theorem dX12_share_42 : decode cX12_share 42 = .ok (.ifCond .ne 5, 3) := by decide +kernel
theorem dX12_share_45 : decode cX12_share 45 = .ok (.iconst (-1), 1) := by decide +kernel
theorem dX12_share_46 : decode cX12_share 46 = .ok (.ireturn, 1) := by decide +kernel
theorem dX12_share_47 : decode cX12_share 47 = .ok (.aload_n 0, 1) := by decide +kernel
theorem dX12_share_48 : decode cX12_share 48 = .ok (.getfield 39, 3) := by decide +kernel
theorem dX12_share_51 : decode cX12_share 51 = .ok (.iload_n 1, 1) := by decide +kernel
theorem dX12_share_52 : decode cX12_share 52 = .ok (.iaload, 1) := by decide +kernel
theorem dX12_share_53 : decode cX12_share 53 = .ok (.istore 4, 2) := by decide +kernel
theorem dX12_share_55 : decode cX12_share 55 = .ok (.aload_n 0, 1) := by decide +kernel
theorem dX12_share_56 : decode cX12_share 56 = .ok (.getfield 39, 3) := by decide +kernel
theorem dX12_share_59 : decode cX12_share 59 = .ok (.iload_n 2, 1) := by decide +kernel
theorem dX12_share_60 : decode cX12_share 60 = .ok (.iaload, 1) := by decide +kernel
theorem dX12_share_61 : decode cX12_share 61 = .ok (.istore 5, 2) := by decide +kernel
theorem dX12_share_63 : decode cX12_share 63 = .ok (.iload 4, 2) := by decide +kernel
theorem dX12_share_65 : decode cX12_share 65 = .ok (.iload 5, 2) := by decide +kernel
theorem dX12_share_67 : decode cX12_share 67 = .ok (.if_icmp .le 8, 3) := by decide +kernel
theorem dX12_share_70 : decode cX12_share 70 = .ok (.iload 4, 2) := by decide +kernel
theorem dX12_share_72 : decode cX12_share 72 = .ok (.goto 5, 3) := by decide +kernel
theorem dX12_share_75 : decode cX12_share 75 = .ok (.iload 5, 2) := by decide +kernel
theorem dX12_share_77 : decode cX12_share 77 = .ok (.aload_n 0, 1) := by decide +kernel
theorem dX12_share_78 : decode cX12_share 78 = .ok (.getfield 112, 3) := by decide +kernel
theorem dX12_share_81 : decode cX12_share 81 = .ok (.iconst 0, 1) := by decide +kernel
theorem dX12_share_82 : decode cX12_share 82 = .ok (.iaload, 1) := by decide +kernel
theorem dX12_share_83 : decode cX12_share 83 = .ok (.imul, 1) := by decide +kernel
theorem dX12_share_84 : decode cX12_share 84 = .ok (.bipush 100, 2) := by decide +kernel
theorem dX12_share_86 : decode cX12_share 86 = .ok (.idiv, 1) := by decide +kernel
theorem dX12_share_87 : decode cX12_share 87 = .ok (.istore 6, 2) := by decide +kernel
theorem dX12_share_89 : decode cX12_share 89 = .ok (.iload 6, 2) := by decide +kernel
theorem dX12_share_91 : decode cX12_share 91 = .ok (.iload 4, 2) := by decide +kernel
theorem dX12_share_93 : decode cX12_share 93 = .ok (.imul, 1) := by decide +kernel
theorem dX12_share_94 : decode cX12_share 94 = .ok (.iload 4, 2) := by decide +kernel
theorem dX12_share_96 : decode cX12_share 96 = .ok (.iload 5, 2) := by decide +kernel
theorem dX12_share_98 : decode cX12_share 98 = .ok (.iadd, 1) := by decide +kernel
theorem dX12_share_99 : decode cX12_share 99 = .ok (.idiv, 1) := by decide +kernel
theorem dX12_share_100 : decode cX12_share 100 = .ok (.istore 7, 2) := by decide +kernel
theorem dX12_share_102 : decode cX12_share 102 = .ok (.iload_n 3, 1) := by decide +kernel
theorem dX12_share_103 : decode cX12_share 103 = .ok (.ifCond .ne 8, 3) := by decide +kernel
theorem dX12_share_106 : decode cX12_share 106 = .ok (.iload 7, 2) := by decide +kernel
theorem dX12_share_108 : decode cX12_share 108 = .ok (.goto 8, 3) := by decide +kernel
theorem dX12_share_111 : decode cX12_share 111 = .ok (.iload 6, 2) := by decide +kernel
theorem dX12_share_113 : decode cX12_share 113 = .ok (.iload 7, 2) := by decide +kernel
theorem dX12_share_115 : decode cX12_share 115 = .ok (.isub, 1) := by decide +kernel
theorem dX12_share_116 : decode cX12_share 116 = .ok (.ireturn, 1) := by decide +kernel
theorem dX12_chain_0 : decode cX12_chain 0 = .ok (.aload_n 0, 1) := by decide +kernel
theorem dX12_chain_1 : decode cX12_chain 1 = .ok (.iconst 0, 1) := by decide +kernel
theorem dX12_chain_2 : decode cX12_chain 2 = .ok (.putfield 145, 3) := by decide +kernel
theorem dX12_chain_5 : decode cX12_chain 5 = .ok (.iload_n 1, 1) := by decide +kernel
theorem dX12_chain_6 : decode cX12_chain 6 = .ok (.ifCond .lt 13, 3) := by decide +kernel
theorem dX12_chain_9 : decode cX12_chain 9 = .ok (.iload_n 1, 1) := by decide +kernel
theorem dX12_chain_10 : decode cX12_chain 10 = .ok (.iconst 1, 1) := by decide +kernel
theorem dX12_chain_11 : decode cX12_chain 11 = .ok (.aload_n 0, 1) := by decide +kernel
theorem dX12_chain_12 : decode cX12_chain 12 = .ok (.getfield 228, 3) := by decide +kernel
theorem dX12_chain_15 : decode cX12_chain 15 = .ok (.ishl, 1) := by decide +kernel
theorem dX12_chain_16 : decode cX12_chain 16 = .ok (.if_icmp .lt 5, 3) := by decide +kernel
theorem dX12_chain_19 : decode cX12_chain 19 = .ok (.iconst (-1), 1) := by decide +kernel
theorem dX12_chain_20 : decode cX12_chain 20 = .ok (.ireturn, 1) := by decide +kernel
theorem dX12_chain_21 : decode cX12_chain 21 = .ok (.bipush 100, 2) := by decide +kernel
theorem dX12_chain_23 : decode cX12_chain 23 = .ok (.istore_n 2, 1) := by decide +kernel
theorem dX12_chain_24 : decode cX12_chain 24 = .ok (.iconst 0, 1) := by decide +kernel
theorem dX12_chain_25 : decode cX12_chain 25 = .ok (.istore_n 3, 1) := by decide +kernel
theorem dX12_chain_26 : decode cX12_chain 26 = .ok (.iload_n 3, 1) := by decide +kernel
theorem dX12_chain_27 : decode cX12_chain 27 = .ok (.bipush 10, 2) := by decide +kernel
theorem dX12_chain_29 : decode cX12_chain 29 = .ok (.if_icmp .ge 58, 3) := by decide +kernel
theorem dX12_chain_32 : decode cX12_chain 32 = .ok (.iconst 0, 1) := by decide +kernel
theorem dX12_chain_33 : decode cX12_chain 33 = .ok (.istore 4, 2) := by decide +kernel
theorem dX12_chain_35 : decode cX12_chain 35 = .ok (.iload 4, 2) := by decide +kernel
theorem dX12_chain_37 : decode cX12_chain 37 = .ok (.aload_n 0, 1) := by decide +kernel
theorem dX12_chain_38 : decode cX12_chain 38 = .ok (.getfield 228, 3) := by decide +kernel
theorem dX12_chain_41 : decode cX12_chain 41 = .ok (.if_icmp .ge 40, 3) := by decide +kernel
theorem dX12_chain_44 : decode cX12_chain 44 = .ok (.iload_n 1, 1) := by decide +kernel
theorem dX12_chain_45 : decode cX12_chain 45 = .ok (.iload 4, 2) := by decide +kernel
theorem dX12_chain_47 : decode cX12_chain 47 = .ok (.invokestatic 383, 3) := by decide +kernel
theorem dX12_chain_50 : decode cX12_chain 50 = .ok (.ifCond .eq 23, 3) := by decide +kernel
theorem dX12_chain_53 : decode cX12_chain 53 = .ok (.aload_n 0, 1) := by decide +kernel
theorem dX12_chain_54 : decode cX12_chain 54 = .ok (.getfield 51, 3) := by decide +kernel
theorem dX12_chain_57 : decode cX12_chain 57 = .ok (.iload 4, 2) := by decide +kernel
theorem dX12_chain_59 : decode cX12_chain 59 = .ok (.iaload, 1) := by decide +kernel
theorem dX12_chain_60 : decode cX12_chain 60 = .ok (.iload_n 3, 1) := by decide +kernel
theorem dX12_chain_61 : decode cX12_chain 61 = .ok (.if_icmp .ne 12, 3) := by decide +kernel
theorem dX12_chain_64 : decode cX12_chain 64 = .ok (.iload_n 2, 1) := by decide +kernel
theorem dX12_chain_65 : decode cX12_chain 65 = .ok (.iload_n 3, 1) := by decide +kernel
theorem dX12_chain_66 : decode cX12_chain 66 = .ok (.imul, 1) := by decide +kernel
theorem dX12_chain_67 : decode cX12_chain 67 = .ok (.bipush 10, 2) := by decide +kernel
theorem dX12_chain_69 : decode cX12_chain 69 = .ok (.idiv, 1) := by decide +kernel
theorem dX12_chain_70 : decode cX12_chain 70 = .ok (.goto 4, 3) := by decide +kernel
theorem dX12_chain_73 : decode cX12_chain 73 = .ok (.iload_n 2, 1) := by decide +kernel
theorem dX12_chain_74 : decode cX12_chain 74 = .ok (.istore_n 2, 1) := by decide +kernel
theorem dX12_chain_75 : decode cX12_chain 75 = .ok (.iinc 4 1, 3) := by decide +kernel
theorem dX12_chain_78 : decode cX12_chain 78 = .ok (.goto (-43), 3) := by decide +kernel
theorem dX12_chain_81 : decode cX12_chain 81 = .ok (.iinc 3 1, 3) := by decide +kernel
theorem dX12_chain_84 : decode cX12_chain 84 = .ok (.goto (-58), 3) := by decide +kernel
theorem dX12_chain_87 : decode cX12_chain 87 = .ok (.iload_n 2, 1) := by decide +kernel
theorem dX12_chain_88 : decode cX12_chain 88 = .ok (.ireturn, 1) := by decide +kernel
theorem dX12_taxBy_0 : decode cX12_taxBy 0 = .ok (.iconst 0, 1) := by decide +kernel
theorem dX12_taxBy_1 : decode cX12_taxBy 1 = .ok (.istore_n 3, 1) := by decide +kernel
theorem dX12_taxBy_2 : decode cX12_taxBy 2 = .ok (.iconst 0, 1) := by decide +kernel
theorem dX12_taxBy_3 : decode cX12_taxBy 3 = .ok (.istore 4, 2) := by decide +kernel
theorem dX12_taxBy_5 : decode cX12_taxBy 5 = .ok (.iload 4, 2) := by decide +kernel
theorem dX12_taxBy_7 : decode cX12_taxBy 7 = .ok (.aload_n 0, 1) := by decide +kernel
theorem dX12_taxBy_8 : decode cX12_taxBy 8 = .ok (.getfield 225, 3) := by decide +kernel
theorem dX12_taxBy_11 : decode cX12_taxBy 11 = .ok (.if_icmp .ge 34, 3) := by decide +kernel
theorem dX12_taxBy_14 : decode cX12_taxBy 14 = .ok (.iload_n 3, 1) := by decide +kernel
theorem dX12_taxBy_15 : decode cX12_taxBy 15 = .ok (.aload_n 0, 1) := by decide +kernel
theorem dX12_taxBy_16 : decode cX12_taxBy 16 = .ok (.getfield 88, 3) := by decide +kernel
theorem dX12_taxBy_19 : decode cX12_taxBy 19 = .ok (.iload 4, 2) := by decide +kernel
theorem dX12_taxBy_21 : decode cX12_taxBy 21 = .ok (.iaload, 1) := by decide +kernel
theorem dX12_taxBy_22 : decode cX12_taxBy 22 = .ok (.iconst 1, 1) := by decide +kernel
theorem dX12_taxBy_23 : decode cX12_taxBy 23 = .ok (.if_icmp .ne 13, 3) := by decide +kernel
theorem dX12_taxBy_26 : decode cX12_taxBy 26 = .ok (.aload_n 0, 1) := by decide +kernel
theorem dX12_taxBy_27 : decode cX12_taxBy 27 = .ok (.getfield 39, 3) := by decide +kernel
theorem dX12_taxBy_30 : decode cX12_taxBy 30 = .ok (.iload 4, 2) := by decide +kernel
theorem dX12_taxBy_32 : decode cX12_taxBy 32 = .ok (.iaload, 1) := by decide +kernel
theorem dX12_taxBy_33 : decode cX12_taxBy 33 = .ok (.goto 4, 3) := by decide +kernel
theorem dX12_taxBy_36 : decode cX12_taxBy 36 = .ok (.iconst 0, 1) := by decide +kernel
theorem dX12_taxBy_37 : decode cX12_taxBy 37 = .ok (.iadd, 1) := by decide +kernel
theorem dX12_taxBy_38 : decode cX12_taxBy 38 = .ok (.istore_n 3, 1) := by decide +kernel
theorem dX12_taxBy_39 : decode cX12_taxBy 39 = .ok (.iinc 4 1, 3) := by decide +kernel
theorem dX12_taxBy_42 : decode cX12_taxBy 42 = .ok (.goto (-37), 3) := by decide +kernel
theorem dX12_taxBy_45 : decode cX12_taxBy 45 = .ok (.iload_n 1, 1) := by decide +kernel
theorem dX12_taxBy_46 : decode cX12_taxBy 46 = .ok (.iconst 1, 1) := by decide +kernel
theorem dX12_taxBy_47 : decode cX12_taxBy 47 = .ok (.iadd, 1) := by decide +kernel
theorem dX12_taxBy_48 : decode cX12_taxBy 48 = .ok (.iload_n 2, 1) := by decide +kernel
theorem dX12_taxBy_49 : decode cX12_taxBy 49 = .ok (.isub, 1) := by decide +kernel
theorem dX12_taxBy_50 : decode cX12_taxBy 50 = .ok (.istore 4, 2) := by decide +kernel
theorem dX12_taxBy_52 : decode cX12_taxBy 52 = .ok (.iload 4, 2) := by decide +kernel
theorem dX12_taxBy_54 : decode cX12_taxBy 54 = .ok (.iconst 2, 1) := by decide +kernel
theorem dX12_taxBy_55 : decode cX12_taxBy 55 = .ok (.if_icmp .ne 7, 3) := by decide +kernel
theorem dX12_taxBy_58 : decode cX12_taxBy 58 = .ok (.iload_n 3, 1) := by decide +kernel
theorem dX12_taxBy_59 : decode cX12_taxBy 59 = .ok (.goto 16, 3) := by decide +kernel
theorem dX12_taxBy_62 : decode cX12_taxBy 62 = .ok (.iload 4, 2) := by decide +kernel
theorem dX12_taxBy_64 : decode cX12_taxBy 64 = .ok (.iconst 1, 1) := by decide +kernel
theorem dX12_taxBy_65 : decode cX12_taxBy 65 = .ok (.if_icmp .ne 9, 3) := by decide +kernel
theorem dX12_taxBy_68 : decode cX12_taxBy 68 = .ok (.iload_n 3, 1) := by decide +kernel
theorem dX12_taxBy_69 : decode cX12_taxBy 69 = .ok (.iconst 2, 1) := by decide +kernel
theorem dX12_taxBy_70 : decode cX12_taxBy 70 = .ok (.idiv, 1) := by decide +kernel
theorem dX12_taxBy_71 : decode cX12_taxBy 71 = .ok (.goto 4, 3) := by decide +kernel
theorem dX12_taxBy_74 : decode cX12_taxBy 74 = .ok (.iconst 0, 1) := by decide +kernel
theorem dX12_taxBy_75 : decode cX12_taxBy 75 = .ok (.aload_n 0, 1) := by decide +kernel
theorem dX12_taxBy_76 : decode cX12_taxBy 76 = .ok (.getfield 112, 3) := by decide +kernel
theorem dX12_taxBy_79 : decode cX12_taxBy 79 = .ok (.iconst 0, 1) := by decide +kernel
theorem dX12_taxBy_80 : decode cX12_taxBy 80 = .ok (.iaload, 1) := by decide +kernel
theorem dX12_taxBy_81 : decode cX12_taxBy 81 = .ok (.imul, 1) := by decide +kernel
theorem dX12_taxBy_82 : decode cX12_taxBy 82 = .ok (.bipush 100, 2) := by decide +kernel
theorem dX12_taxBy_84 : decode cX12_taxBy 84 = .ok (.idiv, 1) := by decide +kernel
theorem dX12_taxBy_85 : decode cX12_taxBy 85 = .ok (.ireturn, 1) := by decide +kernel
theorem dX12_streetHas_0 : decode cX12_streetHas 0 = .ok (.aload_n 0, 1) := by decide +kernel
theorem dX12_streetHas_1 : decode cX12_streetHas 1 = .ok (.iload_n 1, 1) := by decide +kernel
theorem dX12_streetHas_2 : decode cX12_streetHas 2 = .ok (.iload_n 2, 1) := by decide +kernel
theorem dX12_streetHas_3 : decode cX12_streetHas 3 = .ok (.invokevirtual 492, 3) := by decide +kernel
theorem dX12_streetHas_6 : decode cX12_streetHas 6 = .ok (.ineg, 1) := by decide +kernel
theorem dX12_streetHas_7 : decode cX12_streetHas 7 = .ok (.iload_n 1, 1) := by decide +kernel
theorem dX12_streetHas_8 : decode cX12_streetHas 8 = .ok (.ifCond .ne 7, 3) := by decide +kernel
theorem dX12_streetHas_11 : decode cX12_streetHas 11 = .ok (.iconst 5, 1) := by decide +kernel
theorem dX12_streetHas_12 : decode cX12_streetHas 12 = .ok (.goto 4, 3) := by decide +kernel
theorem dX12_streetHas_15 : decode cX12_streetHas 15 = .ok (.iconst 0, 1) := by decide +kernel
theorem dX12_streetHas_16 : decode cX12_streetHas 16 = .ok (.isub, 1) := by decide +kernel
theorem dX12_streetHas_17 : decode cX12_streetHas 17 = .ok (.ireturn, 1) := by decide +kernel
theorem dX12_readerHas_0 : decode cX12_readerHas 0 = .ok (.aload_n 0, 1) := by decide +kernel
theorem dX12_readerHas_1 : decode cX12_readerHas 1 = .ok (.iload_n 1, 1) := by decide +kernel
theorem dX12_readerHas_2 : decode cX12_readerHas 2 = .ok (.iload_n 2, 1) := by decide +kernel
theorem dX12_readerHas_3 : decode cX12_readerHas 3 = .ok (.invokevirtual 492, 3) := by decide +kernel
theorem dX12_readerHas_6 : decode cX12_readerHas 6 = .ok (.iload_n 2, 1) := by decide +kernel
theorem dX12_readerHas_7 : decode cX12_readerHas 7 = .ok (.ifCond .ne 7, 3) := by decide +kernel
theorem dX12_readerHas_10 : decode cX12_readerHas 10 = .ok (.iconst 3, 1) := by decide +kernel
theorem dX12_readerHas_11 : decode cX12_readerHas 11 = .ok (.goto 4, 3) := by decide +kernel
theorem dX12_readerHas_14 : decode cX12_readerHas 14 = .ok (.iconst 0, 1) := by decide +kernel
theorem dX12_readerHas_15 : decode cX12_readerHas 15 = .ok (.isub, 1) := by decide +kernel
theorem dX12_readerHas_16 : decode cX12_readerHas 16 = .ok (.ireturn, 1) := by decide +kernel
theorem dX12_restAt_0 : decode cX12_restAt 0 = .ok (.iconst 0, 1) := by decide +kernel
theorem dX12_restAt_1 : decode cX12_restAt 1 = .ok (.istore_n 2, 1) := by decide +kernel
theorem dX12_restAt_2 : decode cX12_restAt 2 = .ok (.iconst 0, 1) := by decide +kernel
theorem dX12_restAt_3 : decode cX12_restAt 3 = .ok (.istore_n 3, 1) := by decide +kernel
theorem dX12_restAt_4 : decode cX12_restAt 4 = .ok (.iload_n 3, 1) := by decide +kernel
theorem dX12_restAt_5 : decode cX12_restAt 5 = .ok (.iconst 4, 1) := by decide +kernel
theorem dX12_restAt_6 : decode cX12_restAt 6 = .ok (.if_icmp .ge 81, 3) := by decide +kernel
theorem dX12_restAt_9 : decode cX12_restAt 9 = .ok (.iload_n 3, 1) := by decide +kernel
theorem dX12_restAt_10 : decode cX12_restAt 10 = .ok (.iconst 2, 1) := by decide +kernel
theorem dX12_restAt_11 : decode cX12_restAt 11 = .ok (.idiv, 1) := by decide +kernel
theorem dX12_restAt_12 : decode cX12_restAt 12 = .ok (.istore 4, 2) := by decide +kernel
theorem dX12_restAt_14 : decode cX12_restAt 14 = .ok (.iload_n 3, 1) := by decide +kernel
theorem dX12_restAt_15 : decode cX12_restAt 15 = .ok (.iconst 2, 1) := by decide +kernel
theorem dX12_restAt_16 : decode cX12_restAt 16 = .ok (.irem, 1) := by decide +kernel
theorem dX12_restAt_17 : decode cX12_restAt 17 = .ok (.istore 5, 2) := by decide +kernel
theorem dX12_restAt_19 : decode cX12_restAt 19 = .ok (.aload_n 0, 1) := by decide +kernel
theorem dX12_restAt_20 : decode cX12_restAt 20 = .ok (.iconst 1, 1) := by decide +kernel
theorem dX12_restAt_21 : decode cX12_restAt 21 = .ok (.iload 4, 2) := by decide +kernel
theorem dX12_restAt_23 : decode cX12_restAt 23 = .ok (.isub, 1) := by decide +kernel
theorem dX12_restAt_24 : decode cX12_restAt 24 = .ok (.iload 5, 2) := by decide +kernel
theorem dX12_restAt_26 : decode cX12_restAt 26 = .ok (.invokevirtual 495, 3) := by decide +kernel
theorem dX12_restAt_29 : decode cX12_restAt 29 = .ok (.aload_n 0, 1) := by decide +kernel
theorem dX12_restAt_30 : decode cX12_restAt 30 = .ok (.iload 4, 2) := by decide +kernel
theorem dX12_restAt_32 : decode cX12_restAt 32 = .ok (.iload 5, 2) := by decide +kernel
theorem dX12_restAt_34 : decode cX12_restAt 34 = .ok (.invokevirtual 495, 3) := by decide +kernel
theorem dX12_restAt_37 : decode cX12_restAt 37 = .ok (.if_icmp .gt 44, 3) := by decide +kernel
theorem dX12_restAt_40 : decode cX12_restAt 40 = .ok (.aload_n 0, 1) := by decide +kernel
theorem dX12_restAt_41 : decode cX12_restAt 41 = .ok (.iload 4, 2) := by decide +kernel
theorem dX12_restAt_43 : decode cX12_restAt 43 = .ok (.iconst 1, 1) := by decide +kernel
theorem dX12_restAt_44 : decode cX12_restAt 44 = .ok (.iload 5, 2) := by decide +kernel
theorem dX12_restAt_46 : decode cX12_restAt 46 = .ok (.isub, 1) := by decide +kernel
theorem dX12_restAt_47 : decode cX12_restAt 47 = .ok (.invokevirtual 498, 3) := by decide +kernel
theorem dX12_restAt_50 : decode cX12_restAt 50 = .ok (.aload_n 0, 1) := by decide +kernel
theorem dX12_restAt_51 : decode cX12_restAt 51 = .ok (.iload 4, 2) := by decide +kernel
theorem dX12_restAt_53 : decode cX12_restAt 53 = .ok (.iload 5, 2) := by decide +kernel
theorem dX12_restAt_55 : decode cX12_restAt 55 = .ok (.invokevirtual 498, 3) := by decide +kernel
theorem dX12_restAt_58 : decode cX12_restAt 58 = .ok (.if_icmp .le 6, 3) := by decide +kernel
theorem dX12_restAt_61 : decode cX12_restAt 61 = .ok (.goto 20, 3) := by decide +kernel
theorem dX12_restAt_64 : decode cX12_restAt 64 = .ok (.iload_n 2, 1) := by decide +kernel
theorem dX12_restAt_65 : decode cX12_restAt 65 = .ok (.iload_n 1, 1) := by decide +kernel
theorem dX12_restAt_66 : decode cX12_restAt 66 = .ok (.if_icmp .ne 12, 3) := by decide +kernel
theorem dX12_restAt_69 : decode cX12_restAt 69 = .ok (.bipush 10, 2) := by decide +kernel
theorem dX12_restAt_71 : decode cX12_restAt 71 = .ok (.iload 4, 2) := by decide +kernel
theorem dX12_restAt_73 : decode cX12_restAt 73 = .ok (.imul, 1) := by decide +kernel
theorem dX12_restAt_74 : decode cX12_restAt 74 = .ok (.iload 5, 2) := by decide +kernel
theorem dX12_restAt_76 : decode cX12_restAt 76 = .ok (.iadd, 1) := by decide +kernel
theorem dX12_restAt_77 : decode cX12_restAt 77 = .ok (.ireturn, 1) := by decide +kernel
theorem dX12_restAt_78 : decode cX12_restAt 78 = .ok (.iinc 2 1, 3) := by decide +kernel
theorem dX12_restAt_81 : decode cX12_restAt 81 = .ok (.iinc 3 1, 3) := by decide +kernel
theorem dX12_restAt_84 : decode cX12_restAt 84 = .ok (.goto (-80), 3) := by decide +kernel
theorem dX12_restAt_87 : decode cX12_restAt 87 = .ok (.iload_n 1, 1) := by decide +kernel
theorem dX12_restAt_88 : decode cX12_restAt 88 = .ok (.ifCond .ge 7, 3) := by decide +kernel
theorem dX12_restAt_91 : decode cX12_restAt 91 = .ok (.iload_n 2, 1) := by decide +kernel
theorem dX12_restAt_92 : decode cX12_restAt 92 = .ok (.goto 5, 3) := by decide +kernel
theorem dX12_restAt_95 : decode cX12_restAt 95 = .ok (.bipush (-2), 2) := by decide +kernel
theorem dX12_restAt_97 : decode cX12_restAt 97 = .ok (.ireturn, 1) := by decide +kernel
theorem dX12_rests_0 : decode cX12_rests 0 = .ok (.aload_n 0, 1) := by decide +kernel
theorem dX12_rests_1 : decode cX12_rests 1 = .ok (.iconst 0, 1) := by decide +kernel
theorem dX12_rests_2 : decode cX12_rests 2 = .ok (.putfield 145, 3) := by decide +kernel
theorem dX12_rests_5 : decode cX12_rests 5 = .ok (.aload_n 0, 1) := by decide +kernel
theorem dX12_rests_6 : decode cX12_rests 6 = .ok (.iconst (-1), 1) := by decide +kernel
theorem dX12_rests_7 : decode cX12_rests 7 = .ok (.invokevirtual 501, 3) := by decide +kernel
theorem dX12_rests_10 : decode cX12_rests 10 = .ok (.ireturn, 1) := by decide +kernel
theorem dX12_rest_0 : decode cX12_rest 0 = .ok (.aload_n 0, 1) := by decide +kernel
theorem dX12_rest_1 : decode cX12_rest 1 = .ok (.iconst 0, 1) := by decide +kernel
theorem dX12_rest_2 : decode cX12_rest 2 = .ok (.putfield 145, 3) := by decide +kernel
theorem dX12_rest_5 : decode cX12_rest 5 = .ok (.iload_n 1, 1) := by decide +kernel
theorem dX12_rest_6 : decode cX12_rest 6 = .ok (.ifCond .ge 7, 3) := by decide +kernel
theorem dX12_rest_9 : decode cX12_rest 9 = .ok (.iconst (-1), 1) := by decide +kernel
theorem dX12_rest_10 : decode cX12_rest 10 = .ok (.goto 8, 3) := by decide +kernel
theorem dX12_rest_13 : decode cX12_rest 13 = .ok (.aload_n 0, 1) := by decide +kernel
theorem dX12_rest_14 : decode cX12_rest 14 = .ok (.iload_n 1, 1) := by decide +kernel
theorem dX12_rest_15 : decode cX12_rest 15 = .ok (.invokevirtual 501, 3) := by decide +kernel
theorem dX12_rest_18 : decode cX12_rest 18 = .ok (.ireturn, 1) := by decide +kernel
theorem dX12_enough_0 : decode cX12_enough 0 = .ok (.aload_n 0, 1) := by decide +kernel
theorem dX12_enough_1 : decode cX12_enough 1 = .ok (.iconst 0, 1) := by decide +kernel
theorem dX12_enough_2 : decode cX12_enough 2 = .ok (.putfield 145, 3) := by decide +kernel
theorem dX12_enough_5 : decode cX12_enough 5 = .ok (.aload_n 0, 1) := by decide +kernel
theorem dX12_enough_6 : decode cX12_enough 6 = .ok (.iload_n 1, 1) := by decide +kernel
theorem dX12_enough_7 : decode cX12_enough 7 = .ok (.invokevirtual 460, 3) := by decide +kernel
theorem dX12_enough_10 : decode cX12_enough 10 = .ok (.ifCond .ne 5, 3) := by decide +kernel
theorem dX12_enough_13 : decode cX12_enough 13 = .ok (.iconst (-1), 1) := by decide +kernel
theorem dX12_enough_14 : decode cX12_enough 14 = .ok (.ireturn, 1) := by decide +kernel
theorem dX12_enough_15 : decode cX12_enough 15 = .ok (.iconst 0, 1) := by decide +kernel
theorem dX12_enough_16 : decode cX12_enough 16 = .ok (.istore_n 2, 1) := by decide +kernel
theorem dX12_enough_17 : decode cX12_enough 17 = .ok (.aload_n 0, 1) := by decide +kernel
theorem dX12_enough_18 : decode cX12_enough 18 = .ok (.getfield 106, 3) := by decide +kernel
theorem dX12_enough_21 : decode cX12_enough 21 = .ok (.iload_n 1, 1) := by decide +kernel
theorem dX12_enough_22 : decode cX12_enough 22 = .ok (.iaload, 1) := by decide +kernel
theorem dX12_enough_23 : decode cX12_enough 23 = .ok (.iload_n 2, 1) := by decide +kernel
theorem dX12_enough_24 : decode cX12_enough 24 = .ok (.iadd, 1) := by decide +kernel
theorem dX12_enough_25 : decode cX12_enough 25 = .ok (.bipush 9, 2) := by decide +kernel
theorem dX12_enough_27 : decode cX12_enough 27 = .ok (.if_icmp .gt 115, 3) := by decide +kernel
theorem dX12_enough_30 : decode cX12_enough 30 = .ok (.aload_n 0, 1) := by decide +kernel
theorem dX12_enough_31 : decode cX12_enough 31 = .ok (.invokevirtual 474, 3) := by decide +kernel
theorem dX12_enough_34 : decode cX12_enough 34 = .ok (.aload_n 0, 1) := by decide +kernel
theorem dX12_enough_35 : decode cX12_enough 35 = .ok (.getfield 106, 3) := by decide +kernel
theorem dX12_enough_38 : decode cX12_enough 38 = .ok (.bipush 6, 2) := by decide +kernel
theorem dX12_enough_40 : decode cX12_enough 40 = .ok (.iload_n 1, 1) := by decide +kernel
theorem dX12_enough_41 : decode cX12_enough 41 = .ok (.iadd, 1) := by decide +kernel
theorem dX12_enough_42 : decode cX12_enough 42 = .ok (.aload_n 0, 1) := by decide +kernel
theorem dX12_enough_43 : decode cX12_enough 43 = .ok (.getfield 106, 3) := by decide +kernel
theorem dX12_enough_46 : decode cX12_enough 46 = .ok (.iload_n 1, 1) := by decide +kernel
theorem dX12_enough_47 : decode cX12_enough 47 = .ok (.iaload, 1) := by decide +kernel
theorem dX12_enough_48 : decode cX12_enough 48 = .ok (.iload_n 2, 1) := by decide +kernel
theorem dX12_enough_49 : decode cX12_enough 49 = .ok (.iadd, 1) := by decide +kernel
theorem dX12_enough_50 : decode cX12_enough 50 = .ok (.iastore, 1) := by decide +kernel
theorem dX12_enough_51 : decode cX12_enough 51 = .ok (.aload_n 0, 1) := by decide +kernel
theorem dX12_enough_52 : decode cX12_enough 52 = .ok (.getfield 109, 3) := by decide +kernel
theorem dX12_enough_55 : decode cX12_enough 55 = .ok (.iload_n 1, 1) := by decide +kernel
theorem dX12_enough_56 : decode cX12_enough 56 = .ok (.iaload, 1) := by decide +kernel
theorem dX12_enough_57 : decode cX12_enough 57 = .ok (.istore_n 3, 1) := by decide +kernel
theorem dX12_enough_58 : decode cX12_enough 58 = .ok (.iconst 0, 1) := by decide +kernel
theorem dX12_enough_59 : decode cX12_enough 59 = .ok (.istore 4, 2) := by decide +kernel
theorem dX12_enough_61 : decode cX12_enough 61 = .ok (.iconst 0, 1) := by decide +kernel
theorem dX12_enough_62 : decode cX12_enough 62 = .ok (.istore 5, 2) := by decide +kernel
theorem dX12_enough_64 : decode cX12_enough 64 = .ok (.iload 5, 2) := by decide +kernel
theorem dX12_enough_66 : decode cX12_enough 66 = .ok (.aload_n 0, 1) := by decide +kernel
theorem dX12_enough_67 : decode cX12_enough 67 = .ok (.getfield 225, 3) := by decide +kernel
theorem dX12_enough_70 : decode cX12_enough 70 = .ok (.if_icmp .ge 59, 3) := by decide +kernel
theorem dX12_enough_73 : decode cX12_enough 73 = .ok (.iload 4, 2) := by decide +kernel
theorem dX12_enough_75 : decode cX12_enough 75 = .ok (.ifCond .ne 41, 3) := by decide +kernel
theorem dX12_enough_78 : decode cX12_enough 78 = .ok (.iload_n 3, 1) := by decide +kernel
theorem dX12_enough_79 : decode cX12_enough 79 = .ok (.ifCond .lt 41, 3) := by decide +kernel
theorem dX12_enough_82 : decode cX12_enough 82 = .ok (.aload_n 0, 1) := by decide +kernel
theorem dX12_enough_83 : decode cX12_enough 83 = .ok (.getfield 88, 3) := by decide +kernel
theorem dX12_enough_86 : decode cX12_enough 86 = .ok (.iload 5, 2) := by decide +kernel
theorem dX12_enough_88 : decode cX12_enough 88 = .ok (.iaload, 1) := by decide +kernel
theorem dX12_enough_89 : decode cX12_enough 89 = .ok (.iconst 1, 1) := by decide +kernel
theorem dX12_enough_90 : decode cX12_enough 90 = .ok (.if_icmp .ne 30, 3) := by decide +kernel
theorem dX12_enough_93 : decode cX12_enough 93 = .ok (.aload_n 0, 1) := by decide +kernel
theorem dX12_enough_94 : decode cX12_enough 94 = .ok (.getfield 91, 3) := by decide +kernel
theorem dX12_enough_97 : decode cX12_enough 97 = .ok (.iload 5, 2) := by decide +kernel
theorem dX12_enough_99 : decode cX12_enough 99 = .ok (.iaload, 1) := by decide +kernel
theorem dX12_enough_100 : decode cX12_enough 100 = .ok (.iload_n 1, 1) := by decide +kernel
theorem dX12_enough_101 : decode cX12_enough 101 = .ok (.if_icmp .ne 19, 3) := by decide +kernel
theorem dX12_enough_104 : decode cX12_enough 104 = .ok (.aload_n 0, 1) := by decide +kernel
theorem dX12_enough_105 : decode cX12_enough 105 = .ok (.iconst 1, 1) := by decide +kernel
theorem dX12_enough_106 : decode cX12_enough 106 = .ok (.iload 5, 2) := by decide +kernel
theorem dX12_enough_108 : decode cX12_enough 108 = .ok (.iload_n 1, 1) := by decide +kernel
theorem dX12_enough_109 : decode cX12_enough 109 = .ok (.iload_n 3, 1) := by decide +kernel
theorem dX12_enough_110 : decode cX12_enough 110 = .ok (.invokevirtual 431, 3) := by decide +kernel
theorem dX12_enough_113 : decode cX12_enough 113 = .ok (.ifCond .eq 7, 3) := by decide +kernel
theorem dX12_enough_116 : decode cX12_enough 116 = .ok (.iconst 1, 1) := by decide +kernel
theorem dX12_enough_117 : decode cX12_enough 117 = .ok (.goto 4, 3) := by decide +kernel
theorem dX12_enough_120 : decode cX12_enough 120 = .ok (.iconst 0, 1) := by decide +kernel
theorem dX12_enough_121 : decode cX12_enough 121 = .ok (.istore 4, 2) := by decide +kernel
theorem dX12_enough_123 : decode cX12_enough 123 = .ok (.iinc 5 1, 3) := by decide +kernel
theorem dX12_enough_126 : decode cX12_enough 126 = .ok (.goto (-62), 3) := by decide +kernel
theorem dX12_enough_129 : decode cX12_enough 129 = .ok (.iload 4, 2) := by decide +kernel
theorem dX12_enough_131 : decode cX12_enough 131 = .ok (.ifCond .ne 5, 3) := by decide +kernel
theorem dX12_enough_134 : decode cX12_enough 134 = .ok (.iload_n 2, 1) := by decide +kernel
theorem dX12_enough_135 : decode cX12_enough 135 = .ok (.ireturn, 1) := by decide +kernel
theorem dX12_enough_136 : decode cX12_enough 136 = .ok (.iinc 2 1, 3) := by decide +kernel
theorem dX12_enough_139 : decode cX12_enough 139 = .ok (.goto (-122), 3) := by decide +kernel
theorem dX12_enough_142 : decode cX12_enough 142 = .ok (.bipush (-2), 2) := by decide +kernel
theorem dX12_enough_144 : decode cX12_enough 144 = .ok (.ireturn, 1) := by decide +kernel
