theorem dX0_init_0 : decode cX0_init 0 = .ok (.aload_n 0, 1) := by decide +kernel
theorem dX0_init_1 : decode cX0_init 1 = .ok (.invokespecial 3, 3) := by decide +kernel
theorem dX0_init_4 : decode cX0_init 4 = .ok (.aload_n 0, 1) := by decide +kernel
theorem dX0_init_5 : decode cX0_init 5 = .ok (.bipush 6, 2) := by decide +kernel
theorem dX0_init_7 : decode cX0_init 7 = .ok (.newarray .int, 2) := by decide +kernel
theorem dX0_init_9 : decode cX0_init 9 = .ok (.putfield 9, 3) := by decide +kernel
theorem dX0_init_12 : decode cX0_init 12 = .ok (.aload_n 0, 1) := by decide +kernel
theorem dX0_init_13 : decode cX0_init 13 = .ok (.bipush 6, 2) := by decide +kernel
theorem dX0_init_15 : decode cX0_init 15 = .ok (.newarray .int, 2) := by decide +kernel
theorem dX0_init_17 : decode cX0_init 17 = .ok (.putfield 15, 3) := by decide +kernel
theorem dX0_init_20 : decode cX0_init 20 = .ok (.aload_n 0, 1) := by decide +kernel
theorem dX0_init_21 : decode cX0_init 21 = .ok (.bipush 6, 2) := by decide +kernel
theorem dX0_init_23 : decode cX0_init 23 = .ok (.newarray .int, 2) := by decide +kernel
theorem dX0_init_25 : decode cX0_init 25 = .ok (.putfield 18, 3) := by decide +kernel
theorem dX0_init_28 : decode cX0_init 28 = .ok (.aload_n 0, 1) := by decide +kernel
theorem dX0_init_29 : decode cX0_init 29 = .ok (.bipush 12, 2) := by decide +kernel
theorem dX0_init_31 : decode cX0_init 31 = .ok (.newarray .int, 2) := by decide +kernel
theorem dX0_init_33 : decode cX0_init 33 = .ok (.putfield 21, 3) := by decide +kernel
theorem dX0_init_36 : decode cX0_init 36 = .ok (.aload_n 0, 1) := by decide +kernel
theorem dX0_init_37 : decode cX0_init 37 = .ok (.bipush 12, 2) := by decide +kernel
theorem dX0_init_39 : decode cX0_init 39 = .ok (.newarray .int, 2) := by decide +kernel
theorem dX0_init_41 : decode cX0_init 41 = .ok (.putfield 24, 3) := by decide +kernel
theorem dX0_init_44 : decode cX0_init 44 = .ok (.aload_n 0, 1) := by decide +kernel
theorem dX0_init_45 : decode cX0_init 45 = .ok (.bipush 12, 2) := by decide +kernel
theorem dX0_init_47 : decode cX0_init 47 = .ok (.newarray .int, 2) := by decide +kernel
theorem dX0_init_49 : decode cX0_init 49 = .ok (.putfield 27, 3) := by decide +kernel
theorem dX0_init_52 : decode cX0_init 52 = .ok (.aload_n 0, 1) := by decide +kernel
theorem dX0_init_53 : decode cX0_init 53 = .ok (.bipush 12, 2) := by decide +kernel
theorem dX0_init_55 : decode cX0_init 55 = .ok (.newarray .int, 2) := by decide +kernel
theorem dX0_init_57 : decode cX0_init 57 = .ok (.putfield 30, 3) := by decide +kernel
theorem dX0_init_60 : decode cX0_init 60 = .ok (.aload_n 0, 1) := by decide +kernel
theorem dX0_init_61 : decode cX0_init 61 = .ok (.iconst 4, 1) := by decide +kernel
theorem dX0_init_62 : decode cX0_init 62 = .ok (.newarray .int, 2) := by decide +kernel
theorem dX0_init_64 : decode cX0_init 64 = .ok (.putfield 33, 3) := by decide +kernel
theorem dX0_init_67 : decode cX0_init 67 = .ok (.aload_n 0, 1) := by decide +kernel
theorem dX0_init_68 : decode cX0_init 68 = .ok (.iconst 4, 1) := by decide +kernel
theorem dX0_init_69 : decode cX0_init 69 = .ok (.newarray .int, 2) := by decide +kernel
theorem dX0_init_71 : decode cX0_init 71 = .ok (.putfield 36, 3) := by decide +kernel
theorem dX0_init_74 : decode cX0_init 74 = .ok (.aload_n 0, 1) := by decide +kernel
theorem dX0_init_75 : decode cX0_init 75 = .ok (.iconst 4, 1) := by decide +kernel
theorem dX0_init_76 : decode cX0_init 76 = .ok (.newarray .int, 2) := by decide +kernel
theorem dX0_init_78 : decode cX0_init 78 = .ok (.putfield 39, 3) := by decide +kernel
theorem dX0_init_81 : decode cX0_init 81 = .ok (.aload_n 0, 1) := by decide +kernel
theorem dX0_init_82 : decode cX0_init 82 = .ok (.bipush 20, 2) := by decide +kernel
theorem dX0_init_84 : decode cX0_init 84 = .ok (.putfield 42, 3) := by decide +kernel
theorem dX0_init_87 : decode cX0_init 87 = .ok (.aload_n 0, 1) := by decide +kernel
theorem dX0_init_88 : decode cX0_init 88 = .ok (.iconst 5, 1) := by decide +kernel
theorem dX0_init_89 : decode cX0_init 89 = .ok (.putfield 46, 3) := by decide +kernel
theorem dX0_init_92 : decode cX0_init 92 = .ok (.aload_n 0, 1) := by decide +kernel
theorem dX0_init_93 : decode cX0_init 93 = .ok (.new 49, 3) := by decide +kernel
theorem dX0_init_96 : decode cX0_init 96 = .ok (.dup, 1) := by decide +kernel
theorem dX0_init_97 : decode cX0_init 97 = .ok (.invokespecial 51, 3) := by decide +kernel
theorem dX0_init_100 : decode cX0_init 100 = .ok (.putfield 52, 3) := by decide +kernel
theorem dX0_init_103 : decode cX0_init 103 = .ok (.return_, 1) := by decide +kernel
theorem dX0_clear_0 : decode cX0_clear 0 = .ok (.aload_n 0, 1) := by decide +kernel
theorem dX0_clear_1 : decode cX0_clear 1 = .ok (.iconst 0, 1) := by decide +kernel
theorem dX0_clear_2 : decode cX0_clear 2 = .ok (.putfield 56, 3) := by decide +kernel
theorem dX0_clear_5 : decode cX0_clear 5 = .ok (.aload_n 0, 1) := by decide +kernel
theorem dX0_clear_6 : decode cX0_clear 6 = .ok (.iconst 0, 1) := by decide +kernel
theorem dX0_clear_7 : decode cX0_clear 7 = .ok (.putfield 59, 3) := by decide +kernel
theorem dX0_clear_10 : decode cX0_clear 10 = .ok (.aload_n 0, 1) := by decide +kernel
theorem dX0_clear_11 : decode cX0_clear 11 = .ok (.iconst 0, 1) := by decide +kernel
theorem dX0_clear_12 : decode cX0_clear 12 = .ok (.putfield 62, 3) := by decide +kernel
theorem dX0_clear_15 : decode cX0_clear 15 = .ok (.aload_n 0, 1) := by decide +kernel
theorem dX0_clear_16 : decode cX0_clear 16 = .ok (.iconst 0, 1) := by decide +kernel
theorem dX0_clear_17 : decode cX0_clear 17 = .ok (.putfield 65, 3) := by decide +kernel
theorem dX0_clear_20 : decode cX0_clear 20 = .ok (.aload_n 0, 1) := by decide +kernel
theorem dX0_clear_21 : decode cX0_clear 21 = .ok (.bipush 20, 2) := by decide +kernel
theorem dX0_clear_23 : decode cX0_clear 23 = .ok (.putfield 42, 3) := by decide +kernel
theorem dX0_clear_26 : decode cX0_clear 26 = .ok (.aload_n 0, 1) := by decide +kernel
theorem dX0_clear_27 : decode cX0_clear 27 = .ok (.iconst 5, 1) := by decide +kernel
theorem dX0_clear_28 : decode cX0_clear 28 = .ok (.putfield 46, 3) := by decide +kernel
theorem dX0_clear_31 : decode cX0_clear 31 = .ok (.aload_n 0, 1) := by decide +kernel
theorem dX0_clear_32 : decode cX0_clear 32 = .ok (.iconst 0, 1) := by decide +kernel
theorem dX0_clear_33 : decode cX0_clear 33 = .ok (.putfield 68, 3) := by decide +kernel
theorem dX0_clear_36 : decode cX0_clear 36 = .ok (.aload_n 0, 1) := by decide +kernel
theorem dX0_clear_37 : decode cX0_clear 37 = .ok (.getfield 52, 3) := by decide +kernel
theorem dX0_clear_40 : decode cX0_clear 40 = .ok (.invokevirtual 71, 3) := by decide +kernel
theorem dX0_clear_43 : decode cX0_clear 43 = .ok (.return_, 1) := by decide +kernel
theorem dX0_isMan_0 : decode cX0_isMan 0 = .ok (.iload_n 1, 1) := by decide +kernel
theorem dX0_isMan_1 : decode cX0_isMan 1 = .ok (.ifCond .lt 21, 3) := by decide +kernel
theorem dX0_isMan_4 : decode cX0_isMan 4 = .ok (.iload_n 1, 1) := by decide +kernel
theorem dX0_isMan_5 : decode cX0_isMan 5 = .ok (.aload_n 0, 1) := by decide +kernel
theorem dX0_isMan_6 : decode cX0_isMan 6 = .ok (.getfield 59, 3) := by decide +kernel
theorem dX0_isMan_9 : decode cX0_isMan 9 = .ok (.if_icmp .ge 13, 3) := by decide +kernel
theorem dX0_isMan_12 : decode cX0_isMan 12 = .ok (.iload_n 1, 1) := by decide +kernel
theorem dX0_isMan_13 : decode cX0_isMan 13 = .ok (.bipush 6, 2) := by decide +kernel
theorem dX0_isMan_15 : decode cX0_isMan 15 = .ok (.if_icmp .ge 7, 3) := by decide +kernel
theorem dX0_isMan_18 : decode cX0_isMan 18 = .ok (.iconst 1, 1) := by decide +kernel
theorem dX0_isMan_19 : decode cX0_isMan 19 = .ok (.goto 4, 3) := by decide +kernel
theorem dX0_isMan_22 : decode cX0_isMan 22 = .ok (.iconst 0, 1) := by decide +kernel
theorem dX0_isMan_23 : decode cX0_isMan 23 = .ok (.ireturn, 1) := by decide +kernel
theorem dX0_isThought_0 : decode cX0_isThought 0 = .ok (.iload_n 1, 1) := by decide +kernel
theorem dX0_isThought_1 : decode cX0_isThought 1 = .ok (.ifCond .lt 21, 3) := by decide +kernel
theorem dX0_isThought_4 : decode cX0_isThought 4 = .ok (.iload_n 1, 1) := by decide +kernel
theorem dX0_isThought_5 : decode cX0_isThought 5 = .ok (.aload_n 0, 1) := by decide +kernel
theorem dX0_isThought_6 : decode cX0_isThought 6 = .ok (.getfield 62, 3) := by decide +kernel
theorem dX0_isThought_9 : decode cX0_isThought 9 = .ok (.if_icmp .ge 13, 3) := by decide +kernel
theorem dX0_isThought_12 : decode cX0_isThought 12 = .ok (.iload_n 1, 1) := by decide +kernel
theorem dX0_isThought_13 : decode cX0_isThought 13 = .ok (.bipush 12, 2) := by decide +kernel
theorem dX0_isThought_15 : decode cX0_isThought 15 = .ok (.if_icmp .ge 7, 3) := by decide +kernel
theorem dX0_isThought_18 : decode cX0_isThought 18 = .ok (.iconst 1, 1) := by decide +kernel
theorem dX0_isThought_19 : decode cX0_isThought 19 = .ok (.goto 4, 3) := by decide +kernel
theorem dX0_isThought_22 : decode cX0_isThought 22 = .ok (.iconst 0, 1) := by decide +kernel
theorem dX0_isThought_23 : decode cX0_isThought 23 = .ok (.ireturn, 1) := by decide +kernel
theorem dX0_isReader_0 : decode cX0_isReader 0 = .ok (.iload_n 1, 1) := by decide +kernel
theorem dX0_isReader_1 : decode cX0_isReader 1 = .ok (.ifCond .lt 20, 3) := by decide +kernel
theorem dX0_isReader_4 : decode cX0_isReader 4 = .ok (.iload_n 1, 1) := by decide +kernel
theorem dX0_isReader_5 : decode cX0_isReader 5 = .ok (.aload_n 0, 1) := by decide +kernel
theorem dX0_isReader_6 : decode cX0_isReader 6 = .ok (.getfield 65, 3) := by decide +kernel
theorem dX0_isReader_9 : decode cX0_isReader 9 = .ok (.if_icmp .ge 12, 3) := by decide +kernel
theorem dX0_isReader_12 : decode cX0_isReader 12 = .ok (.iload_n 1, 1) := by decide +kernel
theorem dX0_isReader_13 : decode cX0_isReader 13 = .ok (.iconst 4, 1) := by decide +kernel
theorem dX0_isReader_14 : decode cX0_isReader 14 = .ok (.if_icmp .ge 7, 3) := by decide +kernel
theorem dX0_isReader_17 : decode cX0_isReader 17 = .ok (.iconst 1, 1) := by decide +kernel
theorem dX0_isReader_18 : decode cX0_isReader 18 = .ok (.goto 4, 3) := by decide +kernel
theorem dX0_isReader_21 : decode cX0_isReader 21 = .ok (.iconst 0, 1) := by decide +kernel
theorem dX0_isReader_22 : decode cX0_isReader 22 = .ok (.ireturn, 1) := by decide +kernel
theorem dX0_manNamed_0 : decode cX0_manNamed 0 = .ok (.aload_n 0, 1) := by decide +kernel
theorem dX0_manNamed_1 : decode cX0_manNamed 1 = .ok (.getfield 9, 3) := by decide +kernel
theorem dX0_manNamed_4 : decode cX0_manNamed 4 = .ok (.aload_n 0, 1) := by decide +kernel
theorem dX0_manNamed_5 : decode cX0_manNamed 5 = .ok (.getfield 59, 3) := by decide +kernel
theorem dX0_manNamed_8 : decode cX0_manNamed 8 = .ok (.iload_n 1, 1) := by decide +kernel
theorem dX0_manNamed_9 : decode cX0_manNamed 9 = .ok (.invokestatic 74, 3) := by decide +kernel
theorem dX0_manNamed_12 : decode cX0_manNamed 12 = .ok (.ireturn, 1) := by decide +kernel
theorem dX0_readerNamed_0 : decode cX0_readerNamed 0 = .ok (.aload_n 0, 1) := by decide +kernel
theorem dX0_readerNamed_1 : decode cX0_readerNamed 1 = .ok (.getfield 33, 3) := by decide +kernel
theorem dX0_readerNamed_4 : decode cX0_readerNamed 4 = .ok (.aload_n 0, 1) := by decide +kernel
theorem dX0_readerNamed_5 : decode cX0_readerNamed 5 = .ok (.getfield 65, 3) := by decide +kernel
theorem dX0_readerNamed_8 : decode cX0_readerNamed 8 = .ok (.iload_n 1, 1) := by decide +kernel
theorem dX0_readerNamed_9 : decode cX0_readerNamed 9 = .ok (.invokestatic 74, 3) := by decide +kernel
theorem dX0_readerNamed_12 : decode cX0_readerNamed 12 = .ok (.ireturn, 1) := by decide +kernel
theorem dX0_placeOf_0 : decode cX0_placeOf 0 = .ok (.iconst 0, 1) := by decide +kernel
theorem dX0_placeOf_1 : decode cX0_placeOf 1 = .ok (.istore_n 3, 1) := by decide +kernel
theorem dX0_placeOf_2 : decode cX0_placeOf 2 = .ok (.iload_n 3, 1) := by decide +kernel
theorem dX0_placeOf_3 : decode cX0_placeOf 3 = .ok (.iload_n 1, 1) := by decide +kernel
theorem dX0_placeOf_4 : decode cX0_placeOf 4 = .ok (.if_icmp .ge 24, 3) := by decide +kernel
theorem dX0_placeOf_7 : decode cX0_placeOf 7 = .ok (.iload_n 3, 1) := by decide +kernel
theorem dX0_placeOf_8 : decode cX0_placeOf 8 = .ok (.aload_n 0, 1) := by decide +kernel
theorem dX0_placeOf_9 : decode cX0_placeOf 9 = .ok (.arraylength, 1) := by decide +kernel
theorem dX0_placeOf_10 : decode cX0_placeOf 10 = .ok (.if_icmp .ge 18, 3) := by decide +kernel
theorem dX0_placeOf_13 : decode cX0_placeOf 13 = .ok (.aload_n 0, 1) := by decide +kernel
theorem dX0_placeOf_14 : decode cX0_placeOf 14 = .ok (.iload_n 3, 1) := by decide +kernel
theorem dX0_placeOf_15 : decode cX0_placeOf 15 = .ok (.iaload, 1) := by decide +kernel
theorem dX0_placeOf_16 : decode cX0_placeOf 16 = .ok (.iload_n 2, 1) := by decide +kernel
theorem dX0_placeOf_17 : decode cX0_placeOf 17 = .ok (.if_icmp .ne 5, 3) := by decide +kernel
theorem dX0_placeOf_20 : decode cX0_placeOf 20 = .ok (.iload_n 3, 1) := by decide +kernel
theorem dX0_placeOf_21 : decode cX0_placeOf 21 = .ok (.ireturn, 1) := by decide +kernel
theorem dX0_placeOf_22 : decode cX0_placeOf 22 = .ok (.iinc 3 1, 3) := by decide +kernel
theorem dX0_placeOf_25 : decode cX0_placeOf 25 = .ok (.goto (-23), 3) := by decide +kernel
theorem dX0_placeOf_28 : decode cX0_placeOf 28 = .ok (.iconst (-1), 1) := by decide +kernel
theorem dX0_placeOf_29 : decode cX0_placeOf 29 = .ok (.ireturn, 1) := by decide +kernel
theorem dX0_shareOf_0 : decode cX0_shareOf 0 = .ok (.aload_n 0, 1) := by decide +kernel
theorem dX0_shareOf_1 : decode cX0_shareOf 1 = .ok (.iload_n 1, 1) := by decide +kernel
theorem dX0_shareOf_2 : decode cX0_shareOf 2 = .ok (.invokevirtual 78, 3) := by decide +kernel
theorem dX0_shareOf_5 : decode cX0_shareOf 5 = .ok (.ifCond .eq 11, 3) := by decide +kernel
theorem dX0_shareOf_8 : decode cX0_shareOf 8 = .ok (.aload_n 0, 1) := by decide +kernel
theorem dX0_shareOf_9 : decode cX0_shareOf 9 = .ok (.iload_n 2, 1) := by decide +kernel
theorem dX0_shareOf_10 : decode cX0_shareOf 10 = .ok (.invokevirtual 78, 3) := by decide +kernel
theorem dX0_shareOf_13 : decode cX0_shareOf 13 = .ok (.ifCond .ne 5, 3) := by decide +kernel
theorem dX0_shareOf_16 : decode cX0_shareOf 16 = .ok (.iconst (-1), 1) := by decide +kernel
theorem dX0_shareOf_17 : decode cX0_shareOf 17 = .ok (.ireturn, 1) := by decide +kernel
theorem dX0_shareOf_18 : decode cX0_shareOf 18 = .ok (.aload_n 0, 1) := by decide +kernel
theorem dX0_shareOf_19 : decode cX0_shareOf 19 = .ok (.getfield 24, 3) := by decide +kernel
theorem dX0_shareOf_22 : decode cX0_shareOf 22 = .ok (.iload_n 1, 1) := by decide +kernel
theorem dX0_shareOf_23 : decode cX0_shareOf 23 = .ok (.iaload, 1) := by decide +kernel
theorem dX0_shareOf_24 : decode cX0_shareOf 24 = .ok (.aload_n 0, 1) := by decide +kernel
theorem dX0_shareOf_25 : decode cX0_shareOf 25 = .ok (.getfield 24, 3) := by decide +kernel
theorem dX0_shareOf_28 : decode cX0_shareOf 28 = .ok (.iload_n 2, 1) := by decide +kernel
theorem dX0_shareOf_29 : decode cX0_shareOf 29 = .ok (.iaload, 1) := by decide +kernel
theorem dX0_shareOf_30 : decode cX0_shareOf 30 = .ok (.invokestatic 82, 3) := by decide +kernel
theorem dX0_shareOf_33 : decode cX0_shareOf 33 = .ok (.iload_n 3, 1) := by decide +kernel
theorem dX0_shareOf_34 : decode cX0_shareOf 34 = .ok (.imul, 1) := by decide +kernel
theorem dX0_shareOf_35 : decode cX0_shareOf 35 = .ok (.bipush 100, 2) := by decide +kernel
theorem dX0_shareOf_37 : decode cX0_shareOf 37 = .ok (.idiv, 1) := by decide +kernel
theorem dX0_shareOf_38 : decode cX0_shareOf 38 = .ok (.istore 5, 2) := by decide +kernel
theorem dX0_shareOf_40 : decode cX0_shareOf 40 = .ok (.aload_n 0, 1) := by decide +kernel
theorem dX0_shareOf_41 : decode cX0_shareOf 41 = .ok (.getfield 24, 3) := by decide +kernel
theorem dX0_shareOf_44 : decode cX0_shareOf 44 = .ok (.iload_n 1, 1) := by decide +kernel
theorem dX0_shareOf_45 : decode cX0_shareOf 45 = .ok (.iaload, 1) := by decide +kernel
theorem dX0_shareOf_46 : decode cX0_shareOf 46 = .ok (.aload_n 0, 1) := by decide +kernel
theorem dX0_shareOf_47 : decode cX0_shareOf 47 = .ok (.getfield 24, 3) := by decide +kernel
theorem dX0_shareOf_50 : decode cX0_shareOf 50 = .ok (.iload_n 2, 1) := by decide +kernel
theorem dX0_shareOf_51 : decode cX0_shareOf 51 = .ok (.iaload, 1) := by decide +kernel
theorem dX0_shareOf_52 : decode cX0_shareOf 52 = .ok (.iadd, 1) := by decide +kernel
theorem dX0_shareOf_53 : decode cX0_shareOf 53 = .ok (.istore 6, 2) := by decide +kernel
theorem dX0_shareOf_55 : decode cX0_shareOf 55 = .ok (.iload 6, 2) := by decide +kernel
theorem dX0_shareOf_57 : decode cX0_shareOf 57 = .ok (.ifCond .le 18, 3) := by decide +kernel
theorem dX0_shareOf_60 : decode cX0_shareOf 60 = .ok (.iload 5, 2) := by decide +kernel
theorem dX0_shareOf_62 : decode cX0_shareOf 62 = .ok (.aload_n 0, 1) := by decide +kernel
theorem dX0_shareOf_63 : decode cX0_shareOf 63 = .ok (.getfield 24, 3) := by decide +kernel
theorem dX0_shareOf_66 : decode cX0_shareOf 66 = .ok (.iload_n 1, 1) := by decide +kernel
theorem dX0_shareOf_67 : decode cX0_shareOf 67 = .ok (.iaload, 1) := by decide +kernel
theorem dX0_shareOf_68 : decode cX0_shareOf 68 = .ok (.imul, 1) := by decide +kernel
theorem dX0_shareOf_69 : decode cX0_shareOf 69 = .ok (.iload 6, 2) := by decide +kernel
theorem dX0_shareOf_71 : decode cX0_shareOf 71 = .ok (.idiv, 1) := by decide +kernel
theorem dX0_shareOf_72 : decode cX0_shareOf 72 = .ok (.goto 4, 3) := by decide +kernel
theorem dX0_shareOf_75 : decode cX0_shareOf 75 = .ok (.iconst 0, 1) := by decide +kernel
theorem dX0_shareOf_76 : decode cX0_shareOf 76 = .ok (.istore 7, 2) := by decide +kernel
theorem dX0_shareOf_78 : decode cX0_shareOf 78 = .ok (.iload 4, 2) := by decide +kernel
theorem dX0_shareOf_80 : decode cX0_shareOf 80 = .ok (.ifCond .ne 8, 3) := by decide +kernel
theorem dX0_shareOf_83 : decode cX0_shareOf 83 = .ok (.iload 7, 2) := by decide +kernel
theorem dX0_shareOf_85 : decode cX0_shareOf 85 = .ok (.goto 8, 3) := by decide +kernel
theorem dX0_shareOf_88 : decode cX0_shareOf 88 = .ok (.iload 5, 2) := by decide +kernel
theorem dX0_shareOf_90 : decode cX0_shareOf 90 = .ok (.iload 7, 2) := by decide +kernel
theorem dX0_shareOf_92 : decode cX0_shareOf 92 = .ok (.isub, 1) := by decide +kernel
theorem dX0_shareOf_93 : decode cX0_shareOf 93 = .ok (.ireturn, 1) := by decide +kernel
theorem dX1_init_0 : decode cX1_init 0 = .ok (.aload_n 0, 1) := by decide +kernel
theorem dX1_init_1 : decode cX1_init 1 = .ok (.invokespecial 1, 3) := by decide +kernel
theorem dX1_init_4 : decode cX1_init 4 = .ok (.aload_n 0, 1) := by decide +kernel
theorem dX1_init_5 : decode cX1_init 5 = .ok (.bipush 20, 2) := by decide +kernel
theorem dX1_init_7 : decode cX1_init 7 = .ok (.newarray .int, 2) := by decide +kernel
theorem dX1_init_9 : decode cX1_init 9 = .ok (.putfield 9, 3) := by decide +kernel
theorem dX1_init_12 : decode cX1_init 12 = .ok (.aload_n 0, 1) := by decide +kernel
theorem dX1_init_13 : decode cX1_init 13 = .ok (.bipush 20, 2) := by decide +kernel
theorem dX1_init_15 : decode cX1_init 15 = .ok (.newarray .int, 2) := by decide +kernel
theorem dX1_init_17 : decode cX1_init 17 = .ok (.putfield 13, 3) := by decide +kernel
theorem dX1_init_20 : decode cX1_init 20 = .ok (.aload_n 0, 1) := by decide +kernel
theorem dX1_init_21 : decode cX1_init 21 = .ok (.bipush 20, 2) := by decide +kernel
theorem dX1_init_23 : decode cX1_init 23 = .ok (.newarray .int, 2) := by decide +kernel
theorem dX1_init_25 : decode cX1_init 25 = .ok (.putfield 16, 3) := by decide +kernel
theorem dX1_init_28 : decode cX1_init 28 = .ok (.return_, 1) := by decide +kernel
theorem dX1_clear_0 : decode cX1_clear 0 = .ok (.aload_n 0, 1) := by decide +kernel
theorem dX1_clear_1 : decode cX1_clear 1 = .ok (.iconst 0, 1) := by decide +kernel
theorem dX1_clear_2 : decode cX1_clear 2 = .ok (.putfield 19, 3) := by decide +kernel
theorem dX1_clear_5 : decode cX1_clear 5 = .ok (.return_, 1) := by decide +kernel
theorem dX1_note_0 : decode cX1_note 0 = .ok (.aload_n 0, 1) := by decide +kernel
theorem dX1_note_1 : decode cX1_note 1 = .ok (.getfield 19, 3) := by decide +kernel
theorem dX1_note_4 : decode cX1_note 4 = .ok (.bipush 20, 2) := by decide +kernel
theorem dX1_note_6 : decode cX1_note 6 = .ok (.if_icmp .lt 54, 3) := by decide +kernel
theorem dX1_note_9 : decode cX1_note 9 = .ok (.aload_n 0, 1) := by decide +kernel
theorem dX1_note_10 : decode cX1_note 10 = .ok (.getfield 9, 3) := by decide +kernel
theorem dX1_note_13 : decode cX1_note 13 = .ok (.iconst 1, 1) := by decide +kernel
theorem dX1_note_14 : decode cX1_note 14 = .ok (.aload_n 0, 1) := by decide +kernel
theorem dX1_note_15 : decode cX1_note 15 = .ok (.getfield 9, 3) := by decide +kernel
theorem dX1_note_18 : decode cX1_note 18 = .ok (.iconst 0, 1) := by decide +kernel
theorem dX1_note_19 : decode cX1_note 19 = .ok (.bipush 19, 2) := by decide +kernel
theorem dX1_note_21 : decode cX1_note 21 = .ok (.invokestatic 23, 3) := by decide +kernel
theorem dX1_note_24 : decode cX1_note 24 = .ok (.aload_n 0, 1) := by decide +kernel
theorem dX1_note_25 : decode cX1_note 25 = .ok (.getfield 13, 3) := by decide +kernel
theorem dX1_note_28 : decode cX1_note 28 = .ok (.iconst 1, 1) := by decide +kernel
theorem dX1_note_29 : decode cX1_note 29 = .ok (.aload_n 0, 1) := by decide +kernel
theorem dX1_note_30 : decode cX1_note 30 = .ok (.getfield 13, 3) := by decide +kernel
theorem dX1_note_33 : decode cX1_note 33 = .ok (.iconst 0, 1) := by decide +kernel
theorem dX1_note_34 : decode cX1_note 34 = .ok (.bipush 19, 2) := by decide +kernel
theorem dX1_note_36 : decode cX1_note 36 = .ok (.invokestatic 23, 3) := by decide +kernel
theorem dX1_note_39 : decode cX1_note 39 = .ok (.aload_n 0, 1) := by decide +kernel
theorem dX1_note_40 : decode cX1_note 40 = .ok (.getfield 16, 3) := by decide +kernel
theorem dX1_note_43 : decode cX1_note 43 = .ok (.iconst 1, 1) := by decide +kernel
theorem dX1_note_44 : decode cX1_note 44 = .ok (.aload_n 0, 1) := by decide +kernel
theorem dX1_note_45 : decode cX1_note 45 = .ok (.getfield 16, 3) := by decide +kernel
theorem dX1_note_48 : decode cX1_note 48 = .ok (.iconst 0, 1) := by decide +kernel
theorem dX1_note_49 : decode cX1_note 49 = .ok (.bipush 19, 2) := by decide +kernel
theorem dX1_note_51 : decode cX1_note 51 = .ok (.invokestatic 23, 3) := by decide +kernel
theorem dX1_note_54 : decode cX1_note 54 = .ok (.aload_n 0, 1) := by decide +kernel
theorem dX1_note_55 : decode cX1_note 55 = .ok (.bipush 19, 2) := by decide +kernel
theorem dX1_note_57 : decode cX1_note 57 = .ok (.putfield 19, 3) := by decide +kernel
theorem dX1_note_60 : decode cX1_note 60 = .ok (.aload_n 0, 1) := by decide +kernel
theorem dX1_note_61 : decode cX1_note 61 = .ok (.getfield 19, 3) := by decide +kernel
theorem dX1_note_64 : decode cX1_note 64 = .ok (.ifCond .lt 43, 3) := by decide +kernel
theorem dX1_note_67 : decode cX1_note 67 = .ok (.aload_n 0, 1) := by decide +kernel
theorem dX1_note_68 : decode cX1_note 68 = .ok (.getfield 9, 3) := by decide +kernel
theorem dX1_note_71 : decode cX1_note 71 = .ok (.aload_n 0, 1) := by decide +kernel
theorem dX1_note_72 : decode cX1_note 72 = .ok (.getfield 19, 3) := by decide +kernel
theorem dX1_note_75 : decode cX1_note 75 = .ok (.iload_n 1, 1) := by decide +kernel
theorem dX1_note_76 : decode cX1_note 76 = .ok (.iastore, 1) := by decide +kernel
theorem dX1_note_77 : decode cX1_note 77 = .ok (.aload_n 0, 1) := by decide +kernel
theorem dX1_note_78 : decode cX1_note 78 = .ok (.getfield 13, 3) := by decide +kernel
theorem dX1_note_81 : decode cX1_note 81 = .ok (.aload_n 0, 1) := by decide +kernel
theorem dX1_note_82 : decode cX1_note 82 = .ok (.getfield 19, 3) := by decide +kernel
theorem dX1_note_85 : decode cX1_note 85 = .ok (.iload_n 2, 1) := by decide +kernel
theorem dX1_note_86 : decode cX1_note 86 = .ok (.iastore, 1) := by decide +kernel
theorem dX1_note_87 : decode cX1_note 87 = .ok (.aload_n 0, 1) := by decide +kernel
theorem dX1_note_88 : decode cX1_note 88 = .ok (.getfield 16, 3) := by decide +kernel
theorem dX1_note_91 : decode cX1_note 91 = .ok (.aload_n 0, 1) := by decide +kernel
theorem dX1_note_92 : decode cX1_note 92 = .ok (.getfield 19, 3) := by decide +kernel
theorem dX1_note_95 : decode cX1_note 95 = .ok (.iload_n 3, 1) := by decide +kernel
theorem dX1_note_96 : decode cX1_note 96 = .ok (.iastore, 1) := by decide +kernel
theorem dX1_note_97 : decode cX1_note 97 = .ok (.aload_n 0, 1) := by decide +kernel
theorem dX1_note_98 : decode cX1_note 98 = .ok (.dup, 1) := by decide +kernel
theorem dX1_note_99 : decode cX1_note 99 = .ok (.getfield 19, 3) := by decide +kernel
theorem dX1_note_102 : decode cX1_note 102 = .ok (.iconst 1, 1) := by decide +kernel
theorem dX1_note_103 : decode cX1_note 103 = .ok (.iadd, 1) := by decide +kernel
theorem dX1_note_104 : decode cX1_note 104 = .ok (.putfield 19, 3) := by decide +kernel
theorem dX1_note_107 : decode cX1_note 107 = .ok (.return_, 1) := by decide +kernel
theorem dX1_undoLatest_0 : decode cX1_undoLatest 0 = .ok (.aload_n 0, 1) := by decide +kernel
theorem dX1_undoLatest_1 : decode cX1_undoLatest 1 = .ok (.getfield 19, 3) := by decide +kernel
theorem dX1_undoLatest_4 : decode cX1_undoLatest 4 = .ok (.ifCond .le 12, 3) := by decide +kernel
theorem dX1_undoLatest_7 : decode cX1_undoLatest 7 = .ok (.aload_n 0, 1) := by decide +kernel
theorem dX1_undoLatest_8 : decode cX1_undoLatest 8 = .ok (.getfield 19, 3) := by decide +kernel
theorem dX1_undoLatest_11 : decode cX1_undoLatest 11 = .ok (.bipush 20, 2) := by decide +kernel
theorem dX1_undoLatest_13 : decode cX1_undoLatest 13 = .ok (.if_icmp .le 4, 3) := by decide +kernel
theorem dX1_undoLatest_16 : decode cX1_undoLatest 16 = .ok (.return_, 1) := by decide +kernel
theorem dX1_undoLatest_17 : decode cX1_undoLatest 17 = .ok (.aload_n 0, 1) := by decide +kernel
theorem dX1_undoLatest_18 : decode cX1_undoLatest 18 = .ok (.dup, 1) := by decide +kernel
theorem dX1_undoLatest_19 : decode cX1_undoLatest 19 = .ok (.getfield 19, 3) := by decide +kernel
theorem dX1_undoLatest_22 : decode cX1_undoLatest 22 = .ok (.iconst 1, 1) := by decide +kernel
theorem dX1_undoLatest_23 : decode cX1_undoLatest 23 = .ok (.isub, 1) := by decide +kernel
theorem dX1_undoLatest_24 : decode cX1_undoLatest 24 = .ok (.putfield 19, 3) := by decide +kernel
theorem dX1_undoLatest_27 : decode cX1_undoLatest 27 = .ok (.aload_n 0, 1) := by decide +kernel
theorem dX1_undoLatest_28 : decode cX1_undoLatest 28 = .ok (.getfield 13, 3) := by decide +kernel
theorem dX1_undoLatest_31 : decode cX1_undoLatest 31 = .ok (.aload_n 0, 1) := by decide +kernel
theorem dX1_undoLatest_32 : decode cX1_undoLatest 32 = .ok (.getfield 19, 3) := by decide +kernel
theorem dX1_undoLatest_35 : decode cX1_undoLatest 35 = .ok (.iaload, 1) := by decide +kernel
theorem dX1_undoLatest_36 : decode cX1_undoLatest 36 = .ok (.istore_n 2, 1) := by decide +kernel
theorem dX1_undoLatest_37 : decode cX1_undoLatest 37 = .ok (.aload_n 0, 1) := by decide +kernel
theorem dX1_undoLatest_38 : decode cX1_undoLatest 38 = .ok (.getfield 16, 3) := by decide +kernel
theorem dX1_undoLatest_41 : decode cX1_undoLatest 41 = .ok (.aload_n 0, 1) := by decide +kernel
theorem dX1_undoLatest_42 : decode cX1_undoLatest 42 = .ok (.getfield 19, 3) := by decide +kernel
theorem dX1_undoLatest_45 : decode cX1_undoLatest 45 = .ok (.iaload, 1) := by decide +kernel
theorem dX1_undoLatest_46 : decode cX1_undoLatest 46 = .ok (.istore_n 3, 1) := by decide +kernel
theorem dX1_undoLatest_47 : decode cX1_undoLatest 47 = .ok (.aload_n 0, 1) := by decide +kernel
theorem dX1_undoLatest_48 : decode cX1_undoLatest 48 = .ok (.getfield 9, 3) := by decide +kernel
theorem dX1_undoLatest_51 : decode cX1_undoLatest 51 = .ok (.aload_n 0, 1) := by decide +kernel
theorem dX1_undoLatest_52 : decode cX1_undoLatest 52 = .ok (.getfield 19, 3) := by decide +kernel
theorem dX1_undoLatest_55 : decode cX1_undoLatest 55 = .ok (.iaload, 1) := by decide +kernel
theorem dX1_undoLatest_56 : decode cX1_undoLatest 56 = .ok (.tableswitch 55 0 2 #[28, 37, 46], 28) := by decide +kernel
theorem dX1_undoLatest_84 : decode cX1_undoLatest 84 = .ok (.aload_n 1, 1) := by decide +kernel
theorem dX1_undoLatest_85 : decode cX1_undoLatest 85 = .ok (.iload_n 2, 1) := by decide +kernel
theorem dX1_undoLatest_86 : decode cX1_undoLatest 86 = .ok (.iload_n 3, 1) := by decide +kernel
theorem dX1_undoLatest_87 : decode cX1_undoLatest 87 = .ok (.invokestatic 29, 3) := by decide +kernel
theorem dX1_undoLatest_90 : decode cX1_undoLatest 90 = .ok (.goto 26, 3) := by decide +kernel
theorem dX1_undoLatest_93 : decode cX1_undoLatest 93 = .ok (.aload_n 1, 1) := by decide +kernel
theorem dX1_undoLatest_94 : decode cX1_undoLatest 94 = .ok (.iload_n 2, 1) := by decide +kernel
theorem dX1_undoLatest_95 : decode cX1_undoLatest 95 = .ok (.iload_n 3, 1) := by decide +kernel
theorem dX1_undoLatest_96 : decode cX1_undoLatest 96 = .ok (.invokestatic 33, 3) := by decide +kernel
theorem dX1_undoLatest_99 : decode cX1_undoLatest 99 = .ok (.goto 17, 3) := by decide +kernel
theorem dX1_undoLatest_102 : decode cX1_undoLatest 102 = .ok (.aload_n 1, 1) := by decide +kernel
theorem dX1_undoLatest_103 : decode cX1_undoLatest 103 = .ok (.iload_n 2, 1) := by decide +kernel
theorem dX1_undoLatest_104 : decode cX1_undoLatest 104 = .ok (.iload_n 3, 1) := by decide +kernel
theorem dX1_undoLatest_105 : decode cX1_undoLatest 105 = .ok (.invokestatic 36, 3) := by decide +kernel
theorem dX1_undoLatest_108 : decode cX1_undoLatest 108 = .ok (.goto 8, 3) := by decide +kernel
theorem dX1_undoLatest_111 : decode cX1_undoLatest 111 = .ok (.aload_n 1, 1) := by decide +kernel
theorem dX1_undoLatest_112 : decode cX1_undoLatest 112 = .ok (.iload_n 3, 1) := by decide +kernel
theorem dX1_undoLatest_113 : decode cX1_undoLatest 113 = .ok (.putfield 39, 3) := by decide +kernel
theorem dX1_undoLatest_116 : decode cX1_undoLatest 116 = .ok (.return_, 1) := by decide +kernel
theorem dX1_unhide_0 : decode cX1_unhide 0 = .ok (.aload_n 0, 1) := by decide +kernel
theorem dX1_unhide_1 : decode cX1_unhide 1 = .ok (.getfield 44, 3) := by decide +kernel
theorem dX1_unhide_4 : decode cX1_unhide 4 = .ok (.iload_n 1, 1) := by decide +kernel
theorem dX1_unhide_5 : decode cX1_unhide 5 = .ok (.invokevirtual 48, 3) := by decide +kernel
theorem dX1_unhide_8 : decode cX1_unhide 8 = .ok (.ifCond .eq 10, 3) := by decide +kernel
theorem dX1_unhide_11 : decode cX1_unhide 11 = .ok (.aload_n 0, 1) := by decide +kernel
theorem dX1_unhide_12 : decode cX1_unhide 12 = .ok (.getfield 54, 3) := by decide +kernel
theorem dX1_unhide_15 : decode cX1_unhide 15 = .ok (.iload_n 1, 1) := by decide +kernel
theorem dX1_unhide_16 : decode cX1_unhide 16 = .ok (.iload_n 2, 1) := by decide +kernel
theorem dX1_unhide_17 : decode cX1_unhide 17 = .ok (.iastore, 1) := by decide +kernel
theorem dX1_unhide_18 : decode cX1_unhide 18 = .ok (.return_, 1) := by decide +kernel
theorem dX1_unbuy_0 : decode cX1_unbuy 0 = .ok (.aload_n 0, 1) := by decide +kernel
theorem dX1_unbuy_1 : decode cX1_unbuy 1 = .ok (.getfield 44, 3) := by decide +kernel
theorem dX1_unbuy_4 : decode cX1_unbuy 4 = .ok (.iload_n 1, 1) := by decide +kernel
theorem dX1_unbuy_5 : decode cX1_unbuy 5 = .ok (.invokevirtual 57, 3) := by decide +kernel
theorem dX1_unbuy_8 : decode cX1_unbuy 8 = .ok (.ifCond .eq 31, 3) := by decide +kernel
theorem dX1_unbuy_11 : decode cX1_unbuy 11 = .ok (.aload_n 0, 1) := by decide +kernel
theorem dX1_unbuy_12 : decode cX1_unbuy 12 = .ok (.getfield 60, 3) := by decide +kernel
theorem dX1_unbuy_15 : decode cX1_unbuy 15 = .ok (.iload_n 1, 1) := by decide +kernel
theorem dX1_unbuy_16 : decode cX1_unbuy 16 = .ok (.dup2, 1) := by decide +kernel
theorem dX1_unbuy_17 : decode cX1_unbuy 17 = .ok (.iaload, 1) := by decide +kernel
theorem dX1_unbuy_18 : decode cX1_unbuy 18 = .ok (.iload_n 2, 1) := by decide +kernel
theorem dX1_unbuy_19 : decode cX1_unbuy 19 = .ok (.isub, 1) := by decide +kernel
theorem dX1_unbuy_20 : decode cX1_unbuy 20 = .ok (.iastore, 1) := by decide +kernel
theorem dX1_unbuy_21 : decode cX1_unbuy 21 = .ok (.aload_n 0, 1) := by decide +kernel
theorem dX1_unbuy_22 : decode cX1_unbuy 22 = .ok (.getfield 63, 3) := by decide +kernel
theorem dX1_unbuy_25 : decode cX1_unbuy 25 = .ok (.iload_n 1, 1) := by decide +kernel
theorem dX1_unbuy_26 : decode cX1_unbuy 26 = .ok (.dup2, 1) := by decide +kernel
theorem dX1_unbuy_27 : decode cX1_unbuy 27 = .ok (.iaload, 1) := by decide +kernel
theorem dX1_unbuy_28 : decode cX1_unbuy 28 = .ok (.iload_n 2, 1) := by decide +kernel
theorem dX1_unbuy_29 : decode cX1_unbuy 29 = .ok (.aload_n 0, 1) := by decide +kernel
theorem dX1_unbuy_30 : decode cX1_unbuy 30 = .ok (.getfield 44, 3) := by decide +kernel
theorem dX1_unbuy_33 : decode cX1_unbuy 33 = .ok (.getfield 66, 3) := by decide +kernel
theorem dX1_unbuy_36 : decode cX1_unbuy 36 = .ok (.imul, 1) := by decide +kernel
theorem dX1_unbuy_37 : decode cX1_unbuy 37 = .ok (.iadd, 1) := by decide +kernel
theorem dX1_unbuy_38 : decode cX1_unbuy 38 = .ok (.iastore, 1) := by decide +kernel
theorem dX1_unbuy_39 : decode cX1_unbuy 39 = .ok (.return_, 1) := by decide +kernel
theorem dX1_unround_0 : decode cX1_unround 0 = .ok (.aload_n 0, 1) := by decide +kernel
theorem dX1_unround_1 : decode cX1_unround 1 = .ok (.getfield 44, 3) := by decide +kernel
theorem dX1_unround_4 : decode cX1_unround 4 = .ok (.iload_n 1, 1) := by decide +kernel
theorem dX1_unround_5 : decode cX1_unround 5 = .ok (.invokevirtual 57, 3) := by decide +kernel
theorem dX1_unround_8 : decode cX1_unround 8 = .ok (.ifCond .eq 10, 3) := by decide +kernel
theorem dX1_unround_11 : decode cX1_unround 11 = .ok (.aload_n 0, 1) := by decide +kernel
theorem dX1_unround_12 : decode cX1_unround 12 = .ok (.getfield 69, 3) := by decide +kernel
theorem dX1_unround_15 : decode cX1_unround 15 = .ok (.iload_n 1, 1) := by decide +kernel
theorem dX1_unround_16 : decode cX1_unround 16 = .ok (.iload_n 2, 1) := by decide +kernel
theorem dX1_unround_17 : decode cX1_unround 17 = .ok (.iastore, 1) := by decide +kernel
theorem dX1_unround_18 : decode cX1_unround 18 = .ok (.return_, 1) := by decide +kernel
theorem dX2_init_0 : decode cX2_init 0 = .ok (.aload_n 0, 1) := by decide +kernel
theorem dX2_init_1 : decode cX2_init 1 = .ok (.invokespecial 3, 3) := by decide +kernel
theorem dX2_init_4 : decode cX2_init 4 = .ok (.aload_n 0, 1) := by decide +kernel
theorem dX2_init_5 : decode cX2_init 5 = .ok (.bipush 24, 2) := by decide +kernel
theorem dX2_init_7 : decode cX2_init 7 = .ok (.newarray .int, 2) := by decide +kernel
theorem dX2_init_9 : decode cX2_init 9 = .ok (.putfield 11, 3) := by decide +kernel
theorem dX2_init_12 : decode cX2_init 12 = .ok (.aload_n 0, 1) := by decide +kernel
theorem dX2_init_13 : decode cX2_init 13 = .ok (.bipush 24, 2) := by decide +kernel
theorem dX2_init_15 : decode cX2_init 15 = .ok (.newarray .int, 2) := by decide +kernel
theorem dX2_init_17 : decode cX2_init 17 = .ok (.putfield 15, 3) := by decide +kernel
theorem dX2_init_20 : decode cX2_init 20 = .ok (.aload_n 0, 1) := by decide +kernel
theorem dX2_init_21 : decode cX2_init 21 = .ok (.bipush 24, 2) := by decide +kernel
theorem dX2_init_23 : decode cX2_init 23 = .ok (.newarray .boolean, 2) := by decide +kernel
theorem dX2_init_25 : decode cX2_init 25 = .ok (.putfield 18, 3) := by decide +kernel
theorem dX2_init_28 : decode cX2_init 28 = .ok (.aload_n 0, 1) := by decide +kernel
theorem dX2_init_29 : decode cX2_init 29 = .ok (.bipush 24, 2) := by decide +kernel
theorem dX2_init_31 : decode cX2_init 31 = .ok (.newarray .int, 2) := by decide +kernel
theorem dX2_init_33 : decode cX2_init 33 = .ok (.putfield 22, 3) := by decide +kernel
theorem dX2_init_36 : decode cX2_init 36 = .ok (.aload_n 0, 1) := by decide +kernel
theorem dX2_init_37 : decode cX2_init 37 = .ok (.bipush 24, 2) := by decide +kernel
theorem dX2_init_39 : decode cX2_init 39 = .ok (.newarray .boolean, 2) := by decide +kernel
theorem dX2_init_41 : decode cX2_init 41 = .ok (.putfield 25, 3) := by decide +kernel
theorem dX2_init_44 : decode cX2_init 44 = .ok (.aload_n 0, 1) := by decide +kernel
theorem dX2_init_45 : decode cX2_init 45 = .ok (.iconst (-1), 1) := by decide +kernel
theorem dX2_init_46 : decode cX2_init 46 = .ok (.putfield 28, 3) := by decide +kernel
theorem dX2_init_49 : decode cX2_init 49 = .ok (.return_, 1) := by decide +kernel
theorem dX2_clear_0 : decode cX2_clear 0 = .ok (.aload_n 0, 1) := by decide +kernel
theorem dX2_clear_1 : decode cX2_clear 1 = .ok (.iconst 0, 1) := by decide +kernel
theorem dX2_clear_2 : decode cX2_clear 2 = .ok (.putfield 32, 3) := by decide +kernel
theorem dX2_clear_5 : decode cX2_clear 5 = .ok (.aload_n 0, 1) := by decide +kernel
theorem dX2_clear_6 : decode cX2_clear 6 = .ok (.iconst (-1), 1) := by decide +kernel
theorem dX2_clear_7 : decode cX2_clear 7 = .ok (.putfield 28, 3) := by decide +kernel
theorem dX2_clear_10 : decode cX2_clear 10 = .ok (.return_, 1) := by decide +kernel
theorem dX2_hasRoom_0 : decode cX2_hasRoom 0 = .ok (.aload_n 0, 1) := by decide +kernel
theorem dX2_hasRoom_1 : decode cX2_hasRoom 1 = .ok (.getfield 32, 3) := by decide +kernel
theorem dX2_hasRoom_4 : decode cX2_hasRoom 4 = .ok (.ifCond .lt 16, 3) := by decide +kernel
theorem dX2_hasRoom_7 : decode cX2_hasRoom 7 = .ok (.aload_n 0, 1) := by decide +kernel
theorem dX2_hasRoom_8 : decode cX2_hasRoom 8 = .ok (.getfield 32, 3) := by decide +kernel
theorem dX2_hasRoom_11 : decode cX2_hasRoom 11 = .ok (.bipush 24, 2) := by decide +kernel
theorem dX2_hasRoom_13 : decode cX2_hasRoom 13 = .ok (.if_icmp .ge 7, 3) := by decide +kernel
theorem dX2_hasRoom_16 : decode cX2_hasRoom 16 = .ok (.iconst 1, 1) := by decide +kernel
theorem dX2_hasRoom_17 : decode cX2_hasRoom 17 = .ok (.goto 4, 3) := by decide +kernel
theorem dX2_hasRoom_20 : decode cX2_hasRoom 20 = .ok (.iconst 0, 1) := by decide +kernel
theorem dX2_hasRoom_21 : decode cX2_hasRoom 21 = .ok (.ireturn, 1) := by decide +kernel
theorem dX2_noteReading_0 : decode cX2_noteReading 0 = .ok (.aload_n 0, 1) := by decide +kernel
theorem dX2_noteReading_1 : decode cX2_noteReading 1 = .ok (.invokevirtual 35, 3) := by decide +kernel
theorem dX2_noteReading_4 : decode cX2_noteReading 4 = .ok (.ifCond .ne 5, 3) := by decide +kernel
theorem dX2_noteReading_7 : decode cX2_noteReading 7 = .ok (.iconst (-1), 1) := by decide +kernel
theorem dX2_noteReading_8 : decode cX2_noteReading 8 = .ok (.ireturn, 1) := by decide +kernel
theorem dX2_noteReading_9 : decode cX2_noteReading 9 = .ok (.aload_n 0, 1) := by decide +kernel
theorem dX2_noteReading_10 : decode cX2_noteReading 10 = .ok (.getfield 11, 3) := by decide +kernel
theorem dX2_noteReading_13 : decode cX2_noteReading 13 = .ok (.aload_n 0, 1) := by decide +kernel
theorem dX2_noteReading_14 : decode cX2_noteReading 14 = .ok (.getfield 32, 3) := by decide +kernel
theorem dX2_noteReading_17 : decode cX2_noteReading 17 = .ok (.iload_n 1, 1) := by decide +kernel
theorem dX2_noteReading_18 : decode cX2_noteReading 18 = .ok (.iastore, 1) := by decide +kernel
theorem dX2_noteReading_19 : decode cX2_noteReading 19 = .ok (.aload_n 0, 1) := by decide +kernel
theorem dX2_noteReading_20 : decode cX2_noteReading 20 = .ok (.getfield 15, 3) := by decide +kernel
theorem dX2_noteReading_23 : decode cX2_noteReading 23 = .ok (.aload_n 0, 1) := by decide +kernel
theorem dX2_noteReading_24 : decode cX2_noteReading 24 = .ok (.getfield 32, 3) := by decide +kernel
theorem dX2_noteReading_27 : decode cX2_noteReading 27 = .ok (.iload_n 2, 1) := by decide +kernel
theorem dX2_noteReading_28 : decode cX2_noteReading 28 = .ok (.iastore, 1) := by decide +kernel
theorem dX2_noteReading_29 : decode cX2_noteReading 29 = .ok (.aload_n 0, 1) := by decide +kernel
theorem dX2_noteReading_30 : decode cX2_noteReading 30 = .ok (.getfield 18, 3) := by decide +kernel
theorem dX2_noteReading_33 : decode cX2_noteReading 33 = .ok (.aload_n 0, 1) := by decide +kernel
theorem dX2_noteReading_34 : decode cX2_noteReading 34 = .ok (.getfield 32, 3) := by decide +kernel
theorem dX2_noteReading_37 : decode cX2_noteReading 37 = .ok (.iload_n 3, 1) := by decide +kernel
theorem dX2_noteReading_38 : decode cX2_noteReading 38 = .ok (.bastore, 1) := by decide +kernel
theorem dX2_noteReading_39 : decode cX2_noteReading 39 = .ok (.aload_n 0, 1) := by decide +kernel
theorem dX2_noteReading_40 : decode cX2_noteReading 40 = .ok (.getfield 22, 3) := by decide +kernel
theorem dX2_noteReading_43 : decode cX2_noteReading 43 = .ok (.aload_n 0, 1) := by decide +kernel
theorem dX2_noteReading_44 : decode cX2_noteReading 44 = .ok (.getfield 32, 3) := by decide +kernel
theorem dX2_noteReading_47 : decode cX2_noteReading 47 = .ok (.iconst (-1), 1) := by decide +kernel
theorem dX2_noteReading_48 : decode cX2_noteReading 48 = .ok (.iastore, 1) := by decide +kernel
theorem dX2_noteReading_49 : decode cX2_noteReading 49 = .ok (.aload_n 0, 1) := by decide +kernel
theorem dX2_noteReading_50 : decode cX2_noteReading 50 = .ok (.dup, 1) := by decide +kernel
theorem dX2_noteReading_51 : decode cX2_noteReading 51 = .ok (.getfield 32, 3) := by decide +kernel
theorem dX2_noteReading_54 : decode cX2_noteReading 54 = .ok (.iconst 1, 1) := by decide +kernel
theorem dX2_noteReading_55 : decode cX2_noteReading 55 = .ok (.iadd, 1) := by decide +kernel
theorem dX2_noteReading_56 : decode cX2_noteReading 56 = .ok (.putfield 32, 3) := by decide +kernel
theorem dX2_noteReading_59 : decode cX2_noteReading 59 = .ok (.aload_n 0, 1) := by decide +kernel
theorem dX2_noteReading_60 : decode cX2_noteReading 60 = .ok (.getfield 32, 3) := by decide +kernel
theorem dX2_noteReading_63 : decode cX2_noteReading 63 = .ok (.iconst 1, 1) := by decide +kernel
theorem dX2_noteReading_64 : decode cX2_noteReading 64 = .ok (.isub, 1) := by decide +kernel
theorem dX2_noteReading_65 : decode cX2_noteReading 65 = .ok (.ireturn, 1) := by decide +kernel
theorem dX2_noteStrike_0 : decode cX2_noteStrike 0 = .ok (.aload_n 0, 1) := by decide +kernel
theorem dX2_noteStrike_1 : decode cX2_noteStrike 1 = .ok (.invokevirtual 35, 3) := by decide +kernel
theorem dX2_noteStrike_4 : decode cX2_noteStrike 4 = .ok (.ifCond .ne 5, 3) := by decide +kernel
theorem dX2_noteStrike_7 : decode cX2_noteStrike 7 = .ok (.iconst (-1), 1) := by decide +kernel
theorem dX2_noteStrike_8 : decode cX2_noteStrike 8 = .ok (.ireturn, 1) := by decide +kernel
theorem dX2_noteStrike_9 : decode cX2_noteStrike 9 = .ok (.aload_n 0, 1) := by decide +kernel
theorem dX2_noteStrike_10 : decode cX2_noteStrike 10 = .ok (.getfield 22, 3) := by decide +kernel
theorem dX2_noteStrike_13 : decode cX2_noteStrike 13 = .ok (.aload_n 0, 1) := by decide +kernel
theorem dX2_noteStrike_14 : decode cX2_noteStrike 14 = .ok (.getfield 32, 3) := by decide +kernel
theorem dX2_noteStrike_17 : decode cX2_noteStrike 17 = .ok (.iload_n 1, 1) := by decide +kernel
theorem dX2_noteStrike_18 : decode cX2_noteStrike 18 = .ok (.iastore, 1) := by decide +kernel
theorem dX2_noteStrike_19 : decode cX2_noteStrike 19 = .ok (.aload_n 0, 1) := by decide +kernel
theorem dX2_noteStrike_20 : decode cX2_noteStrike 20 = .ok (.dup, 1) := by decide +kernel
theorem dX2_noteStrike_21 : decode cX2_noteStrike 21 = .ok (.getfield 32, 3) := by decide +kernel
theorem dX2_noteStrike_24 : decode cX2_noteStrike 24 = .ok (.iconst 1, 1) := by decide +kernel
theorem dX2_noteStrike_25 : decode cX2_noteStrike 25 = .ok (.iadd, 1) := by decide +kernel
theorem dX2_noteStrike_26 : decode cX2_noteStrike 26 = .ok (.putfield 32, 3) := by decide +kernel
theorem dX2_noteStrike_29 : decode cX2_noteStrike 29 = .ok (.aload_n 0, 1) := by decide +kernel
theorem dX2_noteStrike_30 : decode cX2_noteStrike 30 = .ok (.getfield 32, 3) := by decide +kernel
theorem dX2_noteStrike_33 : decode cX2_noteStrike 33 = .ok (.iconst 1, 1) := by decide +kernel
theorem dX2_noteStrike_34 : decode cX2_noteStrike 34 = .ok (.isub, 1) := by decide +kernel
theorem dX2_noteStrike_35 : decode cX2_noteStrike 35 = .ok (.ireturn, 1) := by decide +kernel
theorem dX2_knownBy_0 : decode cX2_knownBy 0 = .ok (.aload_n 0, 1) := by decide +kernel
theorem dX2_knownBy_1 : decode cX2_knownBy 1 = .ok (.getfield 28, 3) := by decide +kernel
theorem dX2_knownBy_4 : decode cX2_knownBy 4 = .ok (.iconst (-1), 1) := by decide +kernel
theorem dX2_knownBy_5 : decode cX2_knownBy 5 = .ok (.if_icmp .ne 10, 3) := by decide +kernel
theorem dX2_knownBy_8 : decode cX2_knownBy 8 = .ok (.aload_n 0, 1) := by decide +kernel
theorem dX2_knownBy_9 : decode cX2_knownBy 9 = .ok (.getfield 32, 3) := by decide +kernel
theorem dX2_knownBy_12 : decode cX2_knownBy 12 = .ok (.goto 14, 3) := by decide +kernel
theorem dX2_knownBy_15 : decode cX2_knownBy 15 = .ok (.aload_n 0, 1) := by decide +kernel
theorem dX2_knownBy_16 : decode cX2_knownBy 16 = .ok (.getfield 28, 3) := by decide +kernel
theorem dX2_knownBy_19 : decode cX2_knownBy 19 = .ok (.aload_n 0, 1) := by decide +kernel
theorem dX2_knownBy_20 : decode cX2_knownBy 20 = .ok (.getfield 32, 3) := by decide +kernel
theorem dX2_knownBy_23 : decode cX2_knownBy 23 = .ok (.invokestatic 39, 3) := by decide +kernel
theorem dX2_knownBy_26 : decode cX2_knownBy 26 = .ok (.ireturn, 1) := by decide +kernel
theorem dX2_settle_0 : decode cX2_settle 0 = .ok (.iconst 0, 1) := by decide +kernel
theorem dX2_settle_1 : decode cX2_settle 1 = .ok (.istore_n 1, 1) := by decide +kernel
theorem dX2_settle_2 : decode cX2_settle 2 = .ok (.iload_n 1, 1) := by decide +kernel
theorem dX2_settle_3 : decode cX2_settle 3 = .ok (.bipush 24, 2) := by decide +kernel
theorem dX2_settle_5 : decode cX2_settle 5 = .ok (.if_icmp .ge 16, 3) := by decide +kernel
theorem dX2_settle_8 : decode cX2_settle 8 = .ok (.aload_n 0, 1) := by decide +kernel
theorem dX2_settle_9 : decode cX2_settle 9 = .ok (.getfield 25, 3) := by decide +kernel
theorem dX2_settle_12 : decode cX2_settle 12 = .ok (.iload_n 1, 1) := by decide +kernel
theorem dX2_settle_13 : decode cX2_settle 13 = .ok (.iconst 0, 1) := by decide +kernel
theorem dX2_settle_14 : decode cX2_settle 14 = .ok (.bastore, 1) := by decide +kernel
theorem dX2_settle_15 : decode cX2_settle 15 = .ok (.iinc 1 1, 3) := by decide +kernel
theorem dX2_settle_18 : decode cX2_settle 18 = .ok (.goto (-16), 3) := by decide +kernel
theorem dX2_settle_21 : decode cX2_settle 21 = .ok (.aload_n 0, 1) := by decide +kernel
theorem dX2_settle_22 : decode cX2_settle 22 = .ok (.invokevirtual 45, 3) := by decide +kernel
theorem dX2_settle_25 : decode cX2_settle 25 = .ok (.bipush 24, 2) := by decide +kernel
theorem dX2_settle_27 : decode cX2_settle 27 = .ok (.invokestatic 39, 3) := by decide +kernel
theorem dX2_settle_30 : decode cX2_settle 30 = .ok (.iconst 1, 1) := by decide +kernel
theorem dX2_settle_31 : decode cX2_settle 31 = .ok (.isub, 1) := by decide +kernel
theorem dX2_settle_32 : decode cX2_settle 32 = .ok (.istore_n 1, 1) := by decide +kernel
theorem dX2_settle_33 : decode cX2_settle 33 = .ok (.iload_n 1, 1) := by decide +kernel
theorem dX2_settle_34 : decode cX2_settle 34 = .ok (.ifCond .lt 42, 3) := by decide +kernel
theorem dX2_settle_37 : decode cX2_settle 37 = .ok (.aload_n 0, 1) := by decide +kernel
theorem dX2_settle_38 : decode cX2_settle 38 = .ok (.getfield 22, 3) := by decide +kernel
theorem dX2_settle_41 : decode cX2_settle 41 = .ok (.iload_n 1, 1) := by decide +kernel
theorem dX2_settle_42 : decode cX2_settle 42 = .ok (.iaload, 1) := by decide +kernel
theorem dX2_settle_43 : decode cX2_settle 43 = .ok (.istore_n 2, 1) := by decide +kernel
theorem dX2_settle_44 : decode cX2_settle 44 = .ok (.iload_n 2, 1) := by decide +kernel
theorem dX2_settle_45 : decode cX2_settle 45 = .ok (.ifCond .lt 25, 3) := by decide +kernel
theorem dX2_settle_48 : decode cX2_settle 48 = .ok (.iload_n 2, 1) := by decide +kernel
theorem dX2_settle_49 : decode cX2_settle 49 = .ok (.bipush 24, 2) := by decide +kernel
theorem dX2_settle_51 : decode cX2_settle 51 = .ok (.if_icmp .ge 19, 3) := by decide +kernel
theorem dX2_settle_54 : decode cX2_settle 54 = .ok (.aload_n 0, 1) := by decide +kernel
theorem dX2_settle_55 : decode cX2_settle 55 = .ok (.getfield 25, 3) := by decide +kernel
theorem dX2_settle_58 : decode cX2_settle 58 = .ok (.iload_n 1, 1) := by decide +kernel
theorem dX2_settle_59 : decode cX2_settle 59 = .ok (.baload, 1) := by decide +kernel
theorem dX2_settle_60 : decode cX2_settle 60 = .ok (.ifCond .ne 10, 3) := by decide +kernel
theorem dX2_settle_63 : decode cX2_settle 63 = .ok (.aload_n 0, 1) := by decide +kernel
theorem dX2_settle_64 : decode cX2_settle 64 = .ok (.getfield 25, 3) := by decide +kernel
theorem dX2_settle_67 : decode cX2_settle 67 = .ok (.iload_n 2, 1) := by decide +kernel
theorem dX2_settle_68 : decode cX2_settle 68 = .ok (.iconst 1, 1) := by decide +kernel
theorem dX2_settle_69 : decode cX2_settle 69 = .ok (.bastore, 1) := by decide +kernel
theorem dX2_settle_70 : decode cX2_settle 70 = .ok (.iinc 1 (-1), 3) := by decide +kernel
theorem dX2_settle_73 : decode cX2_settle 73 = .ok (.goto (-40), 3) := by decide +kernel
theorem dX2_settle_76 : decode cX2_settle 76 = .ok (.return_, 1) := by decide +kernel
theorem dX2_isKnown_0 : decode cX2_isKnown 0 = .ok (.iload_n 1, 1) := by decide +kernel
theorem dX2_isKnown_1 : decode cX2_isKnown 1 = .ok (.ifCond .lt 40, 3) := by decide +kernel
theorem dX2_isKnown_4 : decode cX2_isKnown 4 = .ok (.iload_n 1, 1) := by decide +kernel
theorem dX2_isKnown_5 : decode cX2_isKnown 5 = .ok (.bipush 24, 2) := by decide +kernel
theorem dX2_isKnown_7 : decode cX2_isKnown 7 = .ok (.if_icmp .ge 34, 3) := by decide +kernel
theorem dX2_isKnown_10 : decode cX2_isKnown 10 = .ok (.iload_n 1, 1) := by decide +kernel
theorem dX2_isKnown_11 : decode cX2_isKnown 11 = .ok (.aload_n 0, 1) := by decide +kernel
theorem dX2_isKnown_12 : decode cX2_isKnown 12 = .ok (.invokevirtual 45, 3) := by decide +kernel
theorem dX2_isKnown_15 : decode cX2_isKnown 15 = .ok (.if_icmp .ge 26, 3) := by decide +kernel
theorem dX2_isKnown_18 : decode cX2_isKnown 18 = .ok (.aload_n 0, 1) := by decide +kernel
theorem dX2_isKnown_19 : decode cX2_isKnown 19 = .ok (.getfield 22, 3) := by decide +kernel
theorem dX2_isKnown_22 : decode cX2_isKnown 22 = .ok (.iload_n 1, 1) := by decide +kernel
theorem dX2_isKnown_23 : decode cX2_isKnown 23 = .ok (.iaload, 1) := by decide +kernel
theorem dX2_isKnown_24 : decode cX2_isKnown 24 = .ok (.iconst (-1), 1) := by decide +kernel
theorem dX2_isKnown_25 : decode cX2_isKnown 25 = .ok (.if_icmp .ne 16, 3) := by decide +kernel
theorem dX2_isKnown_28 : decode cX2_isKnown 28 = .ok (.aload_n 0, 1) := by decide +kernel
theorem dX2_isKnown_29 : decode cX2_isKnown 29 = .ok (.getfield 25, 3) := by decide +kernel
theorem dX2_isKnown_32 : decode cX2_isKnown 32 = .ok (.iload_n 1, 1) := by decide +kernel
theorem dX2_isKnown_33 : decode cX2_isKnown 33 = .ok (.baload, 1) := by decide +kernel
theorem dX2_isKnown_34 : decode cX2_isKnown 34 = .ok (.ifCond .ne 7, 3) := by decide +kernel
theorem dX2_isKnown_37 : decode cX2_isKnown 37 = .ok (.iconst 1, 1) := by decide +kernel
theorem dX2_isKnown_38 : decode cX2_isKnown 38 = .ok (.goto 4, 3) := by decide +kernel
theorem dX2_isKnown_41 : decode cX2_isKnown 41 = .ok (.iconst 0, 1) := by decide +kernel
theorem dX2_isKnown_42 : decode cX2_isKnown 42 = .ok (.ireturn, 1) := by decide +kernel
theorem dX2_lastKnownWeek_0 : decode cX2_lastKnownWeek 0 = .ok (.iconst 0, 1) := by decide +kernel
theorem dX2_lastKnownWeek_1 : decode cX2_lastKnownWeek 1 = .ok (.istore_n 1, 1) := by decide +kernel
theorem dX2_lastKnownWeek_2 : decode cX2_lastKnownWeek 2 = .ok (.iconst 0, 1) := by decide +kernel
theorem dX2_lastKnownWeek_3 : decode cX2_lastKnownWeek 3 = .ok (.istore_n 2, 1) := by decide +kernel
theorem dX2_lastKnownWeek_4 : decode cX2_lastKnownWeek 4 = .ok (.iload_n 2, 1) := by decide +kernel
theorem dX2_lastKnownWeek_5 : decode cX2_lastKnownWeek 5 = .ok (.bipush 24, 2) := by decide +kernel
theorem dX2_lastKnownWeek_7 : decode cX2_lastKnownWeek 7 = .ok (.if_icmp .ge 32, 3) := by decide +kernel
theorem dX2_lastKnownWeek_10 : decode cX2_lastKnownWeek 10 = .ok (.aload_n 0, 1) := by decide +kernel
theorem dX2_lastKnownWeek_11 : decode cX2_lastKnownWeek 11 = .ok (.iload_n 2, 1) := by decide +kernel
theorem dX2_lastKnownWeek_12 : decode cX2_lastKnownWeek 12 = .ok (.invokevirtual 49, 3) := by decide +kernel
theorem dX2_lastKnownWeek_15 : decode cX2_lastKnownWeek 15 = .ok (.ifCond .eq 16, 3) := by decide +kernel
theorem dX2_lastKnownWeek_18 : decode cX2_lastKnownWeek 18 = .ok (.iload_n 1, 1) := by decide +kernel
theorem dX2_lastKnownWeek_19 : decode cX2_lastKnownWeek 19 = .ok (.aload_n 0, 1) := by decide +kernel
theorem dX2_lastKnownWeek_20 : decode cX2_lastKnownWeek 20 = .ok (.getfield 11, 3) := by decide +kernel
theorem dX2_lastKnownWeek_23 : decode cX2_lastKnownWeek 23 = .ok (.iload_n 2, 1) := by decide +kernel
theorem dX2_lastKnownWeek_24 : decode cX2_lastKnownWeek 24 = .ok (.iaload, 1) := by decide +kernel
theorem dX2_lastKnownWeek_25 : decode cX2_lastKnownWeek 25 = .ok (.invokestatic 53, 3) := by decide +kernel
theorem dX2_lastKnownWeek_28 : decode cX2_lastKnownWeek 28 = .ok (.goto 4, 3) := by decide +kernel
theorem dX2_lastKnownWeek_31 : decode cX2_lastKnownWeek 31 = .ok (.iload_n 1, 1) := by decide +kernel
theorem dX2_lastKnownWeek_32 : decode cX2_lastKnownWeek 32 = .ok (.istore_n 1, 1) := by decide +kernel
theorem dX2_lastKnownWeek_33 : decode cX2_lastKnownWeek 33 = .ok (.iinc 2 1, 3) := by decide +kernel
theorem dX2_lastKnownWeek_36 : decode cX2_lastKnownWeek 36 = .ok (.goto (-32), 3) := by decide +kernel
theorem dX2_lastKnownWeek_39 : decode cX2_lastKnownWeek 39 = .ok (.iload_n 1, 1) := by decide +kernel
theorem dX2_lastKnownWeek_40 : decode cX2_lastKnownWeek 40 = .ok (.ireturn, 1) := by decide +kernel
theorem dX2_agrees_0 : decode cX2_agrees 0 = .ok (.iconst 0, 1) := by decide +kernel
theorem dX2_agrees_1 : decode cX2_agrees 1 = .ok (.istore_n 3, 1) := by decide +kernel
theorem dX2_agrees_2 : decode cX2_agrees 2 = .ok (.iload_n 3, 1) := by decide +kernel
theorem dX2_agrees_3 : decode cX2_agrees 3 = .ok (.aload_n 0, 1) := by decide +kernel
theorem dX2_agrees_4 : decode cX2_agrees 4 = .ok (.getfield 32, 3) := by decide +kernel
theorem dX2_agrees_7 : decode cX2_agrees 7 = .ok (.if_icmp .ge 80, 3) := by decide +kernel
theorem dX2_agrees_10 : decode cX2_agrees 10 = .ok (.iload_n 3, 1) := by decide +kernel
theorem dX2_agrees_11 : decode cX2_agrees 11 = .ok (.bipush 24, 2) := by decide +kernel
theorem dX2_agrees_13 : decode cX2_agrees 13 = .ok (.if_icmp .ge 74, 3) := by decide +kernel
theorem dX2_agrees_16 : decode cX2_agrees 16 = .ok (.aload_n 0, 1) := by decide +kernel
theorem dX2_agrees_17 : decode cX2_agrees 17 = .ok (.iload_n 3, 1) := by decide +kernel
theorem dX2_agrees_18 : decode cX2_agrees 18 = .ok (.invokevirtual 49, 3) := by decide +kernel
theorem dX2_agrees_21 : decode cX2_agrees 21 = .ok (.ifCond .eq 60, 3) := by decide +kernel
theorem dX2_agrees_24 : decode cX2_agrees 24 = .ok (.aload_n 0, 1) := by decide +kernel
theorem dX2_agrees_25 : decode cX2_agrees 25 = .ok (.getfield 11, 3) := by decide +kernel
theorem dX2_agrees_28 : decode cX2_agrees 28 = .ok (.iload_n 3, 1) := by decide +kernel
theorem dX2_agrees_29 : decode cX2_agrees 29 = .ok (.iaload, 1) := by decide +kernel
theorem dX2_agrees_30 : decode cX2_agrees 30 = .ok (.iload_n 2, 1) := by decide +kernel
theorem dX2_agrees_31 : decode cX2_agrees 31 = .ok (.if_icmp .ne 50, 3) := by decide +kernel
theorem dX2_agrees_34 : decode cX2_agrees 34 = .ok (.aload_n 1, 1) := by decide +kernel
theorem dX2_agrees_35 : decode cX2_agrees 35 = .ok (.getfield 56, 3) := by decide +kernel
theorem dX2_agrees_38 : decode cX2_agrees 38 = .ok (.aload_n 0, 1) := by decide +kernel
theorem dX2_agrees_39 : decode cX2_agrees 39 = .ok (.getfield 15, 3) := by decide +kernel
theorem dX2_agrees_42 : decode cX2_agrees 42 = .ok (.iload_n 3, 1) := by decide +kernel
theorem dX2_agrees_43 : decode cX2_agrees 43 = .ok (.iaload, 1) := by decide +kernel
theorem dX2_agrees_44 : decode cX2_agrees 44 = .ok (.invokevirtual 62, 3) := by decide +kernel
theorem dX2_agrees_47 : decode cX2_agrees 47 = .ok (.ifCond .eq 34, 3) := by decide +kernel
theorem dX2_agrees_50 : decode cX2_agrees 50 = .ok (.aload_n 0, 1) := by decide +kernel
theorem dX2_agrees_51 : decode cX2_agrees 51 = .ok (.getfield 18, 3) := by decide +kernel
theorem dX2_agrees_54 : decode cX2_agrees 54 = .ok (.iload_n 3, 1) := by decide +kernel
theorem dX2_agrees_55 : decode cX2_agrees 55 = .ok (.baload, 1) := by decide +kernel
theorem dX2_agrees_56 : decode cX2_agrees 56 = .ok (.aload_n 1, 1) := by decide +kernel
theorem dX2_agrees_57 : decode cX2_agrees 57 = .ok (.getfield 67, 3) := by decide +kernel
theorem dX2_agrees_60 : decode cX2_agrees 60 = .ok (.aload_n 0, 1) := by decide +kernel
theorem dX2_agrees_61 : decode cX2_agrees 61 = .ok (.getfield 15, 3) := by decide +kernel
theorem dX2_agrees_64 : decode cX2_agrees 64 = .ok (.iload_n 3, 1) := by decide +kernel
theorem dX2_agrees_65 : decode cX2_agrees 65 = .ok (.iaload, 1) := by decide +kernel
theorem dX2_agrees_66 : decode cX2_agrees 66 = .ok (.iaload, 1) := by decide +kernel
theorem dX2_agrees_67 : decode cX2_agrees 67 = .ok (.iconst 1, 1) := by decide +kernel
theorem dX2_agrees_68 : decode cX2_agrees 68 = .ok (.if_icmp .ne 7, 3) := by decide +kernel
theorem dX2_agrees_71 : decode cX2_agrees 71 = .ok (.iconst 1, 1) := by decide +kernel
theorem dX2_agrees_72 : decode cX2_agrees 72 = .ok (.goto 4, 3) := by decide +kernel
theorem dX2_agrees_75 : decode cX2_agrees 75 = .ok (.iconst 0, 1) := by decide +kernel
theorem dX2_agrees_76 : decode cX2_agrees 76 = .ok (.if_icmp .eq 5, 3) := by decide +kernel
theorem dX2_agrees_79 : decode cX2_agrees 79 = .ok (.iconst 0, 1) := by decide +kernel
theorem dX2_agrees_80 : decode cX2_agrees 80 = .ok (.ireturn, 1) := by decide +kernel
theorem dX2_agrees_81 : decode cX2_agrees 81 = .ok (.iinc 3 1, 3) := by decide +kernel
theorem dX2_agrees_84 : decode cX2_agrees 84 = .ok (.goto (-82), 3) := by decide +kernel
theorem dX2_agrees_87 : decode cX2_agrees 87 = .ok (.iconst 1, 1) := by decide +kernel
theorem dX2_agrees_88 : decode cX2_agrees 88 = .ok (.ireturn, 1) := by decide +kernel
theorem dX3_init_0 : decode cX3_init 0 = .ok (.aload_n 0, 1) := by decide +kernel
theorem dX3_init_1 : decode cX3_init 1 = .ok (.invokespecial 3, 3) := by decide +kernel
theorem dX3_init_4 : decode cX3_init 4 = .ok (.aload_n 0, 1) := by decide +kernel
theorem dX3_init_5 : decode cX3_init 5 = .ok (.getstatic 9, 3) := by decide +kernel
theorem dX3_init_8 : decode cX3_init 8 = .ok (.arraylength, 1) := by decide +kernel
theorem dX3_init_9 : decode cX3_init 9 = .ok (.newarray .int, 2) := by decide +kernel
theorem dX3_init_11 : decode cX3_init 11 = .ok (.putfield 15, 3) := by decide +kernel
theorem dX3_init_14 : decode cX3_init 14 = .ok (.return_, 1) := by decide +kernel
theorem dX3_play_0 : decode cX3_play 0 = .ok (.aload_n 0, 1) := by decide +kernel
theorem dX3_play_1 : decode cX3_play 1 = .ok (.iload_n 1, 1) := by decide +kernel
theorem dX3_play_2 : decode cX3_play 2 = .ok (.putfield 18, 3) := by decide +kernel
theorem dX3_play_5 : decode cX3_play 5 = .ok (.aload_n 0, 1) := by decide +kernel
theorem dX3_play_6 : decode cX3_play 6 = .ok (.iload_n 2, 1) := by decide +kernel
theorem dX3_play_7 : decode cX3_play 7 = .ok (.putfield 22, 3) := by decide +kernel
theorem dX3_play_10 : decode cX3_play 10 = .ok (.aload_n 0, 1) := by decide +kernel
theorem dX3_play_11 : decode cX3_play 11 = .ok (.iconst 0, 1) := by decide +kernel
theorem dX3_play_12 : decode cX3_play 12 = .ok (.putfield 25, 3) := by decide +kernel
theorem dX3_play_15 : decode cX3_play 15 = .ok (.iconst 0, 1) := by decide +kernel
theorem dX3_play_16 : decode cX3_play 16 = .ok (.istore_n 3, 1) := by decide +kernel
theorem dX3_play_17 : decode cX3_play 17 = .ok (.iload_n 3, 1) := by decide +kernel
theorem dX3_play_18 : decode cX3_play 18 = .ok (.getstatic 9, 3) := by decide +kernel
theorem dX3_play_21 : decode cX3_play 21 = .ok (.arraylength, 1) := by decide +kernel
theorem dX3_play_22 : decode cX3_play 22 = .ok (.if_icmp .ge 75, 3) := by decide +kernel
theorem dX3_play_25 : decode cX3_play 25 = .ok (.aload_n 0, 1) := by decide +kernel
theorem dX3_play_26 : decode cX3_play 26 = .ok (.getstatic 9, 3) := by decide +kernel
theorem dX3_play_29 : decode cX3_play 29 = .ok (.iload_n 3, 1) := by decide +kernel
theorem dX3_play_30 : decode cX3_play 30 = .ok (.iaload, 1) := by decide +kernel
theorem dX3_play_31 : decode cX3_play 31 = .ok (.bipush 10, 2) := by decide +kernel
theorem dX3_play_33 : decode cX3_play 33 = .ok (.idiv, 1) := by decide +kernel
theorem dX3_play_34 : decode cX3_play 34 = .ok (.getstatic 9, 3) := by decide +kernel
theorem dX3_play_37 : decode cX3_play 37 = .ok (.iload_n 3, 1) := by decide +kernel
theorem dX3_play_38 : decode cX3_play 38 = .ok (.iaload, 1) := by decide +kernel
theorem dX3_play_39 : decode cX3_play 39 = .ok (.bipush 10, 2) := by decide +kernel
theorem dX3_play_41 : decode cX3_play 41 = .ok (.irem, 1) := by decide +kernel
theorem dX3_play_42 : decode cX3_play 42 = .ok (.invokevirtual 28, 3) := by decide +kernel
theorem dX3_play_45 : decode cX3_play 45 = .ok (.ifCond .eq 46, 3) := by decide +kernel
theorem dX3_play_48 : decode cX3_play 48 = .ok (.aload_n 0, 1) := by decide +kernel
theorem dX3_play_49 : decode cX3_play 49 = .ok (.getfield 25, 3) := by decide +kernel
theorem dX3_play_52 : decode cX3_play 52 = .ok (.ifCond .lt 39, 3) := by decide +kernel
theorem dX3_play_55 : decode cX3_play 55 = .ok (.aload_n 0, 1) := by decide +kernel
theorem dX3_play_56 : decode cX3_play 56 = .ok (.getfield 25, 3) := by decide +kernel
theorem dX3_play_59 : decode cX3_play 59 = .ok (.aload_n 0, 1) := by decide +kernel
theorem dX3_play_60 : decode cX3_play 60 = .ok (.getfield 15, 3) := by decide +kernel
theorem dX3_play_63 : decode cX3_play 63 = .ok (.arraylength, 1) := by decide +kernel
theorem dX3_play_64 : decode cX3_play 64 = .ok (.if_icmp .ge 27, 3) := by decide +kernel
theorem dX3_play_67 : decode cX3_play 67 = .ok (.aload_n 0, 1) := by decide +kernel
theorem dX3_play_68 : decode cX3_play 68 = .ok (.getfield 15, 3) := by decide +kernel
theorem dX3_play_71 : decode cX3_play 71 = .ok (.aload_n 0, 1) := by decide +kernel
theorem dX3_play_72 : decode cX3_play 72 = .ok (.getfield 25, 3) := by decide +kernel
theorem dX3_play_75 : decode cX3_play 75 = .ok (.getstatic 9, 3) := by decide +kernel
theorem dX3_play_78 : decode cX3_play 78 = .ok (.iload_n 3, 1) := by decide +kernel
theorem dX3_play_79 : decode cX3_play 79 = .ok (.iaload, 1) := by decide +kernel
theorem dX3_play_80 : decode cX3_play 80 = .ok (.iastore, 1) := by decide +kernel
theorem dX3_play_81 : decode cX3_play 81 = .ok (.aload_n 0, 1) := by decide +kernel
theorem dX3_play_82 : decode cX3_play 82 = .ok (.dup, 1) := by decide +kernel
theorem dX3_play_83 : decode cX3_play 83 = .ok (.getfield 25, 3) := by decide +kernel
theorem dX3_play_86 : decode cX3_play 86 = .ok (.iconst 1, 1) := by decide +kernel
theorem dX3_play_87 : decode cX3_play 87 = .ok (.iadd, 1) := by decide +kernel
theorem dX3_play_88 : decode cX3_play 88 = .ok (.putfield 25, 3) := by decide +kernel
theorem dX3_play_91 : decode cX3_play 91 = .ok (.iinc 3 1, 3) := by decide +kernel
theorem dX3_play_94 : decode cX3_play 94 = .ok (.goto (-77), 3) := by decide +kernel
theorem dX3_play_97 : decode cX3_play 97 = .ok (.return_, 1) := by decide +kernel
theorem dX3_restAt_0 : decode cX3_restAt 0 = .ok (.iload_n 1, 1) := by decide +kernel
theorem dX3_restAt_1 : decode cX3_restAt 1 = .ok (.ifCond .lt 29, 3) := by decide +kernel
theorem dX3_restAt_4 : decode cX3_restAt 4 = .ok (.iload_n 1, 1) := by decide +kernel
theorem dX3_restAt_5 : decode cX3_restAt 5 = .ok (.aload_n 0, 1) := by decide +kernel
theorem dX3_restAt_6 : decode cX3_restAt 6 = .ok (.getfield 25, 3) := by decide +kernel
theorem dX3_restAt_9 : decode cX3_restAt 9 = .ok (.if_icmp .ge 21, 3) := by decide +kernel
theorem dX3_restAt_12 : decode cX3_restAt 12 = .ok (.iload_n 1, 1) := by decide +kernel
theorem dX3_restAt_13 : decode cX3_restAt 13 = .ok (.aload_n 0, 1) := by decide +kernel
theorem dX3_restAt_14 : decode cX3_restAt 14 = .ok (.getfield 15, 3) := by decide +kernel
theorem dX3_restAt_17 : decode cX3_restAt 17 = .ok (.arraylength, 1) := by decide +kernel
theorem dX3_restAt_18 : decode cX3_restAt 18 = .ok (.if_icmp .ge 12, 3) := by decide +kernel
theorem dX3_restAt_21 : decode cX3_restAt 21 = .ok (.aload_n 0, 1) := by decide +kernel
theorem dX3_restAt_22 : decode cX3_restAt 22 = .ok (.getfield 15, 3) := by decide +kernel
theorem dX3_restAt_25 : decode cX3_restAt 25 = .ok (.iload_n 1, 1) := by decide +kernel
theorem dX3_restAt_26 : decode cX3_restAt 26 = .ok (.iaload, 1) := by decide +kernel
theorem dX3_restAt_27 : decode cX3_restAt 27 = .ok (.goto 5, 3) := by decide +kernel
theorem dX3_restAt_30 : decode cX3_restAt 30 = .ok (.bipush (-2), 2) := by decide +kernel
theorem dX3_restAt_32 : decode cX3_restAt 32 = .ok (.ireturn, 1) := by decide +kernel
theorem dX3_isRest_0 : decode cX3_isRest 0 = .ok (.aload_n 0, 1) := by decide +kernel
theorem dX3_isRest_1 : decode cX3_isRest 1 = .ok (.iload_n 1, 1) := by decide +kernel
theorem dX3_isRest_2 : decode cX3_isRest 2 = .ok (.iload_n 2, 1) := by decide +kernel
theorem dX3_isRest_3 : decode cX3_isRest 3 = .ok (.invokevirtual 32, 3) := by decide +kernel
theorem dX3_isRest_6 : decode cX3_isRest 6 = .ok (.aload_n 0, 1) := by decide +kernel
theorem dX3_isRest_7 : decode cX3_isRest 7 = .ok (.iconst 1, 1) := by decide +kernel
theorem dX3_isRest_8 : decode cX3_isRest 8 = .ok (.iload_n 1, 1) := by decide +kernel
theorem dX3_isRest_9 : decode cX3_isRest 9 = .ok (.isub, 1) := by decide +kernel
theorem dX3_isRest_10 : decode cX3_isRest 10 = .ok (.iload_n 2, 1) := by decide +kernel
theorem dX3_isRest_11 : decode cX3_isRest 11 = .ok (.invokevirtual 32, 3) := by decide +kernel
theorem dX3_isRest_14 : decode cX3_isRest 14 = .ok (.if_icmp .lt 24, 3) := by decide +kernel
theorem dX3_isRest_17 : decode cX3_isRest 17 = .ok (.aload_n 0, 1) := by decide +kernel
theorem dX3_isRest_18 : decode cX3_isRest 18 = .ok (.iload_n 1, 1) := by decide +kernel
theorem dX3_isRest_19 : decode cX3_isRest 19 = .ok (.iload_n 2, 1) := by decide +kernel
theorem dX3_isRest_20 : decode cX3_isRest 20 = .ok (.invokevirtual 36, 3) := by decide +kernel
theorem dX3_isRest_23 : decode cX3_isRest 23 = .ok (.aload_n 0, 1) := by decide +kernel
theorem dX3_isRest_24 : decode cX3_isRest 24 = .ok (.iload_n 1, 1) := by decide +kernel
theorem dX3_isRest_25 : decode cX3_isRest 25 = .ok (.iconst 1, 1) := by decide +kernel
theorem dX3_isRest_26 : decode cX3_isRest 26 = .ok (.iload_n 2, 1) := by decide +kernel
theorem dX3_isRest_27 : decode cX3_isRest 27 = .ok (.isub, 1) := by decide +kernel
theorem dX3_isRest_28 : decode cX3_isRest 28 = .ok (.invokevirtual 36, 3) := by decide +kernel
theorem dX3_isRest_31 : decode cX3_isRest 31 = .ok (.if_icmp .lt 7, 3) := by decide +kernel
theorem dX3_isRest_34 : decode cX3_isRest 34 = .ok (.iconst 1, 1) := by decide +kernel
theorem dX3_isRest_35 : decode cX3_isRest 35 = .ok (.goto 4, 3) := by decide +kernel
theorem dX3_isRest_38 : decode cX3_isRest 38 = .ok (.iconst 0, 1) := by decide +kernel
theorem dX3_isRest_39 : decode cX3_isRest 39 = .ok (.ireturn, 1) := by decide +kernel
theorem dX3_tax_0 : decode cX3_tax 0 = .ok (.iload_n 1, 1) := by decide +kernel
theorem dX3_tax_1 : decode cX3_tax 1 = .ok (.iconst 1, 1) := by decide +kernel
theorem dX3_tax_2 : decode cX3_tax 2 = .ok (.if_icmp .ne 7, 3) := by decide +kernel
theorem dX3_tax_5 : decode cX3_tax 5 = .ok (.iconst 1, 1) := by decide +kernel
theorem dX3_tax_6 : decode cX3_tax 6 = .ok (.goto 4, 3) := by decide +kernel
theorem dX3_tax_9 : decode cX3_tax 9 = .ok (.iconst 0, 1) := by decide +kernel
theorem dX3_tax_10 : decode cX3_tax 10 = .ok (.istore_n 3, 1) := by decide +kernel
theorem dX3_tax_11 : decode cX3_tax 11 = .ok (.iload_n 2, 1) := by decide +kernel
theorem dX3_tax_12 : decode cX3_tax 12 = .ok (.ifCond .ne 7, 3) := by decide +kernel
theorem dX3_tax_15 : decode cX3_tax 15 = .ok (.iconst 1, 1) := by decide +kernel
theorem dX3_tax_16 : decode cX3_tax 16 = .ok (.goto 4, 3) := by decide +kernel
theorem dX3_tax_19 : decode cX3_tax 19 = .ok (.iconst 0, 1) := by decide +kernel
theorem dX3_tax_20 : decode cX3_tax 20 = .ok (.istore 4, 2) := by decide +kernel
theorem dX3_tax_22 : decode cX3_tax 22 = .ok (.iload_n 3, 1) := by decide +kernel
theorem dX3_tax_23 : decode cX3_tax 23 = .ok (.ifCond .eq 15, 3) := by decide +kernel
theorem dX3_tax_26 : decode cX3_tax 26 = .ok (.iload 4, 2) := by decide +kernel
theorem dX3_tax_28 : decode cX3_tax 28 = .ok (.ifCond .eq 10, 3) := by decide +kernel
theorem dX3_tax_31 : decode cX3_tax 31 = .ok (.aload_n 0, 1) := by decide +kernel
theorem dX3_tax_32 : decode cX3_tax 32 = .ok (.getfield 18, 3) := by decide +kernel
theorem dX3_tax_35 : decode cX3_tax 35 = .ok (.goto 22, 3) := by decide +kernel
theorem dX3_tax_38 : decode cX3_tax 38 = .ok (.iload_n 3, 1) := by decide +kernel
theorem dX3_tax_39 : decode cX3_tax 39 = .ok (.ifCond .ne 8, 3) := by decide +kernel
theorem dX3_tax_42 : decode cX3_tax 42 = .ok (.iload 4, 2) := by decide +kernel
theorem dX3_tax_44 : decode cX3_tax 44 = .ok (.ifCond .eq 12, 3) := by decide +kernel
theorem dX3_tax_47 : decode cX3_tax 47 = .ok (.aload_n 0, 1) := by decide +kernel
theorem dX3_tax_48 : decode cX3_tax 48 = .ok (.getfield 18, 3) := by decide +kernel
theorem dX3_tax_51 : decode cX3_tax 51 = .ok (.iconst 2, 1) := by decide +kernel
theorem dX3_tax_52 : decode cX3_tax 52 = .ok (.idiv, 1) := by decide +kernel
theorem dX3_tax_53 : decode cX3_tax 53 = .ok (.goto 4, 3) := by decide +kernel
theorem dX3_tax_56 : decode cX3_tax 56 = .ok (.iconst 0, 1) := by decide +kernel
theorem dX3_tax_57 : decode cX3_tax 57 = .ok (.istore 5, 2) := by decide +kernel
theorem dX3_tax_59 : decode cX3_tax 59 = .ok (.iload 5, 2) := by decide +kernel
theorem dX3_tax_61 : decode cX3_tax 61 = .ok (.aload_n 0, 1) := by decide +kernel
theorem dX3_tax_62 : decode cX3_tax 62 = .ok (.getfield 22, 3) := by decide +kernel
theorem dX3_tax_65 : decode cX3_tax 65 = .ok (.imul, 1) := by decide +kernel
theorem dX3_tax_66 : decode cX3_tax 66 = .ok (.bipush 100, 2) := by decide +kernel
theorem dX3_tax_68 : decode cX3_tax 68 = .ok (.idiv, 1) := by decide +kernel
theorem dX3_tax_69 : decode cX3_tax 69 = .ok (.ireturn, 1) := by decide +kernel
theorem dX3_streetHas_0 : decode cX3_streetHas 0 = .ok (.aload_n 0, 1) := by decide +kernel
theorem dX3_streetHas_1 : decode cX3_streetHas 1 = .ok (.iload_n 1, 1) := by decide +kernel
theorem dX3_streetHas_2 : decode cX3_streetHas 2 = .ok (.iload_n 2, 1) := by decide +kernel
theorem dX3_streetHas_3 : decode cX3_streetHas 3 = .ok (.invokevirtual 39, 3) := by decide +kernel
theorem dX3_streetHas_6 : decode cX3_streetHas 6 = .ok (.ineg, 1) := by decide +kernel
theorem dX3_streetHas_7 : decode cX3_streetHas 7 = .ok (.iload_n 1, 1) := by decide +kernel
theorem dX3_streetHas_8 : decode cX3_streetHas 8 = .ok (.ifCond .ne 7, 3) := by decide +kernel
theorem dX3_streetHas_11 : decode cX3_streetHas 11 = .ok (.iconst 5, 1) := by decide +kernel
theorem dX3_streetHas_12 : decode cX3_streetHas 12 = .ok (.goto 4, 3) := by decide +kernel
theorem dX3_streetHas_15 : decode cX3_streetHas 15 = .ok (.iconst 0, 1) := by decide +kernel
theorem dX3_streetHas_16 : decode cX3_streetHas 16 = .ok (.isub, 1) := by decide +kernel
theorem dX3_streetHas_17 : decode cX3_streetHas 17 = .ok (.ireturn, 1) := by decide +kernel
theorem dX3_readerHas_0 : decode cX3_readerHas 0 = .ok (.aload_n 0, 1) := by decide +kernel
theorem dX3_readerHas_1 : decode cX3_readerHas 1 = .ok (.iload_n 1, 1) := by decide +kernel
theorem dX3_readerHas_2 : decode cX3_readerHas 2 = .ok (.iload_n 2, 1) := by decide +kernel
theorem dX3_readerHas_3 : decode cX3_readerHas 3 = .ok (.invokevirtual 39, 3) := by decide +kernel
theorem dX3_readerHas_6 : decode cX3_readerHas 6 = .ok (.iload_n 2, 1) := by decide +kernel
theorem dX3_readerHas_7 : decode cX3_readerHas 7 = .ok (.ifCond .ne 7, 3) := by decide +kernel
theorem dX3_readerHas_10 : decode cX3_readerHas 10 = .ok (.iconst 3, 1) := by decide +kernel
theorem dX3_readerHas_11 : decode cX3_readerHas 11 = .ok (.goto 4, 3) := by decide +kernel
theorem dX3_readerHas_14 : decode cX3_readerHas 14 = .ok (.iconst 0, 1) := by decide +kernel
theorem dX3_readerHas_15 : decode cX3_readerHas 15 = .ok (.isub, 1) := by decide +kernel
theorem dX3_readerHas_16 : decode cX3_readerHas 16 = .ok (.ireturn, 1) := by decide +kernel
theorem dX4_init_0 : decode cX4_init 0 = .ok (.aload_n 0, 1) := by decide +kernel
theorem dX4_init_1 : decode cX4_init 1 = .ok (.invokespecial 7, 3) := by decide +kernel
theorem dX4_init_4 : decode cX4_init 4 = .ok (.aload_n 0, 1) := by decide +kernel
theorem dX4_init_5 : decode cX4_init 5 = .ok (.bipush 72, 2) := by decide +kernel
theorem dX4_init_7 : decode cX4_init 7 = .ok (.newarray .int, 2) := by decide +kernel
theorem dX4_init_9 : decode cX4_init 9 = .ok (.putfield 13, 3) := by decide +kernel
theorem dX4_init_12 : decode cX4_init 12 = .ok (.aload_n 0, 1) := by decide +kernel
theorem dX4_init_13 : decode cX4_init 13 = .ok (.bipush 9, 2) := by decide +kernel
theorem dX4_init_15 : decode cX4_init 15 = .ok (.newarray .boolean, 2) := by decide +kernel
theorem dX4_init_17 : decode cX4_init 17 = .ok (.putfield 17, 3) := by decide +kernel
theorem dX4_init_20 : decode cX4_init 20 = .ok (.aload_n 0, 1) := by decide +kernel
theorem dX4_init_21 : decode cX4_init 21 = .ok (.aload_n 1, 1) := by decide +kernel
theorem dX4_init_22 : decode cX4_init 22 = .ok (.putfield 21, 3) := by decide +kernel
theorem dX4_init_25 : decode cX4_init 25 = .ok (.aload_n 0, 1) := by decide +kernel
theorem dX4_init_26 : decode cX4_init 26 = .ok (.aload_n 2, 1) := by decide +kernel
theorem dX4_init_27 : decode cX4_init 27 = .ok (.putfield 25, 3) := by decide +kernel
theorem dX4_init_30 : decode cX4_init 30 = .ok (.return_, 1) := by decide +kernel
theorem dX4_read_0 : decode cX4_read 0 = .ok (.aload_n 0, 1) := by decide +kernel
theorem dX4_read_1 : decode cX4_read 1 = .ok (.aload_n 1, 1) := by decide +kernel
theorem dX4_read_2 : decode cX4_read 2 = .ok (.putfield 25, 3) := by decide +kernel
theorem dX4_read_5 : decode cX4_read 5 = .ok (.aload_n 0, 1) := by decide +kernel
theorem dX4_read_6 : decode cX4_read 6 = .ok (.getfield 25, 3) := by decide +kernel
theorem dX4_read_9 : decode cX4_read 9 = .ok (.iload_n 2, 1) := by decide +kernel
theorem dX4_read_10 : decode cX4_read 10 = .ok (.invokevirtual 29, 3) := by decide +kernel
theorem dX4_read_13 : decode cX4_read 13 = .ok (.aload_n 0, 1) := by decide +kernel
theorem dX4_read_14 : decode cX4_read 14 = .ok (.iconst 0, 1) := by decide +kernel
theorem dX4_read_15 : decode cX4_read 15 = .ok (.putfield 33, 3) := by decide +kernel
theorem dX4_read_18 : decode cX4_read 18 = .ok (.aload_n 0, 1) := by decide +kernel
theorem dX4_read_19 : decode cX4_read 19 = .ok (.iconst 0, 1) := by decide +kernel
theorem dX4_read_20 : decode cX4_read 20 = .ok (.putfield 37, 3) := by decide +kernel
theorem dX4_read_23 : decode cX4_read 23 = .ok (.aload_n 0, 1) := by decide +kernel
theorem dX4_read_24 : decode cX4_read 24 = .ok (.aload_n 0, 1) := by decide +kernel
theorem dX4_read_25 : decode cX4_read 25 = .ok (.getfield 25, 3) := by decide +kernel
theorem dX4_read_28 : decode cX4_read 28 = .ok (.getfield 39, 3) := by decide +kernel
theorem dX4_read_31 : decode cX4_read 31 = .ok (.putfield 42, 3) := by decide +kernel
theorem dX4_read_34 : decode cX4_read 34 = .ok (.aload_n 0, 1) := by decide +kernel
theorem dX4_read_35 : decode cX4_read 35 = .ok (.iconst 1, 1) := by decide +kernel
theorem dX4_read_36 : decode cX4_read 36 = .ok (.invokevirtual 45, 3) := by decide +kernel
theorem dX4_read_39 : decode cX4_read 39 = .ok (.aload_n 0, 1) := by decide +kernel
theorem dX4_read_40 : decode cX4_read 40 = .ok (.getfield 17, 3) := by decide +kernel
theorem dX4_read_43 : decode cX4_read 43 = .ok (.iconst 0, 1) := by decide +kernel
theorem dX4_read_44 : decode cX4_read 44 = .ok (.iconst 0, 1) := by decide +kernel
theorem dX4_read_45 : decode cX4_read 45 = .ok (.bastore, 1) := by decide +kernel
theorem dX4_read_46 : decode cX4_read 46 = .ok (.iconst 0, 1) := by decide +kernel
theorem dX4_read_47 : decode cX4_read 47 = .ok (.istore_n 3, 1) := by decide +kernel
theorem dX4_read_48 : decode cX4_read 48 = .ok (.iload_n 3, 1) := by decide +kernel
theorem dX4_read_49 : decode cX4_read 49 = .ok (.sipush 700, 3) := by decide +kernel
theorem dX4_read_52 : decode cX4_read 52 = .ok (.if_icmp .gt 104, 3) := by decide +kernel
theorem dX4_read_55 : decode cX4_read 55 = .ok (.aload_n 0, 1) := by decide +kernel
theorem dX4_read_56 : decode cX4_read 56 = .ok (.getfield 51, 3) := by decide +kernel
theorem dX4_read_59 : decode cX4_read 59 = .ok (.ifCond .ne 37, 3) := by decide +kernel
theorem dX4_read_62 : decode cX4_read 62 = .ok (.aload_n 0, 1) := by decide +kernel
theorem dX4_read_63 : decode cX4_read 63 = .ok (.getfield 37, 3) := by decide +kernel
theorem dX4_read_66 : decode cX4_read 66 = .ok (.ifCond .ne 30, 3) := by decide +kernel
theorem dX4_read_69 : decode cX4_read 69 = .ok (.aload_n 0, 1) := by decide +kernel
theorem dX4_read_70 : decode cX4_read 70 = .ok (.getfield 21, 3) := by decide +kernel
theorem dX4_read_73 : decode cX4_read 73 = .ok (.bipush 17, 2) := by decide +kernel
theorem dX4_read_75 : decode cX4_read 75 = .ok (.invokevirtual 55, 3) := by decide +kernel
theorem dX4_read_78 : decode cX4_read 78 = .ok (.ifCond .eq 18, 3) := by decide +kernel
theorem dX4_read_81 : decode cX4_read 81 = .ok (.aload_n 0, 1) := by decide +kernel
theorem dX4_read_82 : decode cX4_read 82 = .ok (.iconst 0, 1) := by decide +kernel
theorem dX4_read_83 : decode cX4_read 83 = .ok (.invokevirtual 61, 3) := by decide +kernel
theorem dX4_read_86 : decode cX4_read 86 = .ok (.aload_n 0, 1) := by decide +kernel
theorem dX4_read_87 : decode cX4_read 87 = .ok (.getfield 25, 3) := by decide +kernel
theorem dX4_read_90 : decode cX4_read 90 = .ok (.iload_n 2, 1) := by decide +kernel
theorem dX4_read_91 : decode cX4_read 91 = .ok (.invokevirtual 64, 3) := by decide +kernel
theorem dX4_read_94 : decode cX4_read 94 = .ok (.iconst 0, 1) := by decide +kernel
theorem dX4_read_95 : decode cX4_read 95 = .ok (.ireturn, 1) := by decide +kernel
theorem dX4_read_96 : decode cX4_read 96 = .ok (.aload_n 0, 1) := by decide +kernel
theorem dX4_read_97 : decode cX4_read 97 = .ok (.getfield 51, 3) := by decide +kernel
theorem dX4_read_100 : decode cX4_read 100 = .ok (.ifCond .eq 10, 3) := by decide +kernel
theorem dX4_read_103 : decode cX4_read 103 = .ok (.aload_n 0, 1) := by decide +kernel
theorem dX4_read_104 : decode cX4_read 104 = .ok (.invokevirtual 67, 3) := by decide +kernel
theorem dX4_read_107 : decode cX4_read 107 = .ok (.goto 26, 3) := by decide +kernel
theorem dX4_read_110 : decode cX4_read 110 = .ok (.aload_n 0, 1) := by decide +kernel
theorem dX4_read_111 : decode cX4_read 111 = .ok (.getfield 21, 3) := by decide +kernel
theorem dX4_read_114 : decode cX4_read 114 = .ok (.bipush 16, 2) := by decide +kernel
theorem dX4_read_116 : decode cX4_read 116 = .ok (.invokevirtual 55, 3) := by decide +kernel
theorem dX4_read_119 : decode cX4_read 119 = .ok (.ifCond .eq 10, 3) := by decide +kernel
theorem dX4_read_122 : decode cX4_read 122 = .ok (.aload_n 0, 1) := by decide +kernel
theorem dX4_read_123 : decode cX4_read 123 = .ok (.invokevirtual 71, 3) := by decide +kernel
theorem dX4_read_126 : decode cX4_read 126 = .ok (.goto 7, 3) := by decide +kernel
theorem dX4_read_129 : decode cX4_read 129 = .ok (.aload_n 0, 1) := by decide +kernel
theorem dX4_read_130 : decode cX4_read 130 = .ok (.invokevirtual 74, 3) := by decide +kernel
theorem dX4_read_133 : decode cX4_read 133 = .ok (.istore 4, 2) := by decide +kernel
theorem dX4_read_135 : decode cX4_read 135 = .ok (.iload 4, 2) := by decide +kernel
theorem dX4_read_137 : decode cX4_read 137 = .ok (.ifCond .eq 6, 3) := by decide +kernel
theorem dX4_read_140 : decode cX4_read 140 = .ok (.iload 4, 2) := by decide +kernel
theorem dX4_read_142 : decode cX4_read 142 = .ok (.ireturn, 1) := by decide +kernel
theorem dX4_read_143 : decode cX4_read 143 = .ok (.aload_n 0, 1) := by decide +kernel
theorem dX4_read_144 : decode cX4_read 144 = .ok (.getfield 21, 3) := by decide +kernel
theorem dX4_read_147 : decode cX4_read 147 = .ok (.invokevirtual 77, 3) := by decide +kernel
theorem dX4_read_150 : decode cX4_read 150 = .ok (.iinc 3 1, 3) := by decide +kernel
theorem dX4_read_153 : decode cX4_read 153 = .ok (.goto (-105), 3) := by decide +kernel
theorem dX4_read_156 : decode cX4_read 156 = .ok (.iconst 1, 1) := by decide +kernel
theorem dX4_read_157 : decode cX4_read 157 = .ok (.ireturn, 1) := by decide +kernel
theorem dX4_expectOperand_0 : decode cX4_expectOperand 0 = .ok (.aload_n 0, 1) := by decide +kernel
theorem dX4_expectOperand_1 : decode cX4_expectOperand 1 = .ok (.iconst 1, 1) := by decide +kernel
theorem dX4_expectOperand_2 : decode cX4_expectOperand 2 = .ok (.putfield 51, 3) := by decide +kernel
theorem dX4_expectOperand_5 : decode cX4_expectOperand 5 = .ok (.aload_n 0, 1) := by decide +kernel
theorem dX4_expectOperand_6 : decode cX4_expectOperand 6 = .ok (.iload_n 1, 1) := by decide +kernel
theorem dX4_expectOperand_7 : decode cX4_expectOperand 7 = .ok (.putfield 80, 3) := by decide +kernel
theorem dX4_expectOperand_10 : decode cX4_expectOperand 10 = .ok (.return_, 1) := by decide +kernel
theorem dX4_takeOperand_0 : decode cX4_takeOperand 0 = .ok (.aload_n 0, 1) := by decide +kernel
theorem dX4_takeOperand_1 : decode cX4_takeOperand 1 = .ok (.getfield 21, 3) := by decide +kernel
theorem dX4_takeOperand_4 : decode cX4_takeOperand 4 = .ok (.bipush 15, 2) := by decide +kernel
theorem dX4_takeOperand_6 : decode cX4_takeOperand 6 = .ok (.invokevirtual 55, 3) := by decide +kernel
theorem dX4_takeOperand_9 : decode cX4_takeOperand 9 = .ok (.ifCond .eq 8, 3) := by decide +kernel
theorem dX4_takeOperand_12 : decode cX4_takeOperand 12 = .ok (.aload_n 0, 1) := by decide +kernel
theorem dX4_takeOperand_13 : decode cX4_takeOperand 13 = .ok (.invokevirtual 83, 3) := by decide +kernel
theorem dX4_takeOperand_16 : decode cX4_takeOperand 16 = .ok (.ireturn, 1) := by decide +kernel
theorem dX4_takeOperand_17 : decode cX4_takeOperand 17 = .ok (.aload_n 0, 1) := by decide +kernel
theorem dX4_takeOperand_18 : decode cX4_takeOperand 18 = .ok (.getfield 21, 3) := by decide +kernel
theorem dX4_takeOperand_21 : decode cX4_takeOperand 21 = .ok (.bipush 12, 2) := by decide +kernel
theorem dX4_takeOperand_23 : decode cX4_takeOperand 23 = .ok (.invokevirtual 86, 3) := by decide +kernel
theorem dX4_takeOperand_26 : decode cX4_takeOperand 26 = .ok (.ifCond .eq 19, 3) := by decide +kernel
theorem dX4_takeOperand_29 : decode cX4_takeOperand 29 = .ok (.aload_n 0, 1) := by decide +kernel
theorem dX4_takeOperand_30 : decode cX4_takeOperand 30 = .ok (.getfield 80, 3) := by decide +kernel
theorem dX4_takeOperand_33 : decode cX4_takeOperand 33 = .ok (.ifCond .eq 10, 3) := by decide +kernel
theorem dX4_takeOperand_36 : decode cX4_takeOperand 36 = .ok (.aload_n 0, 1) := by decide +kernel
theorem dX4_takeOperand_37 : decode cX4_takeOperand 37 = .ok (.invokevirtual 89, 3) := by decide +kernel
theorem dX4_takeOperand_40 : decode cX4_takeOperand 40 = .ok (.goto 4, 3) := by decide +kernel
theorem dX4_takeOperand_43 : decode cX4_takeOperand 43 = .ok (.iconst 1, 1) := by decide +kernel
theorem dX4_takeOperand_44 : decode cX4_takeOperand 44 = .ok (.ireturn, 1) := by decide +kernel
theorem dX4_takeOperand_45 : decode cX4_takeOperand 45 = .ok (.aload_n 0, 1) := by decide +kernel
theorem dX4_takeOperand_46 : decode cX4_takeOperand 46 = .ok (.getfield 21, 3) := by decide +kernel
theorem dX4_takeOperand_49 : decode cX4_takeOperand 49 = .ok (.getfield 92, 3) := by decide +kernel
theorem dX4_takeOperand_52 : decode cX4_takeOperand 52 = .ok (.iconst 2, 1) := by decide +kernel
theorem dX4_takeOperand_53 : decode cX4_takeOperand 53 = .ok (.if_icmp .ne 7, 3) := by decide +kernel
theorem dX4_takeOperand_56 : decode cX4_takeOperand 56 = .ok (.iconst 1, 1) := by decide +kernel
theorem dX4_takeOperand_57 : decode cX4_takeOperand 57 = .ok (.goto 4, 3) := by decide +kernel
theorem dX4_takeOperand_60 : decode cX4_takeOperand 60 = .ok (.iconst 0, 1) := by decide +kernel
theorem dX4_takeOperand_61 : decode cX4_takeOperand 61 = .ok (.istore_n 1, 1) := by decide +kernel
theorem dX4_takeOperand_62 : decode cX4_takeOperand 62 = .ok (.aload_n 0, 1) := by decide +kernel
theorem dX4_takeOperand_63 : decode cX4_takeOperand 63 = .ok (.getfield 21, 3) := by decide +kernel
theorem dX4_takeOperand_66 : decode cX4_takeOperand 66 = .ok (.getfield 92, 3) := by decide +kernel
theorem dX4_takeOperand_69 : decode cX4_takeOperand 69 = .ok (.iconst 4, 1) := by decide +kernel
theorem dX4_takeOperand_70 : decode cX4_takeOperand 70 = .ok (.if_icmp .ne 31, 3) := by decide +kernel
theorem dX4_takeOperand_73 : decode cX4_takeOperand 73 = .ok (.aload_n 0, 1) := by decide +kernel
theorem dX4_takeOperand_74 : decode cX4_takeOperand 74 = .ok (.getfield 21, 3) := by decide +kernel
theorem dX4_takeOperand_77 : decode cX4_takeOperand 77 = .ok (.getfield 95, 3) := by decide +kernel
theorem dX4_takeOperand_80 : decode cX4_takeOperand 80 = .ok (.bipush 13, 2) := by decide +kernel
theorem dX4_takeOperand_82 : decode cX4_takeOperand 82 = .ok (.if_icmp .lt 19, 3) := by decide +kernel
theorem dX4_takeOperand_85 : decode cX4_takeOperand 85 = .ok (.aload_n 0, 1) := by decide +kernel
theorem dX4_takeOperand_86 : decode cX4_takeOperand 86 = .ok (.getfield 21, 3) := by decide +kernel
theorem dX4_takeOperand_89 : decode cX4_takeOperand 89 = .ok (.getfield 95, 3) := by decide +kernel
theorem dX4_takeOperand_92 : decode cX4_takeOperand 92 = .ok (.bipush 19, 2) := by decide +kernel
theorem dX4_takeOperand_94 : decode cX4_takeOperand 94 = .ok (.if_icmp .gt 7, 3) := by decide +kernel
theorem dX4_takeOperand_97 : decode cX4_takeOperand 97 = .ok (.iconst 1, 1) := by decide +kernel
theorem dX4_takeOperand_98 : decode cX4_takeOperand 98 = .ok (.goto 4, 3) := by decide +kernel
theorem dX4_takeOperand_101 : decode cX4_takeOperand 101 = .ok (.iconst 0, 1) := by decide +kernel
theorem dX4_takeOperand_102 : decode cX4_takeOperand 102 = .ok (.istore_n 2, 1) := by decide +kernel
theorem dX4_takeOperand_103 : decode cX4_takeOperand 103 = .ok (.iload_n 1, 1) := by decide +kernel
theorem dX4_takeOperand_104 : decode cX4_takeOperand 104 = .ok (.ifCond .ne 9, 3) := by decide +kernel
theorem dX4_takeOperand_107 : decode cX4_takeOperand 107 = .ok (.iload_n 2, 1) := by decide +kernel
theorem dX4_takeOperand_108 : decode cX4_takeOperand 108 = .ok (.ifCond .ne 5, 3) := by decide +kernel
theorem dX4_takeOperand_111 : decode cX4_takeOperand 111 = .ok (.iconst 1, 1) := by decide +kernel
theorem dX4_takeOperand_112 : decode cX4_takeOperand 112 = .ok (.ireturn, 1) := by decide +kernel
theorem dX4_takeOperand_113 : decode cX4_takeOperand 113 = .ok (.aload_n 0, 1) := by decide +kernel
theorem dX4_takeOperand_114 : decode cX4_takeOperand 114 = .ok (.getfield 42, 3) := by decide +kernel
theorem dX4_takeOperand_117 : decode cX4_takeOperand 117 = .ok (.bipush 64, 2) := by decide +kernel
theorem dX4_takeOperand_119 : decode cX4_takeOperand 119 = .ok (.if_icmp .ge 20, 3) := by decide +kernel
theorem dX4_takeOperand_122 : decode cX4_takeOperand 122 = .ok (.iload_n 1, 1) := by decide +kernel
theorem dX4_takeOperand_123 : decode cX4_takeOperand 123 = .ok (.ifCond .eq 18, 3) := by decide +kernel
theorem dX4_takeOperand_126 : decode cX4_takeOperand 126 = .ok (.aload_n 0, 1) := by decide +kernel
theorem dX4_takeOperand_127 : decode cX4_takeOperand 127 = .ok (.getfield 21, 3) := by decide +kernel
theorem dX4_takeOperand_130 : decode cX4_takeOperand 130 = .ok (.getfield 95, 3) := by decide +kernel
theorem dX4_takeOperand_133 : decode cX4_takeOperand 133 = .ok (.sipush 9999, 3) := by decide +kernel
theorem dX4_takeOperand_136 : decode cX4_takeOperand 136 = .ok (.if_icmp .le 5, 3) := by decide +kernel
theorem dX4_takeOperand_139 : decode cX4_takeOperand 139 = .ok (.iconst 2, 1) := by decide +kernel
theorem dX4_takeOperand_140 : decode cX4_takeOperand 140 = .ok (.ireturn, 1) := by decide +kernel
theorem dX4_takeOperand_141 : decode cX4_takeOperand 141 = .ok (.aload_n 0, 1) := by decide +kernel
theorem dX4_takeOperand_142 : decode cX4_takeOperand 142 = .ok (.dup, 1) := by decide +kernel
theorem dX4_takeOperand_143 : decode cX4_takeOperand 143 = .ok (.getfield 42, 3) := by decide +kernel
theorem dX4_takeOperand_146 : decode cX4_takeOperand 146 = .ok (.iconst 1, 1) := by decide +kernel
theorem dX4_takeOperand_147 : decode cX4_takeOperand 147 = .ok (.iadd, 1) := by decide +kernel
theorem dX4_takeOperand_148 : decode cX4_takeOperand 148 = .ok (.putfield 42, 3) := by decide +kernel
theorem dX4_takeOperand_151 : decode cX4_takeOperand 151 = .ok (.aload_n 0, 1) := by decide +kernel
theorem dX4_takeOperand_152 : decode cX4_takeOperand 152 = .ok (.getfield 25, 3) := by decide +kernel
theorem dX4_takeOperand_155 : decode cX4_takeOperand 155 = .ok (.iload_n 1, 1) := by decide +kernel
theorem dX4_takeOperand_156 : decode cX4_takeOperand 156 = .ok (.ifCond .eq 7, 3) := by decide +kernel
theorem dX4_takeOperand_159 : decode cX4_takeOperand 159 = .ok (.iconst 0, 1) := by decide +kernel
theorem dX4_takeOperand_160 : decode cX4_takeOperand 160 = .ok (.goto 4, 3) := by decide +kernel
theorem dX4_takeOperand_163 : decode cX4_takeOperand 163 = .ok (.iconst 1, 1) := by decide +kernel
theorem dX4_takeOperand_164 : decode cX4_takeOperand 164 = .ok (.iload_n 1, 1) := by decide +kernel
theorem dX4_takeOperand_165 : decode cX4_takeOperand 165 = .ok (.ifCond .eq 13, 3) := by decide +kernel
theorem dX4_takeOperand_168 : decode cX4_takeOperand 168 = .ok (.aload_n 0, 1) := by decide +kernel
theorem dX4_takeOperand_169 : decode cX4_takeOperand 169 = .ok (.getfield 21, 3) := by decide +kernel
theorem dX4_takeOperand_172 : decode cX4_takeOperand 172 = .ok (.getfield 95, 3) := by decide +kernel
theorem dX4_takeOperand_175 : decode cX4_takeOperand 175 = .ok (.goto 13, 3) := by decide +kernel
theorem dX4_takeOperand_178 : decode cX4_takeOperand 178 = .ok (.aload_n 0, 1) := by decide +kernel
theorem dX4_takeOperand_179 : decode cX4_takeOperand 179 = .ok (.getfield 21, 3) := by decide +kernel
theorem dX4_takeOperand_182 : decode cX4_takeOperand 182 = .ok (.getfield 95, 3) := by decide +kernel
theorem dX4_takeOperand_185 : decode cX4_takeOperand 185 = .ok (.bipush 13, 2) := by decide +kernel
theorem dX4_takeOperand_187 : decode cX4_takeOperand 187 = .ok (.isub, 1) := by decide +kernel
theorem dX4_takeOperand_188 : decode cX4_takeOperand 188 = .ok (.invokevirtual 98, 3) := by decide +kernel
theorem dX4_takeOperand_191 : decode cX4_takeOperand 191 = .ok (.aload_n 0, 1) := by decide +kernel
theorem dX4_takeOperand_192 : decode cX4_takeOperand 192 = .ok (.iconst 0, 1) := by decide +kernel
theorem dX4_takeOperand_193 : decode cX4_takeOperand 193 = .ok (.putfield 51, 3) := by decide +kernel
theorem dX4_takeOperand_196 : decode cX4_takeOperand 196 = .ok (.iconst 0, 1) := by decide +kernel
theorem dX4_takeOperand_197 : decode cX4_takeOperand 197 = .ok (.ireturn, 1) := by decide +kernel
theorem dX4_takeOpening_0 : decode cX4_takeOpening 0 = .ok (.aload_n 0, 1) := by decide +kernel
theorem dX4_takeOpening_1 : decode cX4_takeOpening 1 = .ok (.getfield 37, 3) := by decide +kernel
theorem dX4_takeOpening_4 : decode cX4_takeOpening 4 = .ok (.bipush 8, 2) := by decide +kernel
theorem dX4_takeOpening_6 : decode cX4_takeOpening 6 = .ok (.if_icmp .lt 5, 3) := by decide +kernel
theorem dX4_takeOpening_9 : decode cX4_takeOpening 9 = .ok (.iconst 2, 1) := by decide +kernel
theorem dX4_takeOpening_10 : decode cX4_takeOpening 10 = .ok (.ireturn, 1) := by decide +kernel
theorem dX4_takeOpening_11 : decode cX4_takeOpening 11 = .ok (.aload_n 0, 1) := by decide +kernel
theorem dX4_takeOpening_12 : decode cX4_takeOpening 12 = .ok (.dup, 1) := by decide +kernel
theorem dX4_takeOpening_13 : decode cX4_takeOpening 13 = .ok (.getfield 37, 3) := by decide +kernel
theorem dX4_takeOpening_16 : decode cX4_takeOpening 16 = .ok (.iconst 1, 1) := by decide +kernel
theorem dX4_takeOpening_17 : decode cX4_takeOpening 17 = .ok (.iadd, 1) := by decide +kernel
theorem dX4_takeOpening_18 : decode cX4_takeOpening 18 = .ok (.putfield 37, 3) := by decide +kernel
theorem dX4_takeOpening_21 : decode cX4_takeOpening 21 = .ok (.aload_n 0, 1) := by decide +kernel
theorem dX4_takeOpening_22 : decode cX4_takeOpening 22 = .ok (.getfield 37, 3) := by decide +kernel
theorem dX4_takeOpening_25 : decode cX4_takeOpening 25 = .ok (.ifCond .lt 25, 3) := by decide +kernel
theorem dX4_takeOpening_28 : decode cX4_takeOpening 28 = .ok (.aload_n 0, 1) := by decide +kernel
theorem dX4_takeOpening_29 : decode cX4_takeOpening 29 = .ok (.getfield 37, 3) := by decide +kernel
theorem dX4_takeOpening_32 : decode cX4_takeOpening 32 = .ok (.aload_n 0, 1) := by decide +kernel
theorem dX4_takeOpening_33 : decode cX4_takeOpening 33 = .ok (.getfield 17, 3) := by decide +kernel
theorem dX4_takeOpening_36 : decode cX4_takeOpening 36 = .ok (.arraylength, 1) := by decide +kernel
theorem dX4_takeOpening_37 : decode cX4_takeOpening 37 = .ok (.if_icmp .ge 13, 3) := by decide +kernel
theorem dX4_takeOpening_40 : decode cX4_takeOpening 40 = .ok (.aload_n 0, 1) := by decide +kernel
theorem dX4_takeOpening_41 : decode cX4_takeOpening 41 = .ok (.getfield 17, 3) := by decide +kernel
theorem dX4_takeOpening_44 : decode cX4_takeOpening 44 = .ok (.aload_n 0, 1) := by decide +kernel
theorem dX4_takeOpening_45 : decode cX4_takeOpening 45 = .ok (.getfield 37, 3) := by decide +kernel
theorem dX4_takeOpening_48 : decode cX4_takeOpening 48 = .ok (.iconst 0, 1) := by decide +kernel
theorem dX4_takeOpening_49 : decode cX4_takeOpening 49 = .ok (.bastore, 1) := by decide +kernel
theorem dX4_takeOpening_50 : decode cX4_takeOpening 50 = .ok (.aload_n 0, 1) := by decide +kernel
theorem dX4_takeOpening_51 : decode cX4_takeOpening 51 = .ok (.bipush 15, 2) := by decide +kernel
theorem dX4_takeOpening_53 : decode cX4_takeOpening 53 = .ok (.invokevirtual 102, 3) := by decide +kernel
theorem dX4_takeOpening_56 : decode cX4_takeOpening 56 = .ok (.aload_n 0, 1) := by decide +kernel
theorem dX4_takeOpening_57 : decode cX4_takeOpening 57 = .ok (.iconst 1, 1) := by decide +kernel
theorem dX4_takeOpening_58 : decode cX4_takeOpening 58 = .ok (.invokevirtual 45, 3) := by decide +kernel
theorem dX4_takeOpening_61 : decode cX4_takeOpening 61 = .ok (.iconst 0, 1) := by decide +kernel
theorem dX4_takeOpening_62 : decode cX4_takeOpening 62 = .ok (.ireturn, 1) := by decide +kernel
theorem dX4_takeNegation_0 : decode cX4_takeNegation 0 = .ok (.aload_n 0, 1) := by decide +kernel
theorem dX4_takeNegation_1 : decode cX4_takeNegation 1 = .ok (.getfield 42, 3) := by decide +kernel
theorem dX4_takeNegation_4 : decode cX4_takeNegation 4 = .ok (.bipush 64, 2) := by decide +kernel
theorem dX4_takeNegation_6 : decode cX4_takeNegation 6 = .ok (.if_icmp .lt 5, 3) := by decide +kernel
theorem dX4_takeNegation_9 : decode cX4_takeNegation 9 = .ok (.iconst 2, 1) := by decide +kernel
theorem dX4_takeNegation_10 : decode cX4_takeNegation 10 = .ok (.ireturn, 1) := by decide +kernel
theorem dX4_takeNegation_11 : decode cX4_takeNegation 11 = .ok (.aload_n 0, 1) := by decide +kernel
theorem dX4_takeNegation_12 : decode cX4_takeNegation 12 = .ok (.dup, 1) := by decide +kernel
theorem dX4_takeNegation_13 : decode cX4_takeNegation 13 = .ok (.getfield 42, 3) := by decide +kernel
theorem dX4_takeNegation_16 : decode cX4_takeNegation 16 = .ok (.iconst 1, 1) := by decide +kernel
theorem dX4_takeNegation_17 : decode cX4_takeNegation 17 = .ok (.iadd, 1) := by decide +kernel
theorem dX4_takeNegation_18 : decode cX4_takeNegation 18 = .ok (.putfield 42, 3) := by decide +kernel
theorem dX4_takeNegation_21 : decode cX4_takeNegation 21 = .ok (.aload_n 0, 1) := by decide +kernel
theorem dX4_takeNegation_22 : decode cX4_takeNegation 22 = .ok (.iconst 4, 1) := by decide +kernel
theorem dX4_takeNegation_23 : decode cX4_takeNegation 23 = .ok (.invokevirtual 102, 3) := by decide +kernel
theorem dX4_takeNegation_26 : decode cX4_takeNegation 26 = .ok (.iconst 0, 1) := by decide +kernel
theorem dX4_takeNegation_27 : decode cX4_takeNegation 27 = .ok (.ireturn, 1) := by decide +kernel
theorem dX4_takeOperator_0 : decode cX4_takeOperator 0 = .ok (.aload_n 0, 1) := by decide +kernel
theorem dX4_takeOperator_1 : decode cX4_takeOperator 1 = .ok (.invokevirtual 105, 3) := by decide +kernel
theorem dX4_takeOperator_4 : decode cX4_takeOperator 4 = .ok (.istore_n 1, 1) := by decide +kernel
theorem dX4_takeOperator_5 : decode cX4_takeOperator 5 = .ok (.iload_n 1, 1) := by decide +kernel
theorem dX4_takeOperator_6 : decode cX4_takeOperator 6 = .ok (.iconst 5, 1) := by decide +kernel
theorem dX4_takeOperator_7 : decode cX4_takeOperator 7 = .ok (.if_icmp .lt 13, 3) := by decide +kernel
theorem dX4_takeOperator_10 : decode cX4_takeOperator 10 = .ok (.iload_n 1, 1) := by decide +kernel
theorem dX4_takeOperator_11 : decode cX4_takeOperator 11 = .ok (.bipush 10, 2) := by decide +kernel
theorem dX4_takeOperator_13 : decode cX4_takeOperator 13 = .ok (.if_icmp .gt 7, 3) := by decide +kernel
theorem dX4_takeOperator_16 : decode cX4_takeOperator 16 = .ok (.iconst 1, 1) := by decide +kernel
theorem dX4_takeOperator_17 : decode cX4_takeOperator 17 = .ok (.goto 4, 3) := by decide +kernel
theorem dX4_takeOperator_20 : decode cX4_takeOperator 20 = .ok (.iconst 0, 1) := by decide +kernel
theorem dX4_takeOperator_21 : decode cX4_takeOperator 21 = .ok (.istore_n 2, 1) := by decide +kernel
theorem dX4_takeOperator_22 : decode cX4_takeOperator 22 = .ok (.iload_n 1, 1) := by decide +kernel
theorem dX4_takeOperator_23 : decode cX4_takeOperator 23 = .ok (.iconst (-1), 1) := by decide +kernel
theorem dX4_takeOperator_24 : decode cX4_takeOperator 24 = .ok (.if_icmp .eq 38, 3) := by decide +kernel
theorem dX4_takeOperator_27 : decode cX4_takeOperator 27 = .ok (.aload_n 0, 1) := by decide +kernel
theorem dX4_takeOperator_28 : decode cX4_takeOperator 28 = .ok (.getfield 37, 3) := by decide +kernel
theorem dX4_takeOperator_31 : decode cX4_takeOperator 31 = .ok (.ifCond .lt 31, 3) := by decide +kernel
theorem dX4_takeOperator_34 : decode cX4_takeOperator 34 = .ok (.aload_n 0, 1) := by decide +kernel
theorem dX4_takeOperator_35 : decode cX4_takeOperator 35 = .ok (.getfield 37, 3) := by decide +kernel
theorem dX4_takeOperator_38 : decode cX4_takeOperator 38 = .ok (.aload_n 0, 1) := by decide +kernel
theorem dX4_takeOperator_39 : decode cX4_takeOperator 39 = .ok (.getfield 17, 3) := by decide +kernel
theorem dX4_takeOperator_42 : decode cX4_takeOperator 42 = .ok (.arraylength, 1) := by decide +kernel
theorem dX4_takeOperator_43 : decode cX4_takeOperator 43 = .ok (.if_icmp .ge 19, 3) := by decide +kernel
theorem dX4_takeOperator_46 : decode cX4_takeOperator 46 = .ok (.iload_n 2, 1) := by decide +kernel
theorem dX4_takeOperator_47 : decode cX4_takeOperator 47 = .ok (.ifCond .eq 17, 3) := by decide +kernel
theorem dX4_takeOperator_50 : decode cX4_takeOperator 50 = .ok (.aload_n 0, 1) := by decide +kernel
theorem dX4_takeOperator_51 : decode cX4_takeOperator 51 = .ok (.getfield 17, 3) := by decide +kernel
theorem dX4_takeOperator_54 : decode cX4_takeOperator 54 = .ok (.aload_n 0, 1) := by decide +kernel
theorem dX4_takeOperator_55 : decode cX4_takeOperator 55 = .ok (.getfield 37, 3) := by decide +kernel
theorem dX4_takeOperator_58 : decode cX4_takeOperator 58 = .ok (.baload, 1) := by decide +kernel
theorem dX4_takeOperator_59 : decode cX4_takeOperator 59 = .ok (.ifCond .eq 5, 3) := by decide +kernel
theorem dX4_takeOperator_62 : decode cX4_takeOperator 62 = .ok (.iconst 1, 1) := by decide +kernel
theorem dX4_takeOperator_63 : decode cX4_takeOperator 63 = .ok (.ireturn, 1) := by decide +kernel
theorem dX4_takeOperator_64 : decode cX4_takeOperator 64 = .ok (.aload_n 0, 1) := by decide +kernel
theorem dX4_takeOperator_65 : decode cX4_takeOperator 65 = .ok (.getfield 42, 3) := by decide +kernel
theorem dX4_takeOperator_68 : decode cX4_takeOperator 68 = .ok (.bipush 64, 2) := by decide +kernel
theorem dX4_takeOperator_70 : decode cX4_takeOperator 70 = .ok (.if_icmp .lt 5, 3) := by decide +kernel
theorem dX4_takeOperator_73 : decode cX4_takeOperator 73 = .ok (.iconst 2, 1) := by decide +kernel
theorem dX4_takeOperator_74 : decode cX4_takeOperator 74 = .ok (.ireturn, 1) := by decide +kernel
theorem dX4_takeOperator_75 : decode cX4_takeOperator 75 = .ok (.aload_n 0, 1) := by decide +kernel
theorem dX4_takeOperator_76 : decode cX4_takeOperator 76 = .ok (.dup, 1) := by decide +kernel
theorem dX4_takeOperator_77 : decode cX4_takeOperator 77 = .ok (.getfield 42, 3) := by decide +kernel
theorem dX4_takeOperator_80 : decode cX4_takeOperator 80 = .ok (.iconst 1, 1) := by decide +kernel
theorem dX4_takeOperator_81 : decode cX4_takeOperator 81 = .ok (.iadd, 1) := by decide +kernel
theorem dX4_takeOperator_82 : decode cX4_takeOperator 82 = .ok (.putfield 42, 3) := by decide +kernel
theorem dX4_takeOperator_85 : decode cX4_takeOperator 85 = .ok (.iload_n 1, 1) := by decide +kernel
theorem dX4_takeOperator_86 : decode cX4_takeOperator 86 = .ok (.iconst 3, 1) := by decide +kernel
theorem dX4_takeOperator_87 : decode cX4_takeOperator 87 = .ok (.if_icmp .eq 8, 3) := by decide +kernel
theorem dX4_takeOperator_90 : decode cX4_takeOperator 90 = .ok (.iload_n 1, 1) := by decide +kernel
theorem dX4_takeOperator_91 : decode cX4_takeOperator 91 = .ok (.iconst 2, 1) := by decide +kernel
theorem dX4_takeOperator_92 : decode cX4_takeOperator 92 = .ok (.if_icmp .ne 7, 3) := by decide +kernel
theorem dX4_takeOperator_95 : decode cX4_takeOperator 95 = .ok (.iconst 1, 1) := by decide +kernel
theorem dX4_takeOperator_96 : decode cX4_takeOperator 96 = .ok (.goto 4, 3) := by decide +kernel
theorem dX4_takeOperator_99 : decode cX4_takeOperator 99 = .ok (.iconst 0, 1) := by decide +kernel
theorem dX4_takeOperator_100 : decode cX4_takeOperator 100 = .ok (.istore_n 3, 1) := by decide +kernel
theorem dX4_takeOperator_101 : decode cX4_takeOperator 101 = .ok (.aload_n 0, 1) := by decide +kernel
theorem dX4_takeOperator_102 : decode cX4_takeOperator 102 = .ok (.getfield 17, 3) := by decide +kernel
theorem dX4_takeOperator_105 : decode cX4_takeOperator 105 = .ok (.aload_n 0, 1) := by decide +kernel
theorem dX4_takeOperator_106 : decode cX4_takeOperator 106 = .ok (.getfield 37, 3) := by decide +kernel
theorem dX4_takeOperator_109 : decode cX4_takeOperator 109 = .ok (.iload_n 3, 1) := by decide +kernel
theorem dX4_takeOperator_110 : decode cX4_takeOperator 110 = .ok (.ifCond .ne 23, 3) := by decide +kernel
theorem dX4_takeOperator_113 : decode cX4_takeOperator 113 = .ok (.iload_n 2, 1) := by decide +kernel
theorem dX4_takeOperator_114 : decode cX4_takeOperator 114 = .ok (.ifCond .ne 15, 3) := by decide +kernel
theorem dX4_takeOperator_117 : decode cX4_takeOperator 117 = .ok (.aload_n 0, 1) := by decide +kernel
theorem dX4_takeOperator_118 : decode cX4_takeOperator 118 = .ok (.getfield 17, 3) := by decide +kernel
theorem dX4_takeOperator_121 : decode cX4_takeOperator 121 = .ok (.aload_n 0, 1) := by decide +kernel
theorem dX4_takeOperator_122 : decode cX4_takeOperator 122 = .ok (.getfield 37, 3) := by decide +kernel
theorem dX4_takeOperator_125 : decode cX4_takeOperator 125 = .ok (.baload, 1) := by decide +kernel
theorem dX4_takeOperator_126 : decode cX4_takeOperator 126 = .ok (.ifCond .eq 7, 3) := by decide +kernel
theorem dX4_takeOperator_129 : decode cX4_takeOperator 129 = .ok (.iconst 1, 1) := by decide +kernel
theorem dX4_takeOperator_130 : decode cX4_takeOperator 130 = .ok (.goto 4, 3) := by decide +kernel
theorem dX4_takeOperator_133 : decode cX4_takeOperator 133 = .ok (.iconst 0, 1) := by decide +kernel
theorem dX4_takeOperator_134 : decode cX4_takeOperator 134 = .ok (.bastore, 1) := by decide +kernel
theorem dX4_takeOperator_135 : decode cX4_takeOperator 135 = .ok (.aload_n 0, 1) := by decide +kernel
theorem dX4_takeOperator_136 : decode cX4_takeOperator 136 = .ok (.iload_n 1, 1) := by decide +kernel
theorem dX4_takeOperator_137 : decode cX4_takeOperator 137 = .ok (.invokestatic 108, 3) := by decide +kernel
theorem dX4_takeOperator_140 : decode cX4_takeOperator 140 = .ok (.invokevirtual 61, 3) := by decide +kernel
theorem dX4_takeOperator_143 : decode cX4_takeOperator 143 = .ok (.aload_n 0, 1) := by decide +kernel
theorem dX4_takeOperator_144 : decode cX4_takeOperator 144 = .ok (.iload_n 1, 1) := by decide +kernel
theorem dX4_takeOperator_145 : decode cX4_takeOperator 145 = .ok (.invokevirtual 102, 3) := by decide +kernel
theorem dX4_takeOperator_148 : decode cX4_takeOperator 148 = .ok (.aload_n 0, 1) := by decide +kernel
theorem dX4_takeOperator_149 : decode cX4_takeOperator 149 = .ok (.iload_n 3, 1) := by decide +kernel
theorem dX4_takeOperator_150 : decode cX4_takeOperator 150 = .ok (.invokevirtual 45, 3) := by decide +kernel
theorem dX4_takeOperator_153 : decode cX4_takeOperator 153 = .ok (.iconst 0, 1) := by decide +kernel
theorem dX4_takeOperator_154 : decode cX4_takeOperator 154 = .ok (.ireturn, 1) := by decide +kernel
theorem dX4_takeClosing_0 : decode cX4_takeClosing 0 = .ok (.aload_n 0, 1) := by decide +kernel
theorem dX4_takeClosing_1 : decode cX4_takeClosing 1 = .ok (.getfield 37, 3) := by decide +kernel
theorem dX4_takeClosing_4 : decode cX4_takeClosing 4 = .ok (.ifCond .ne 5, 3) := by decide +kernel
theorem dX4_takeClosing_7 : decode cX4_takeClosing 7 = .ok (.iconst 1, 1) := by decide +kernel
theorem dX4_takeClosing_8 : decode cX4_takeClosing 8 = .ok (.ireturn, 1) := by decide +kernel
theorem dX4_takeClosing_9 : decode cX4_takeClosing 9 = .ok (.aload_n 0, 1) := by decide +kernel
theorem dX4_takeClosing_10 : decode cX4_takeClosing 10 = .ok (.iconst 1, 1) := by decide +kernel
theorem dX4_takeClosing_11 : decode cX4_takeClosing 11 = .ok (.invokevirtual 61, 3) := by decide +kernel
theorem dX4_takeClosing_14 : decode cX4_takeClosing 14 = .ok (.aload_n 0, 1) := by decide +kernel
theorem dX4_takeClosing_15 : decode cX4_takeClosing 15 = .ok (.dup, 1) := by decide +kernel
theorem dX4_takeClosing_16 : decode cX4_takeClosing 16 = .ok (.getfield 33, 3) := by decide +kernel
theorem dX4_takeClosing_19 : decode cX4_takeClosing 19 = .ok (.iconst 1, 1) := by decide +kernel
theorem dX4_takeClosing_20 : decode cX4_takeClosing 20 = .ok (.isub, 1) := by decide +kernel
theorem dX4_takeClosing_21 : decode cX4_takeClosing 21 = .ok (.putfield 33, 3) := by decide +kernel
theorem dX4_takeClosing_24 : decode cX4_takeClosing 24 = .ok (.aload_n 0, 1) := by decide +kernel
theorem dX4_takeClosing_25 : decode cX4_takeClosing 25 = .ok (.dup, 1) := by decide +kernel
theorem dX4_takeClosing_26 : decode cX4_takeClosing 26 = .ok (.getfield 37, 3) := by decide +kernel
theorem dX4_takeClosing_29 : decode cX4_takeClosing 29 = .ok (.iconst 1, 1) := by decide +kernel
theorem dX4_takeClosing_30 : decode cX4_takeClosing 30 = .ok (.isub, 1) := by decide +kernel
theorem dX4_takeClosing_31 : decode cX4_takeClosing 31 = .ok (.putfield 37, 3) := by decide +kernel
theorem dX4_takeClosing_34 : decode cX4_takeClosing 34 = .ok (.iconst 0, 1) := by decide +kernel
theorem dX4_takeClosing_35 : decode cX4_takeClosing 35 = .ok (.ireturn, 1) := by decide +kernel
theorem dX4_operator_0 : decode cX4_operator 0 = .ok (.aload_n 0, 1) := by decide +kernel
theorem dX4_operator_1 : decode cX4_operator 1 = .ok (.getfield 21, 3) := by decide +kernel
theorem dX4_operator_4 : decode cX4_operator 4 = .ok (.bipush 11, 2) := by decide +kernel
theorem dX4_operator_6 : decode cX4_operator 6 = .ok (.invokevirtual 86, 3) := by decide +kernel
theorem dX4_operator_9 : decode cX4_operator 9 = .ok (.ifCond .eq 5, 3) := by decide +kernel
theorem dX4_operator_12 : decode cX4_operator 12 = .ok (.iconst 3, 1) := by decide +kernel
theorem dX4_operator_13 : decode cX4_operator 13 = .ok (.ireturn, 1) := by decide +kernel
theorem dX4_operator_14 : decode cX4_operator 14 = .ok (.aload_n 0, 1) := by decide +kernel
theorem dX4_operator_15 : decode cX4_operator 15 = .ok (.getfield 21, 3) := by decide +kernel
theorem dX4_operator_18 : decode cX4_operator 18 = .ok (.bipush 10, 2) := by decide +kernel
theorem dX4_operator_20 : decode cX4_operator 20 = .ok (.invokevirtual 86, 3) := by decide +kernel
theorem dX4_operator_23 : decode cX4_operator 23 = .ok (.ifCond .eq 5, 3) := by decide +kernel
theorem dX4_operator_26 : decode cX4_operator 26 = .ok (.iconst 2, 1) := by decide +kernel
theorem dX4_operator_27 : decode cX4_operator 27 = .ok (.ireturn, 1) := by decide +kernel
theorem dX4_operator_28 : decode cX4_operator 28 = .ok (.aload_n 0, 1) := by decide +kernel
theorem dX4_operator_29 : decode cX4_operator 29 = .ok (.getfield 21, 3) := by decide +kernel
theorem dX4_operator_32 : decode cX4_operator 32 = .ok (.getfield 92, 3) := by decide +kernel
theorem dX4_operator_35 : decode cX4_operator 35 = .ok (.iconst 5, 1) := by decide +kernel
theorem dX4_operator_36 : decode cX4_operator 36 = .ok (.if_icmp .ne 25, 3) := by decide +kernel
theorem dX4_operator_39 : decode cX4_operator 39 = .ok (.aload_n 0, 1) := by decide +kernel
theorem dX4_operator_40 : decode cX4_operator 40 = .ok (.getfield 21, 3) := by decide +kernel
theorem dX4_operator_43 : decode cX4_operator 43 = .ok (.getfield 95, 3) := by decide +kernel
theorem dX4_operator_46 : decode cX4_operator 46 = .ok (.bipush 14, 2) := by decide +kernel
theorem dX4_operator_48 : decode cX4_operator 48 = .ok (.if_icmp .gt 13, 3) := by decide +kernel
theorem dX4_operator_51 : decode cX4_operator 51 = .ok (.aload_n 0, 1) := by decide +kernel
theorem dX4_operator_52 : decode cX4_operator 52 = .ok (.getfield 21, 3) := by decide +kernel
