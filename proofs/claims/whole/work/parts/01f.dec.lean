theorem dX10_taxOf_16 : decode cX10_taxOf 16 = .ok (.iaload, 1) := by decide +kernel
theorem dX10_taxOf_17 : decode cX10_taxOf 17 = .ok (.aload_n 0, 1) := by decide +kernel
theorem dX10_taxOf_18 : decode cX10_taxOf 18 = .ok (.getfield 21, 3) := by decide +kernel
theorem dX10_taxOf_21 : decode cX10_taxOf 21 = .ok (.iload_n 1, 1) := by decide +kernel
theorem dX10_taxOf_22 : decode cX10_taxOf 22 = .ok (.iaload, 1) := by decide +kernel
theorem dX10_taxOf_23 : decode cX10_taxOf 23 = .ok (.iadd, 1) := by decide +kernel
theorem dX10_taxOf_24 : decode cX10_taxOf 24 = .ok (.goto 4, 3) := by decide +kernel
theorem dX10_taxOf_27 : decode cX10_taxOf 27 = .ok (.iconst 0, 1) := by decide +kernel
theorem dX10_taxOf_28 : decode cX10_taxOf 28 = .ok (.ireturn, 1) := by decide +kernel
theorem dX10_tax_0 : decode cX10_tax 0 = .ok (.aload_n 0, 1) := by decide +kernel
theorem dX10_tax_1 : decode cX10_tax 1 = .ok (.aload_n 0, 1) := by decide +kernel
theorem dX10_tax_2 : decode cX10_tax 2 = .ok (.getfield 18, 3) := by decide +kernel
theorem dX10_tax_5 : decode cX10_tax 5 = .ok (.invokevirtual 216, 3) := by decide +kernel
theorem dX10_tax_8 : decode cX10_tax 8 = .ok (.aload_n 0, 1) := by decide +kernel
theorem dX10_tax_9 : decode cX10_tax 9 = .ok (.aload_n 0, 1) := by decide +kernel
theorem dX10_tax_10 : decode cX10_tax 10 = .ok (.getfield 21, 3) := by decide +kernel
theorem dX10_tax_13 : decode cX10_tax 13 = .ok (.invokevirtual 216, 3) := by decide +kernel
theorem dX10_tax_16 : decode cX10_tax 16 = .ok (.iadd, 1) := by decide +kernel
theorem dX10_tax_17 : decode cX10_tax 17 = .ok (.ireturn, 1) := by decide +kernel
theorem dX11_init_0 : decode cX11_init 0 = .ok (.aload_n 0, 1) := by decide +kernel
theorem dX11_init_1 : decode cX11_init 1 = .ok (.invokespecial 3, 3) := by decide +kernel
theorem dX11_init_4 : decode cX11_init 4 = .ok (.aload_n 0, 1) := by decide +kernel
theorem dX11_init_5 : decode cX11_init 5 = .ok (.new 9, 3) := by decide +kernel
theorem dX11_init_8 : decode cX11_init 8 = .ok (.dup, 1) := by decide +kernel
theorem dX11_init_9 : decode cX11_init 9 = .ok (.invokespecial 11, 3) := by decide +kernel
theorem dX11_init_12 : decode cX11_init 12 = .ok (.putfield 12, 3) := by decide +kernel
theorem dX11_init_15 : decode cX11_init 15 = .ok (.aload_n 0, 1) := by decide +kernel
theorem dX11_init_16 : decode cX11_init 16 = .ok (.new 18, 3) := by decide +kernel
theorem dX11_init_19 : decode cX11_init 19 = .ok (.dup, 1) := by decide +kernel
theorem dX11_init_20 : decode cX11_init 20 = .ok (.invokespecial 20, 3) := by decide +kernel
theorem dX11_init_23 : decode cX11_init 23 = .ok (.putfield 21, 3) := by decide +kernel
theorem dX11_init_26 : decode cX11_init 26 = .ok (.aload_n 0, 1) := by decide +kernel
theorem dX11_init_27 : decode cX11_init 27 = .ok (.new 18, 3) := by decide +kernel
theorem dX11_init_30 : decode cX11_init 30 = .ok (.dup, 1) := by decide +kernel
theorem dX11_init_31 : decode cX11_init 31 = .ok (.invokespecial 20, 3) := by decide +kernel
theorem dX11_init_34 : decode cX11_init 34 = .ok (.putfield 25, 3) := by decide +kernel
theorem dX11_init_37 : decode cX11_init 37 = .ok (.aload_n 0, 1) := by decide +kernel
theorem dX11_init_38 : decode cX11_init 38 = .ok (.new 28, 3) := by decide +kernel
theorem dX11_init_41 : decode cX11_init 41 = .ok (.dup, 1) := by decide +kernel
theorem dX11_init_42 : decode cX11_init 42 = .ok (.aload_n 0, 1) := by decide +kernel
theorem dX11_init_43 : decode cX11_init 43 = .ok (.getfield 12, 3) := by decide +kernel
theorem dX11_init_46 : decode cX11_init 46 = .ok (.aload_n 0, 1) := by decide +kernel
theorem dX11_init_47 : decode cX11_init 47 = .ok (.getfield 25, 3) := by decide +kernel
theorem dX11_init_50 : decode cX11_init 50 = .ok (.invokespecial 30, 3) := by decide +kernel
theorem dX11_init_53 : decode cX11_init 53 = .ok (.putfield 33, 3) := by decide +kernel
theorem dX11_init_56 : decode cX11_init 56 = .ok (.aload_n 0, 1) := by decide +kernel
theorem dX11_init_57 : decode cX11_init 57 = .ok (.new 37, 3) := by decide +kernel
theorem dX11_init_60 : decode cX11_init 60 = .ok (.dup, 1) := by decide +kernel
theorem dX11_init_61 : decode cX11_init 61 = .ok (.aload_n 0, 1) := by decide +kernel
theorem dX11_init_62 : decode cX11_init 62 = .ok (.getfield 21, 3) := by decide +kernel
theorem dX11_init_65 : decode cX11_init 65 = .ok (.invokespecial 39, 3) := by decide +kernel
theorem dX11_init_68 : decode cX11_init 68 = .ok (.putfield 42, 3) := by decide +kernel
theorem dX11_init_71 : decode cX11_init 71 = .ok (.aload_n 0, 1) := by decide +kernel
theorem dX11_init_72 : decode cX11_init 72 = .ok (.new 37, 3) := by decide +kernel
theorem dX11_init_75 : decode cX11_init 75 = .ok (.dup, 1) := by decide +kernel
theorem dX11_init_76 : decode cX11_init 76 = .ok (.aload_n 0, 1) := by decide +kernel
theorem dX11_init_77 : decode cX11_init 77 = .ok (.getfield 21, 3) := by decide +kernel
theorem dX11_init_80 : decode cX11_init 80 = .ok (.invokespecial 39, 3) := by decide +kernel
theorem dX11_init_83 : decode cX11_init 83 = .ok (.putfield 46, 3) := by decide +kernel
theorem dX11_init_86 : decode cX11_init 86 = .ok (.aload_n 0, 1) := by decide +kernel
theorem dX11_init_87 : decode cX11_init 87 = .ok (.new 49, 3) := by decide +kernel
theorem dX11_init_90 : decode cX11_init 90 = .ok (.dup, 1) := by decide +kernel
theorem dX11_init_91 : decode cX11_init 91 = .ok (.aload_n 0, 1) := by decide +kernel
theorem dX11_init_92 : decode cX11_init 92 = .ok (.getfield 21, 3) := by decide +kernel
theorem dX11_init_95 : decode cX11_init 95 = .ok (.invokespecial 51, 3) := by decide +kernel
theorem dX11_init_98 : decode cX11_init 98 = .ok (.putfield 52, 3) := by decide +kernel
theorem dX11_init_101 : decode cX11_init 101 = .ok (.aload_n 0, 1) := by decide +kernel
theorem dX11_init_102 : decode cX11_init 102 = .ok (.new 56, 3) := by decide +kernel
theorem dX11_init_105 : decode cX11_init 105 = .ok (.dup, 1) := by decide +kernel
theorem dX11_init_106 : decode cX11_init 106 = .ok (.invokespecial 58, 3) := by decide +kernel
theorem dX11_init_109 : decode cX11_init 109 = .ok (.putfield 59, 3) := by decide +kernel
theorem dX11_init_112 : decode cX11_init 112 = .ok (.aload_n 0, 1) := by decide +kernel
theorem dX11_init_113 : decode cX11_init 113 = .ok (.new 63, 3) := by decide +kernel
theorem dX11_init_116 : decode cX11_init 116 = .ok (.dup, 1) := by decide +kernel
theorem dX11_init_117 : decode cX11_init 117 = .ok (.invokespecial 65, 3) := by decide +kernel
theorem dX11_init_120 : decode cX11_init 120 = .ok (.putfield 66, 3) := by decide +kernel
theorem dX11_init_123 : decode cX11_init 123 = .ok (.aload_n 0, 1) := by decide +kernel
theorem dX11_init_124 : decode cX11_init 124 = .ok (.new 70, 3) := by decide +kernel
theorem dX11_init_127 : decode cX11_init 127 = .ok (.dup, 1) := by decide +kernel
theorem dX11_init_128 : decode cX11_init 128 = .ok (.invokespecial 72, 3) := by decide +kernel
theorem dX11_init_131 : decode cX11_init 131 = .ok (.putfield 73, 3) := by decide +kernel
theorem dX11_init_134 : decode cX11_init 134 = .ok (.aload_n 0, 1) := by decide +kernel
theorem dX11_init_135 : decode cX11_init 135 = .ok (.getfield 42, 3) := by decide +kernel
theorem dX11_init_138 : decode cX11_init 138 = .ok (.aload_n 0, 1) := by decide +kernel
theorem dX11_init_139 : decode cX11_init 139 = .ok (.getfield 21, 3) := by decide +kernel
theorem dX11_init_142 : decode cX11_init 142 = .ok (.invokevirtual 77, 3) := by decide +kernel
theorem dX11_init_145 : decode cX11_init 145 = .ok (.return_, 1) := by decide +kernel
theorem dX11_feed_0 : decode cX11_feed 0 = .ok (.aload_n 0, 1) := by decide +kernel
theorem dX11_feed_1 : decode cX11_feed 1 = .ok (.getfield 12, 3) := by decide +kernel
theorem dX11_feed_4 : decode cX11_feed 4 = .ok (.bipush 20, 2) := by decide +kernel
theorem dX11_feed_6 : decode cX11_feed 6 = .ok (.invokevirtual 80, 3) := by decide +kernel
theorem dX11_feed_9 : decode cX11_feed 9 = .ok (.ifCond .ne 5, 3) := by decide +kernel
theorem dX11_feed_12 : decode cX11_feed 12 = .ok (.iconst (-1), 1) := by decide +kernel
theorem dX11_feed_13 : decode cX11_feed 13 = .ok (.ireturn, 1) := by decide +kernel
theorem dX11_feed_14 : decode cX11_feed 14 = .ok (.aload_n 0, 1) := by decide +kernel
theorem dX11_feed_15 : decode cX11_feed 15 = .ok (.getfield 12, 3) := by decide +kernel
theorem dX11_feed_18 : decode cX11_feed 18 = .ok (.iload_n 1, 1) := by decide +kernel
theorem dX11_feed_19 : decode cX11_feed 19 = .ok (.invokevirtual 84, 3) := by decide +kernel
theorem dX11_feed_22 : decode cX11_feed 22 = .ok (.aload_n 0, 1) := by decide +kernel
theorem dX11_feed_23 : decode cX11_feed 23 = .ok (.getfield 12, 3) := by decide +kernel
theorem dX11_feed_26 : decode cX11_feed 26 = .ok (.iload_n 2, 1) := by decide +kernel
theorem dX11_feed_27 : decode cX11_feed 27 = .ok (.invokevirtual 84, 3) := by decide +kernel
theorem dX11_feed_30 : decode cX11_feed 30 = .ok (.aload_n 0, 1) := by decide +kernel
theorem dX11_feed_31 : decode cX11_feed 31 = .ok (.getfield 12, 3) := by decide +kernel
theorem dX11_feed_34 : decode cX11_feed 34 = .ok (.iload_n 3, 1) := by decide +kernel
theorem dX11_feed_35 : decode cX11_feed 35 = .ok (.invokevirtual 84, 3) := by decide +kernel
theorem dX11_feed_38 : decode cX11_feed 38 = .ok (.aload_n 0, 1) := by decide +kernel
theorem dX11_feed_39 : decode cX11_feed 39 = .ok (.getfield 12, 3) := by decide +kernel
theorem dX11_feed_42 : decode cX11_feed 42 = .ok (.iload 4, 2) := by decide +kernel
theorem dX11_feed_44 : decode cX11_feed 44 = .ok (.invokevirtual 84, 3) := by decide +kernel
theorem dX11_feed_47 : decode cX11_feed 47 = .ok (.aload_n 0, 1) := by decide +kernel
theorem dX11_feed_48 : decode cX11_feed 48 = .ok (.getfield 12, 3) := by decide +kernel
theorem dX11_feed_51 : decode cX11_feed 51 = .ok (.iload 5, 2) := by decide +kernel
theorem dX11_feed_53 : decode cX11_feed 53 = .ok (.invokevirtual 84, 3) := by decide +kernel
theorem dX11_feed_56 : decode cX11_feed 56 = .ok (.aload_n 0, 1) := by decide +kernel
theorem dX11_feed_57 : decode cX11_feed 57 = .ok (.getfield 12, 3) := by decide +kernel
theorem dX11_feed_60 : decode cX11_feed 60 = .ok (.getfield 88, 3) := by decide +kernel
theorem dX11_feed_63 : decode cX11_feed 63 = .ok (.ireturn, 1) := by decide +kernel
theorem dX11_text_0 : decode cX11_text 0 = .ok (.iload_n 1, 1) := by decide +kernel
theorem dX11_text_1 : decode cX11_text 1 = .ok (.ifCond .lt 14, 3) := by decide +kernel
theorem dX11_text_4 : decode cX11_text 4 = .ok (.iload_n 1, 1) := by decide +kernel
theorem dX11_text_5 : decode cX11_text 5 = .ok (.aload_n 0, 1) := by decide +kernel
theorem dX11_text_6 : decode cX11_text 6 = .ok (.getfield 12, 3) := by decide +kernel
theorem dX11_text_9 : decode cX11_text 9 = .ok (.getfield 88, 3) := by decide +kernel
theorem dX11_text_12 : decode cX11_text 12 = .ok (.if_icmp .le 6, 3) := by decide +kernel
theorem dX11_text_15 : decode cX11_text 15 = .ok (.bipush (-2), 2) := by decide +kernel
theorem dX11_text_17 : decode cX11_text 17 = .ok (.ireturn, 1) := by decide +kernel
theorem dX11_text_18 : decode cX11_text 18 = .ok (.aload_n 0, 1) := by decide +kernel
theorem dX11_text_19 : decode cX11_text 19 = .ok (.getfield 33, 3) := by decide +kernel
theorem dX11_text_22 : decode cX11_text 22 = .ok (.iload_n 1, 1) := by decide +kernel
theorem dX11_text_23 : decode cX11_text 23 = .ok (.aload_n 0, 1) := by decide +kernel
theorem dX11_text_24 : decode cX11_text 24 = .ok (.getfield 25, 3) := by decide +kernel
theorem dX11_text_27 : decode cX11_text 27 = .ok (.invokevirtual 92, 3) := by decide +kernel
theorem dX11_text_30 : decode cX11_text 30 = .ok (.istore_n 2, 1) := by decide +kernel
theorem dX11_text_31 : decode cX11_text 31 = .ok (.aload_n 0, 1) := by decide +kernel
theorem dX11_text_32 : decode cX11_text 32 = .ok (.getfield 12, 3) := by decide +kernel
theorem dX11_text_35 : decode cX11_text 35 = .ok (.iconst 0, 1) := by decide +kernel
theorem dX11_text_36 : decode cX11_text 36 = .ok (.putfield 88, 3) := by decide +kernel
theorem dX11_text_39 : decode cX11_text 39 = .ok (.iload_n 2, 1) := by decide +kernel
theorem dX11_text_40 : decode cX11_text 40 = .ok (.ifCond .ne 5, 3) := by decide +kernel
theorem dX11_text_43 : decode cX11_text 43 = .ok (.iconst (-1), 1) := by decide +kernel
theorem dX11_text_44 : decode cX11_text 44 = .ok (.ireturn, 1) := by decide +kernel
theorem dX11_text_45 : decode cX11_text 45 = .ok (.aload_n 0, 1) := by decide +kernel
theorem dX11_text_46 : decode cX11_text 46 = .ok (.getfield 21, 3) := by decide +kernel
theorem dX11_text_49 : decode cX11_text 49 = .ok (.astore_n 3, 1) := by decide +kernel
theorem dX11_text_50 : decode cX11_text 50 = .ok (.aload_n 0, 1) := by decide +kernel
theorem dX11_text_51 : decode cX11_text 51 = .ok (.aload_n 0, 1) := by decide +kernel
theorem dX11_text_52 : decode cX11_text 52 = .ok (.getfield 25, 3) := by decide +kernel
theorem dX11_text_55 : decode cX11_text 55 = .ok (.putfield 21, 3) := by decide +kernel
theorem dX11_text_58 : decode cX11_text 58 = .ok (.aload_n 0, 1) := by decide +kernel
theorem dX11_text_59 : decode cX11_text 59 = .ok (.aload_n 3, 1) := by decide +kernel
theorem dX11_text_60 : decode cX11_text 60 = .ok (.putfield 25, 3) := by decide +kernel
theorem dX11_text_63 : decode cX11_text 63 = .ok (.aload_n 0, 1) := by decide +kernel
theorem dX11_text_64 : decode cX11_text 64 = .ok (.getfield 42, 3) := by decide +kernel
theorem dX11_text_67 : decode cX11_text 67 = .ok (.aload_n 0, 1) := by decide +kernel
theorem dX11_text_68 : decode cX11_text 68 = .ok (.getfield 21, 3) := by decide +kernel
theorem dX11_text_71 : decode cX11_text 71 = .ok (.invokevirtual 77, 3) := by decide +kernel
theorem dX11_text_74 : decode cX11_text 74 = .ok (.aload_n 0, 1) := by decide +kernel
theorem dX11_text_75 : decode cX11_text 75 = .ok (.getfield 66, 3) := by decide +kernel
theorem dX11_text_78 : decode cX11_text 78 = .ok (.invokevirtual 96, 3) := by decide +kernel
theorem dX11_text_81 : decode cX11_text 81 = .ok (.aload_n 0, 1) := by decide +kernel
theorem dX11_text_82 : decode cX11_text 82 = .ok (.getfield 59, 3) := by decide +kernel
theorem dX11_text_85 : decode cX11_text 85 = .ok (.invokevirtual 99, 3) := by decide +kernel
theorem dX11_text_88 : decode cX11_text 88 = .ok (.aload_n 0, 1) := by decide +kernel
theorem dX11_text_89 : decode cX11_text 89 = .ok (.iconst 0, 1) := by decide +kernel
theorem dX11_text_90 : decode cX11_text 90 = .ok (.putfield 100, 3) := by decide +kernel
theorem dX11_text_93 : decode cX11_text 93 = .ok (.aload_n 0, 1) := by decide +kernel
theorem dX11_text_94 : decode cX11_text 94 = .ok (.getfield 21, 3) := by decide +kernel
theorem dX11_text_97 : decode cX11_text 97 = .ok (.getfield 104, 3) := by decide +kernel
theorem dX11_text_100 : decode cX11_text 100 = .ok (.ireturn, 1) := by decide +kernel
theorem dX11_fault_0 : decode cX11_fault 0 = .ok (.iload_n 1, 1) := by decide +kernel
theorem dX11_fault_1 : decode cX11_fault 1 = .ok (.lookupswitch 43 #[(0, 27), (1, 35)], 27) := by decide +kernel
theorem dX11_fault_28 : decode cX11_fault 28 = .ok (.aload_n 0, 1) := by decide +kernel
theorem dX11_fault_29 : decode cX11_fault 29 = .ok (.getfield 33, 3) := by decide +kernel
theorem dX11_fault_32 : decode cX11_fault 32 = .ok (.getfield 107, 3) := by decide +kernel
theorem dX11_fault_35 : decode cX11_fault 35 = .ok (.ireturn, 1) := by decide +kernel
theorem dX11_fault_36 : decode cX11_fault 36 = .ok (.aload_n 0, 1) := by decide +kernel
theorem dX11_fault_37 : decode cX11_fault 37 = .ok (.getfield 33, 3) := by decide +kernel
theorem dX11_fault_40 : decode cX11_fault 40 = .ok (.getfield 110, 3) := by decide +kernel
theorem dX11_fault_43 : decode cX11_fault 43 = .ok (.ireturn, 1) := by decide +kernel
theorem dX11_fault_44 : decode cX11_fault 44 = .ok (.iconst (-1), 1) := by decide +kernel
theorem dX11_fault_45 : decode cX11_fault 45 = .ok (.ireturn, 1) := by decide +kernel
theorem dX11_named_0 : decode cX11_named 0 = .ok (.iload_n 1, 1) := by decide +kernel
theorem dX11_named_1 : decode cX11_named 1 = .ok (.lookupswitch 45 #[(0, 27), (1, 36)], 27) := by decide +kernel
theorem dX11_named_28 : decode cX11_named 28 = .ok (.aload_n 0, 1) := by decide +kernel
theorem dX11_named_29 : decode cX11_named 29 = .ok (.getfield 21, 3) := by decide +kernel
theorem dX11_named_32 : decode cX11_named 32 = .ok (.iload_n 2, 1) := by decide +kernel
theorem dX11_named_33 : decode cX11_named 33 = .ok (.invokevirtual 113, 3) := by decide +kernel
theorem dX11_named_36 : decode cX11_named 36 = .ok (.ireturn, 1) := by decide +kernel
theorem dX11_named_37 : decode cX11_named 37 = .ok (.aload_n 0, 1) := by decide +kernel
theorem dX11_named_38 : decode cX11_named 38 = .ok (.getfield 21, 3) := by decide +kernel
theorem dX11_named_41 : decode cX11_named 41 = .ok (.iload_n 2, 1) := by decide +kernel
theorem dX11_named_42 : decode cX11_named 42 = .ok (.invokevirtual 117, 3) := by decide +kernel
theorem dX11_named_45 : decode cX11_named 45 = .ok (.ireturn, 1) := by decide +kernel
theorem dX11_named_46 : decode cX11_named 46 = .ok (.iconst (-1), 1) := by decide +kernel
theorem dX11_named_47 : decode cX11_named 47 = .ok (.ireturn, 1) := by decide +kernel
theorem dX11_thought_0 : decode cX11_thought 0 = .ok (.aload_n 0, 1) := by decide +kernel
theorem dX11_thought_1 : decode cX11_thought 1 = .ok (.getfield 21, 3) := by decide +kernel
theorem dX11_thought_4 : decode cX11_thought 4 = .ok (.iload_n 1, 1) := by decide +kernel
theorem dX11_thought_5 : decode cX11_thought 5 = .ok (.invokevirtual 120, 3) := by decide +kernel
theorem dX11_thought_8 : decode cX11_thought 8 = .ok (.ifCond .ne 13, 3) := by decide +kernel
theorem dX11_thought_11 : decode cX11_thought 11 = .ok (.new 123, 3) := by decide +kernel
theorem dX11_thought_14 : decode cX11_thought 14 = .ok (.dup, 1) := by decide +kernel
theorem dX11_thought_15 : decode cX11_thought 15 = .ok (.ldc 125, 2) := by decide +kernel
theorem dX11_thought_17 : decode cX11_thought 17 = .ok (.invokespecial 127, 3) := by decide +kernel
theorem dX11_thought_20 : decode cX11_thought 20 = .ok (.athrow, 1) := by decide +kernel
theorem dX11_thought_21 : decode cX11_thought 21 = .ok (.iload_n 2, 1) := by decide +kernel
theorem dX11_thought_22 : decode cX11_thought 22 = .ok (.tableswitch 112 0 6 #[42, 52, 62, 72, 82, 92, 102], 42) := by decide +kernel
theorem dX11_thought_64 : decode cX11_thought 64 = .ok (.aload_n 0, 1) := by decide +kernel
theorem dX11_thought_65 : decode cX11_thought 65 = .ok (.getfield 21, 3) := by decide +kernel
theorem dX11_thought_68 : decode cX11_thought 68 = .ok (.getfield 130, 3) := by decide +kernel
theorem dX11_thought_71 : decode cX11_thought 71 = .ok (.iload_n 1, 1) := by decide +kernel
theorem dX11_thought_72 : decode cX11_thought 72 = .ok (.iaload, 1) := by decide +kernel
theorem dX11_thought_73 : decode cX11_thought 73 = .ok (.ireturn, 1) := by decide +kernel
theorem dX11_thought_74 : decode cX11_thought 74 = .ok (.aload_n 0, 1) := by decide +kernel
theorem dX11_thought_75 : decode cX11_thought 75 = .ok (.getfield 21, 3) := by decide +kernel
theorem dX11_thought_78 : decode cX11_thought 78 = .ok (.getfield 134, 3) := by decide +kernel
theorem dX11_thought_81 : decode cX11_thought 81 = .ok (.iload_n 1, 1) := by decide +kernel
theorem dX11_thought_82 : decode cX11_thought 82 = .ok (.iaload, 1) := by decide +kernel
theorem dX11_thought_83 : decode cX11_thought 83 = .ok (.ireturn, 1) := by decide +kernel
theorem dX11_thought_84 : decode cX11_thought 84 = .ok (.aload_n 0, 1) := by decide +kernel
theorem dX11_thought_85 : decode cX11_thought 85 = .ok (.getfield 21, 3) := by decide +kernel
theorem dX11_thought_88 : decode cX11_thought 88 = .ok (.getfield 137, 3) := by decide +kernel
theorem dX11_thought_91 : decode cX11_thought 91 = .ok (.iload_n 1, 1) := by decide +kernel
theorem dX11_thought_92 : decode cX11_thought 92 = .ok (.iaload, 1) := by decide +kernel
theorem dX11_thought_93 : decode cX11_thought 93 = .ok (.ireturn, 1) := by decide +kernel
theorem dX11_thought_94 : decode cX11_thought 94 = .ok (.aload_n 0, 1) := by decide +kernel
theorem dX11_thought_95 : decode cX11_thought 95 = .ok (.getfield 21, 3) := by decide +kernel
theorem dX11_thought_98 : decode cX11_thought 98 = .ok (.getfield 140, 3) := by decide +kernel
theorem dX11_thought_101 : decode cX11_thought 101 = .ok (.iload_n 1, 1) := by decide +kernel
theorem dX11_thought_102 : decode cX11_thought 102 = .ok (.iaload, 1) := by decide +kernel
theorem dX11_thought_103 : decode cX11_thought 103 = .ok (.ireturn, 1) := by decide +kernel
theorem dX11_thought_104 : decode cX11_thought 104 = .ok (.aload_n 0, 1) := by decide +kernel
theorem dX11_thought_105 : decode cX11_thought 105 = .ok (.getfield 42, 3) := by decide +kernel
theorem dX11_thought_108 : decode cX11_thought 108 = .ok (.getfield 143, 3) := by decide +kernel
theorem dX11_thought_111 : decode cX11_thought 111 = .ok (.iload_n 1, 1) := by decide +kernel
theorem dX11_thought_112 : decode cX11_thought 112 = .ok (.iaload, 1) := by decide +kernel
theorem dX11_thought_113 : decode cX11_thought 113 = .ok (.ireturn, 1) := by decide +kernel
theorem dX11_thought_114 : decode cX11_thought 114 = .ok (.aload_n 0, 1) := by decide +kernel
theorem dX11_thought_115 : decode cX11_thought 115 = .ok (.getfield 42, 3) := by decide +kernel
theorem dX11_thought_118 : decode cX11_thought 118 = .ok (.getfield 146, 3) := by decide +kernel
theorem dX11_thought_121 : decode cX11_thought 121 = .ok (.iload_n 1, 1) := by decide +kernel
theorem dX11_thought_122 : decode cX11_thought 122 = .ok (.iaload, 1) := by decide +kernel
theorem dX11_thought_123 : decode cX11_thought 123 = .ok (.ireturn, 1) := by decide +kernel
theorem dX11_thought_124 : decode cX11_thought 124 = .ok (.aload_n 0, 1) := by decide +kernel
theorem dX11_thought_125 : decode cX11_thought 125 = .ok (.getfield 42, 3) := by decide +kernel
theorem dX11_thought_128 : decode cX11_thought 128 = .ok (.getfield 149, 3) := by decide +kernel
theorem dX11_thought_131 : decode cX11_thought 131 = .ok (.iload_n 1, 1) := by decide +kernel
theorem dX11_thought_132 : decode cX11_thought 132 = .ok (.iaload, 1) := by decide +kernel
theorem dX11_thought_133 : decode cX11_thought 133 = .ok (.ireturn, 1) := by decide +kernel
theorem dX11_thought_134 : decode cX11_thought 134 = .ok (.new 152, 3) := by decide +kernel
theorem dX11_thought_137 : decode cX11_thought 137 = .ok (.dup, 1) := by decide +kernel
theorem dX11_thought_138 : decode cX11_thought 138 = .ok (.ldc 154, 2) := by decide +kernel
theorem dX11_thought_140 : decode cX11_thought 140 = .ok (.invokespecial 156, 3) := by decide +kernel
theorem dX11_thought_143 : decode cX11_thought 143 = .ok (.athrow, 1) := by decide +kernel
theorem dX11_man_0 : decode cX11_man 0 = .ok (.aload_n 0, 1) := by decide +kernel
theorem dX11_man_1 : decode cX11_man 1 = .ok (.getfield 21, 3) := by decide +kernel
theorem dX11_man_4 : decode cX11_man 4 = .ok (.iload_n 1, 1) := by decide +kernel
theorem dX11_man_5 : decode cX11_man 5 = .ok (.invokevirtual 157, 3) := by decide +kernel
theorem dX11_man_8 : decode cX11_man 8 = .ok (.ifCond .ne 5, 3) := by decide +kernel
theorem dX11_man_11 : decode cX11_man 11 = .ok (.iconst (-1), 1) := by decide +kernel
theorem dX11_man_12 : decode cX11_man 12 = .ok (.ireturn, 1) := by decide +kernel
theorem dX11_man_13 : decode cX11_man 13 = .ok (.iload_n 2, 1) := by decide +kernel
theorem dX11_man_14 : decode cX11_man 14 = .ok (.tableswitch 98 0 5 #[38, 48, 58, 68, 78, 88], 38) := by decide +kernel
theorem dX11_man_52 : decode cX11_man 52 = .ok (.aload_n 0, 1) := by decide +kernel
theorem dX11_man_53 : decode cX11_man 53 = .ok (.getfield 42, 3) := by decide +kernel
theorem dX11_man_56 : decode cX11_man 56 = .ok (.getfield 160, 3) := by decide +kernel
theorem dX11_man_59 : decode cX11_man 59 = .ok (.iload_n 1, 1) := by decide +kernel
theorem dX11_man_60 : decode cX11_man 60 = .ok (.iaload, 1) := by decide +kernel
theorem dX11_man_61 : decode cX11_man 61 = .ok (.ireturn, 1) := by decide +kernel
theorem dX11_man_62 : decode cX11_man 62 = .ok (.aload_n 0, 1) := by decide +kernel
theorem dX11_man_63 : decode cX11_man 63 = .ok (.getfield 42, 3) := by decide +kernel
theorem dX11_man_66 : decode cX11_man 66 = .ok (.getfield 163, 3) := by decide +kernel
theorem dX11_man_69 : decode cX11_man 69 = .ok (.iload_n 1, 1) := by decide +kernel
theorem dX11_man_70 : decode cX11_man 70 = .ok (.iaload, 1) := by decide +kernel
theorem dX11_man_71 : decode cX11_man 71 = .ok (.ireturn, 1) := by decide +kernel
theorem dX11_man_72 : decode cX11_man 72 = .ok (.aload_n 0, 1) := by decide +kernel
theorem dX11_man_73 : decode cX11_man 73 = .ok (.getfield 42, 3) := by decide +kernel
theorem dX11_man_76 : decode cX11_man 76 = .ok (.getfield 166, 3) := by decide +kernel
theorem dX11_man_79 : decode cX11_man 79 = .ok (.iload_n 1, 1) := by decide +kernel
theorem dX11_man_80 : decode cX11_man 80 = .ok (.iaload, 1) := by decide +kernel
theorem dX11_man_81 : decode cX11_man 81 = .ok (.ireturn, 1) := by decide +kernel
theorem dX11_man_82 : decode cX11_man 82 = .ok (.aload_n 0, 1) := by decide +kernel
theorem dX11_man_83 : decode cX11_man 83 = .ok (.getfield 42, 3) := by decide +kernel
theorem dX11_man_86 : decode cX11_man 86 = .ok (.getfield 169, 3) := by decide +kernel
theorem dX11_man_89 : decode cX11_man 89 = .ok (.iload_n 1, 1) := by decide +kernel
theorem dX11_man_90 : decode cX11_man 90 = .ok (.iaload, 1) := by decide +kernel
theorem dX11_man_91 : decode cX11_man 91 = .ok (.ireturn, 1) := by decide +kernel
theorem dX11_man_92 : decode cX11_man 92 = .ok (.aload_n 0, 1) := by decide +kernel
theorem dX11_man_93 : decode cX11_man 93 = .ok (.getfield 42, 3) := by decide +kernel
theorem dX11_man_96 : decode cX11_man 96 = .ok (.getfield 172, 3) := by decide +kernel
theorem dX11_man_99 : decode cX11_man 99 = .ok (.iload_n 1, 1) := by decide +kernel
theorem dX11_man_100 : decode cX11_man 100 = .ok (.iaload, 1) := by decide +kernel
theorem dX11_man_101 : decode cX11_man 101 = .ok (.ireturn, 1) := by decide +kernel
theorem dX11_man_102 : decode cX11_man 102 = .ok (.aload_n 0, 1) := by decide +kernel
theorem dX11_man_103 : decode cX11_man 103 = .ok (.getfield 42, 3) := by decide +kernel
theorem dX11_man_106 : decode cX11_man 106 = .ok (.getfield 175, 3) := by decide +kernel
theorem dX11_man_109 : decode cX11_man 109 = .ok (.iload_n 1, 1) := by decide +kernel
theorem dX11_man_110 : decode cX11_man 110 = .ok (.iaload, 1) := by decide +kernel
theorem dX11_man_111 : decode cX11_man 111 = .ok (.ireturn, 1) := by decide +kernel
theorem dX11_man_112 : decode cX11_man 112 = .ok (.iconst (-1), 1) := by decide +kernel
theorem dX11_man_113 : decode cX11_man 113 = .ok (.ireturn, 1) := by decide +kernel
theorem dX11_reader_0 : decode cX11_reader 0 = .ok (.aload_n 0, 1) := by decide +kernel
theorem dX11_reader_1 : decode cX11_reader 1 = .ok (.getfield 21, 3) := by decide +kernel
theorem dX11_reader_4 : decode cX11_reader 4 = .ok (.iload_n 1, 1) := by decide +kernel
theorem dX11_reader_5 : decode cX11_reader 5 = .ok (.invokevirtual 178, 3) := by decide +kernel
theorem dX11_reader_8 : decode cX11_reader 8 = .ok (.ifCond .ne 5, 3) := by decide +kernel
theorem dX11_reader_11 : decode cX11_reader 11 = .ok (.iconst (-1), 1) := by decide +kernel
theorem dX11_reader_12 : decode cX11_reader 12 = .ok (.ireturn, 1) := by decide +kernel
theorem dX11_reader_13 : decode cX11_reader 13 = .ok (.iload_n 2, 1) := by decide +kernel
theorem dX11_reader_14 : decode cX11_reader 14 = .ok (.lookupswitch 46 #[(0, 26), (1, 36)], 26) := by decide +kernel
theorem dX11_reader_40 : decode cX11_reader 40 = .ok (.aload_n 0, 1) := by decide +kernel
theorem dX11_reader_41 : decode cX11_reader 41 = .ok (.getfield 42, 3) := by decide +kernel
theorem dX11_reader_44 : decode cX11_reader 44 = .ok (.getfield 181, 3) := by decide +kernel
theorem dX11_reader_47 : decode cX11_reader 47 = .ok (.iload_n 1, 1) := by decide +kernel
theorem dX11_reader_48 : decode cX11_reader 48 = .ok (.iaload, 1) := by decide +kernel
theorem dX11_reader_49 : decode cX11_reader 49 = .ok (.ireturn, 1) := by decide +kernel
theorem dX11_reader_50 : decode cX11_reader 50 = .ok (.aload_n 0, 1) := by decide +kernel
theorem dX11_reader_51 : decode cX11_reader 51 = .ok (.getfield 42, 3) := by decide +kernel
theorem dX11_reader_54 : decode cX11_reader 54 = .ok (.getfield 184, 3) := by decide +kernel
theorem dX11_reader_57 : decode cX11_reader 57 = .ok (.iload_n 1, 1) := by decide +kernel
theorem dX11_reader_58 : decode cX11_reader 58 = .ok (.iaload, 1) := by decide +kernel
theorem dX11_reader_59 : decode cX11_reader 59 = .ok (.ireturn, 1) := by decide +kernel
theorem dX11_reader_60 : decode cX11_reader 60 = .ok (.iconst (-1), 1) := by decide +kernel
theorem dX11_reader_61 : decode cX11_reader 61 = .ok (.ireturn, 1) := by decide +kernel
theorem dX11_law_0 : decode cX11_law 0 = .ok (.iload_n 1, 1) := by decide +kernel
theorem dX11_law_1 : decode cX11_law 1 = .ok (.tableswitch 54 0 2 #[27, 36, 45], 27) := by decide +kernel
theorem dX11_law_28 : decode cX11_law 28 = .ok (.aload_n 0, 1) := by decide +kernel
theorem dX11_law_29 : decode cX11_law 29 = .ok (.getfield 42, 3) := by decide +kernel
theorem dX11_law_32 : decode cX11_law 32 = .ok (.iload_n 2, 1) := by decide +kernel
theorem dX11_law_33 : decode cX11_law 33 = .ok (.invokevirtual 185, 3) := by decide +kernel
theorem dX11_law_36 : decode cX11_law 36 = .ok (.lreturn, 1) := by decide +kernel
theorem dX11_law_37 : decode cX11_law 37 = .ok (.aload_n 0, 1) := by decide +kernel
theorem dX11_law_38 : decode cX11_law 38 = .ok (.getfield 42, 3) := by decide +kernel
theorem dX11_law_41 : decode cX11_law 41 = .ok (.iload_n 2, 1) := by decide +kernel
theorem dX11_law_42 : decode cX11_law 42 = .ok (.invokevirtual 189, 3) := by decide +kernel
theorem dX11_law_45 : decode cX11_law 45 = .ok (.lreturn, 1) := by decide +kernel
theorem dX11_law_46 : decode cX11_law 46 = .ok (.aload_n 0, 1) := by decide +kernel
theorem dX11_law_47 : decode cX11_law 47 = .ok (.getfield 42, 3) := by decide +kernel
theorem dX11_law_50 : decode cX11_law 50 = .ok (.iload_n 2, 1) := by decide +kernel
theorem dX11_law_51 : decode cX11_law 51 = .ok (.invokevirtual 192, 3) := by decide +kernel
theorem dX11_law_54 : decode cX11_law 54 = .ok (.lreturn, 1) := by decide +kernel
theorem dX11_law_55 : decode cX11_law 55 = .ok (.ldc2_w 195, 3) := by decide +kernel
theorem dX11_law_58 : decode cX11_law 58 = .ok (.lreturn, 1) := by decide +kernel
theorem dX11_hide_0 : decode cX11_hide 0 = .ok (.aload_n 0, 1) := by decide +kernel
theorem dX11_hide_1 : decode cX11_hide 1 = .ok (.getfield 42, 3) := by decide +kernel
theorem dX11_hide_4 : decode cX11_hide 4 = .ok (.iload_n 1, 1) := by decide +kernel
theorem dX11_hide_5 : decode cX11_hide 5 = .ok (.invokevirtual 197, 3) := by decide +kernel
theorem dX11_hide_8 : decode cX11_hide 8 = .ok (.ifCond .eq 27, 3) := by decide +kernel
theorem dX11_hide_11 : decode cX11_hide 11 = .ok (.aload_n 0, 1) := by decide +kernel
theorem dX11_hide_12 : decode cX11_hide 12 = .ok (.getfield 21, 3) := by decide +kernel
theorem dX11_hide_15 : decode cX11_hide 15 = .ok (.iload_n 2, 1) := by decide +kernel
theorem dX11_hide_16 : decode cX11_hide 16 = .ok (.invokevirtual 157, 3) := by decide +kernel
theorem dX11_hide_19 : decode cX11_hide 19 = .ok (.ifCond .eq 16, 3) := by decide +kernel
theorem dX11_hide_22 : decode cX11_hide 22 = .ok (.aload_n 0, 1) := by decide +kernel
theorem dX11_hide_23 : decode cX11_hide 23 = .ok (.getfield 42, 3) := by decide +kernel
theorem dX11_hide_26 : decode cX11_hide 26 = .ok (.getfield 146, 3) := by decide +kernel
theorem dX11_hide_29 : decode cX11_hide 29 = .ok (.iload_n 1, 1) := by decide +kernel
theorem dX11_hide_30 : decode cX11_hide 30 = .ok (.iaload, 1) := by decide +kernel
theorem dX11_hide_31 : decode cX11_hide 31 = .ok (.iload_n 2, 1) := by decide +kernel
theorem dX11_hide_32 : decode cX11_hide 32 = .ok (.if_icmp .ne 5, 3) := by decide +kernel
theorem dX11_hide_35 : decode cX11_hide 35 = .ok (.iconst 0, 1) := by decide +kernel
theorem dX11_hide_36 : decode cX11_hide 36 = .ok (.ireturn, 1) := by decide +kernel
theorem dX11_hide_37 : decode cX11_hide 37 = .ok (.aload_n 0, 1) := by decide +kernel
theorem dX11_hide_38 : decode cX11_hide 38 = .ok (.getfield 59, 3) := by decide +kernel
theorem dX11_hide_41 : decode cX11_hide 41 = .ok (.iconst 0, 1) := by decide +kernel
theorem dX11_hide_42 : decode cX11_hide 42 = .ok (.iload_n 1, 1) := by decide +kernel
theorem dX11_hide_43 : decode cX11_hide 43 = .ok (.aload_n 0, 1) := by decide +kernel
theorem dX11_hide_44 : decode cX11_hide 44 = .ok (.getfield 42, 3) := by decide +kernel
theorem dX11_hide_47 : decode cX11_hide 47 = .ok (.getfield 146, 3) := by decide +kernel
theorem dX11_hide_50 : decode cX11_hide 50 = .ok (.iload_n 1, 1) := by decide +kernel
theorem dX11_hide_51 : decode cX11_hide 51 = .ok (.iaload, 1) := by decide +kernel
theorem dX11_hide_52 : decode cX11_hide 52 = .ok (.invokevirtual 200, 3) := by decide +kernel
theorem dX11_hide_55 : decode cX11_hide 55 = .ok (.aload_n 0, 1) := by decide +kernel
theorem dX11_hide_56 : decode cX11_hide 56 = .ok (.getfield 42, 3) := by decide +kernel
theorem dX11_hide_59 : decode cX11_hide 59 = .ok (.getfield 146, 3) := by decide +kernel
theorem dX11_hide_62 : decode cX11_hide 62 = .ok (.iload_n 1, 1) := by decide +kernel
theorem dX11_hide_63 : decode cX11_hide 63 = .ok (.iload_n 2, 1) := by decide +kernel
theorem dX11_hide_64 : decode cX11_hide 64 = .ok (.iastore, 1) := by decide +kernel
theorem dX11_hide_65 : decode cX11_hide 65 = .ok (.iconst 1, 1) := by decide +kernel
theorem dX11_hide_66 : decode cX11_hide 66 = .ok (.ireturn, 1) := by decide +kernel
theorem dX11_buy_0 : decode cX11_buy 0 = .ok (.aload_n 0, 1) := by decide +kernel
theorem dX11_buy_1 : decode cX11_buy 1 = .ok (.getfield 21, 3) := by decide +kernel
theorem dX11_buy_4 : decode cX11_buy 4 = .ok (.iload_n 1, 1) := by decide +kernel
theorem dX11_buy_5 : decode cX11_buy 5 = .ok (.invokevirtual 157, 3) := by decide +kernel
theorem dX11_buy_8 : decode cX11_buy 8 = .ok (.ifCond .eq 30, 3) := by decide +kernel
theorem dX11_buy_11 : decode cX11_buy 11 = .ok (.iload_n 2, 1) := by decide +kernel
theorem dX11_buy_12 : decode cX11_buy 12 = .ok (.iconst 1, 1) := by decide +kernel
theorem dX11_buy_13 : decode cX11_buy 13 = .ok (.if_icmp .lt 25, 3) := by decide +kernel
theorem dX11_buy_16 : decode cX11_buy 16 = .ok (.iload_n 2, 1) := by decide +kernel
theorem dX11_buy_17 : decode cX11_buy 17 = .ok (.bipush 9, 2) := by decide +kernel
theorem dX11_buy_19 : decode cX11_buy 19 = .ok (.if_icmp .gt 19, 3) := by decide +kernel
theorem dX11_buy_22 : decode cX11_buy 22 = .ok (.aload_n 0, 1) := by decide +kernel
theorem dX11_buy_23 : decode cX11_buy 23 = .ok (.getfield 42, 3) := by decide +kernel
theorem dX11_buy_26 : decode cX11_buy 26 = .ok (.getfield 172, 3) := by decide +kernel
theorem dX11_buy_29 : decode cX11_buy 29 = .ok (.iload_n 1, 1) := by decide +kernel
theorem dX11_buy_30 : decode cX11_buy 30 = .ok (.iaload, 1) := by decide +kernel
theorem dX11_buy_31 : decode cX11_buy 31 = .ok (.iload_n 2, 1) := by decide +kernel
theorem dX11_buy_32 : decode cX11_buy 32 = .ok (.iadd, 1) := by decide +kernel
theorem dX11_buy_33 : decode cX11_buy 33 = .ok (.bipush 9, 2) := by decide +kernel
theorem dX11_buy_35 : decode cX11_buy 35 = .ok (.if_icmp .le 5, 3) := by decide +kernel
theorem dX11_buy_38 : decode cX11_buy 38 = .ok (.iconst (-1), 1) := by decide +kernel
theorem dX11_buy_39 : decode cX11_buy 39 = .ok (.ireturn, 1) := by decide +kernel
theorem dX11_buy_40 : decode cX11_buy 40 = .ok (.iload_n 2, 1) := by decide +kernel
theorem dX11_buy_41 : decode cX11_buy 41 = .ok (.aload_n 0, 1) := by decide +kernel
theorem dX11_buy_42 : decode cX11_buy 42 = .ok (.getfield 21, 3) := by decide +kernel
theorem dX11_buy_45 : decode cX11_buy 45 = .ok (.getfield 204, 3) := by decide +kernel
theorem dX11_buy_48 : decode cX11_buy 48 = .ok (.imul, 1) := by decide +kernel
theorem dX11_buy_49 : decode cX11_buy 49 = .ok (.istore_n 3, 1) := by decide +kernel
theorem dX11_buy_50 : decode cX11_buy 50 = .ok (.aload_n 0, 1) := by decide +kernel
theorem dX11_buy_51 : decode cX11_buy 51 = .ok (.getfield 42, 3) := by decide +kernel
theorem dX11_buy_54 : decode cX11_buy 54 = .ok (.getfield 160, 3) := by decide +kernel
theorem dX11_buy_57 : decode cX11_buy 57 = .ok (.iload_n 1, 1) := by decide +kernel
theorem dX11_buy_58 : decode cX11_buy 58 = .ok (.iaload, 1) := by decide +kernel
theorem dX11_buy_59 : decode cX11_buy 59 = .ok (.iload_n 3, 1) := by decide +kernel
theorem dX11_buy_60 : decode cX11_buy 60 = .ok (.if_icmp .ge 6, 3) := by decide +kernel
theorem dX11_buy_63 : decode cX11_buy 63 = .ok (.bipush (-2), 2) := by decide +kernel
theorem dX11_buy_65 : decode cX11_buy 65 = .ok (.ireturn, 1) := by decide +kernel
theorem dX11_buy_66 : decode cX11_buy 66 = .ok (.aload_n 0, 1) := by decide +kernel
theorem dX11_buy_67 : decode cX11_buy 67 = .ok (.getfield 59, 3) := by decide +kernel
theorem dX11_buy_70 : decode cX11_buy 70 = .ok (.iconst 1, 1) := by decide +kernel
theorem dX11_buy_71 : decode cX11_buy 71 = .ok (.iload_n 1, 1) := by decide +kernel
theorem dX11_buy_72 : decode cX11_buy 72 = .ok (.iload_n 2, 1) := by decide +kernel
theorem dX11_buy_73 : decode cX11_buy 73 = .ok (.invokevirtual 200, 3) := by decide +kernel
theorem dX11_buy_76 : decode cX11_buy 76 = .ok (.aload_n 0, 1) := by decide +kernel
theorem dX11_buy_77 : decode cX11_buy 77 = .ok (.getfield 42, 3) := by decide +kernel
theorem dX11_buy_80 : decode cX11_buy 80 = .ok (.getfield 160, 3) := by decide +kernel
theorem dX11_buy_83 : decode cX11_buy 83 = .ok (.iload_n 1, 1) := by decide +kernel
theorem dX11_buy_84 : decode cX11_buy 84 = .ok (.dup2, 1) := by decide +kernel
theorem dX11_buy_85 : decode cX11_buy 85 = .ok (.iaload, 1) := by decide +kernel
theorem dX11_buy_86 : decode cX11_buy 86 = .ok (.iload_n 3, 1) := by decide +kernel
theorem dX11_buy_87 : decode cX11_buy 87 = .ok (.isub, 1) := by decide +kernel
theorem dX11_buy_88 : decode cX11_buy 88 = .ok (.iastore, 1) := by decide +kernel
theorem dX11_buy_89 : decode cX11_buy 89 = .ok (.aload_n 0, 1) := by decide +kernel
theorem dX11_buy_90 : decode cX11_buy 90 = .ok (.getfield 42, 3) := by decide +kernel
theorem dX11_buy_93 : decode cX11_buy 93 = .ok (.getfield 172, 3) := by decide +kernel
theorem dX11_buy_96 : decode cX11_buy 96 = .ok (.iload_n 1, 1) := by decide +kernel
theorem dX11_buy_97 : decode cX11_buy 97 = .ok (.dup2, 1) := by decide +kernel
theorem dX11_buy_98 : decode cX11_buy 98 = .ok (.iaload, 1) := by decide +kernel
theorem dX11_buy_99 : decode cX11_buy 99 = .ok (.iload_n 2, 1) := by decide +kernel
theorem dX11_buy_100 : decode cX11_buy 100 = .ok (.iadd, 1) := by decide +kernel
theorem dX11_buy_101 : decode cX11_buy 101 = .ok (.iastore, 1) := by decide +kernel
theorem dX11_buy_102 : decode cX11_buy 102 = .ok (.aload_n 0, 1) := by decide +kernel
theorem dX11_buy_103 : decode cX11_buy 103 = .ok (.getfield 42, 3) := by decide +kernel
theorem dX11_buy_106 : decode cX11_buy 106 = .ok (.getfield 172, 3) := by decide +kernel
theorem dX11_buy_109 : decode cX11_buy 109 = .ok (.iload_n 1, 1) := by decide +kernel
theorem dX11_buy_110 : decode cX11_buy 110 = .ok (.iaload, 1) := by decide +kernel
theorem dX11_buy_111 : decode cX11_buy 111 = .ok (.ireturn, 1) := by decide +kernel
theorem dX11_round_0 : decode cX11_round 0 = .ok (.aload_n 0, 1) := by decide +kernel
theorem dX11_round_1 : decode cX11_round 1 = .ok (.getfield 21, 3) := by decide +kernel
theorem dX11_round_4 : decode cX11_round 4 = .ok (.iload_n 1, 1) := by decide +kernel
theorem dX11_round_5 : decode cX11_round 5 = .ok (.invokevirtual 157, 3) := by decide +kernel
theorem dX11_round_8 : decode cX11_round 8 = .ok (.ifCond .eq 27, 3) := by decide +kernel
theorem dX11_round_11 : decode cX11_round 11 = .ok (.aload_n 0, 1) := by decide +kernel
theorem dX11_round_12 : decode cX11_round 12 = .ok (.getfield 21, 3) := by decide +kernel
theorem dX11_round_15 : decode cX11_round 15 = .ok (.iload_n 2, 1) := by decide +kernel
theorem dX11_round_16 : decode cX11_round 16 = .ok (.invokevirtual 178, 3) := by decide +kernel
theorem dX11_round_19 : decode cX11_round 19 = .ok (.ifCond .eq 16, 3) := by decide +kernel
theorem dX11_round_22 : decode cX11_round 22 = .ok (.aload_n 0, 1) := by decide +kernel
theorem dX11_round_23 : decode cX11_round 23 = .ok (.getfield 42, 3) := by decide +kernel
theorem dX11_round_26 : decode cX11_round 26 = .ok (.getfield 175, 3) := by decide +kernel
theorem dX11_round_29 : decode cX11_round 29 = .ok (.iload_n 1, 1) := by decide +kernel
theorem dX11_round_30 : decode cX11_round 30 = .ok (.iaload, 1) := by decide +kernel
theorem dX11_round_31 : decode cX11_round 31 = .ok (.iload_n 2, 1) := by decide +kernel
theorem dX11_round_32 : decode cX11_round 32 = .ok (.if_icmp .ne 5, 3) := by decide +kernel
theorem dX11_round_35 : decode cX11_round 35 = .ok (.iconst 0, 1) := by decide +kernel
theorem dX11_round_36 : decode cX11_round 36 = .ok (.ireturn, 1) := by decide +kernel
theorem dX11_round_37 : decode cX11_round 37 = .ok (.aload_n 0, 1) := by decide +kernel
theorem dX11_round_38 : decode cX11_round 38 = .ok (.getfield 59, 3) := by decide +kernel
theorem dX11_round_41 : decode cX11_round 41 = .ok (.iconst 2, 1) := by decide +kernel
theorem dX11_round_42 : decode cX11_round 42 = .ok (.iload_n 1, 1) := by decide +kernel
theorem dX11_round_43 : decode cX11_round 43 = .ok (.aload_n 0, 1) := by decide +kernel
theorem dX11_round_44 : decode cX11_round 44 = .ok (.getfield 42, 3) := by decide +kernel
theorem dX11_round_47 : decode cX11_round 47 = .ok (.getfield 175, 3) := by decide +kernel
theorem dX11_round_50 : decode cX11_round 50 = .ok (.iload_n 1, 1) := by decide +kernel
theorem dX11_round_51 : decode cX11_round 51 = .ok (.iaload, 1) := by decide +kernel
theorem dX11_round_52 : decode cX11_round 52 = .ok (.invokevirtual 200, 3) := by decide +kernel
theorem dX11_round_55 : decode cX11_round 55 = .ok (.aload_n 0, 1) := by decide +kernel
theorem dX11_round_56 : decode cX11_round 56 = .ok (.getfield 42, 3) := by decide +kernel
theorem dX11_round_59 : decode cX11_round 59 = .ok (.getfield 175, 3) := by decide +kernel
theorem dX11_round_62 : decode cX11_round 62 = .ok (.iload_n 1, 1) := by decide +kernel
theorem dX11_round_63 : decode cX11_round 63 = .ok (.iload_n 2, 1) := by decide +kernel
theorem dX11_round_64 : decode cX11_round 64 = .ok (.iastore, 1) := by decide +kernel
theorem dX11_round_65 : decode cX11_round 65 = .ok (.iconst 1, 1) := by decide +kernel
theorem dX11_round_66 : decode cX11_round 66 = .ok (.ireturn, 1) := by decide +kernel
theorem dX11_rate_0 : decode cX11_rate 0 = .ok (.iload_n 1, 1) := by decide +kernel
theorem dX11_rate_1 : decode cX11_rate 1 = .ok (.ifCond .lt 20, 3) := by decide +kernel
theorem dX11_rate_4 : decode cX11_rate 4 = .ok (.iload_n 1, 1) := by decide +kernel
theorem dX11_rate_5 : decode cX11_rate 5 = .ok (.bipush 100, 2) := by decide +kernel
theorem dX11_rate_7 : decode cX11_rate 7 = .ok (.if_icmp .gt 14, 3) := by decide +kernel
theorem dX11_rate_10 : decode cX11_rate 10 = .ok (.aload_n 0, 1) := by decide +kernel
theorem dX11_rate_11 : decode cX11_rate 11 = .ok (.getfield 42, 3) := by decide +kernel
theorem dX11_rate_14 : decode cX11_rate 14 = .ok (.getfield 207, 3) := by decide +kernel
theorem dX11_rate_17 : decode cX11_rate 17 = .ok (.iload_n 1, 1) := by decide +kernel
theorem dX11_rate_18 : decode cX11_rate 18 = .ok (.if_icmp .ne 5, 3) := by decide +kernel
theorem dX11_rate_21 : decode cX11_rate 21 = .ok (.iconst 0, 1) := by decide +kernel
theorem dX11_rate_22 : decode cX11_rate 22 = .ok (.ireturn, 1) := by decide +kernel
theorem dX11_rate_23 : decode cX11_rate 23 = .ok (.aload_n 0, 1) := by decide +kernel
theorem dX11_rate_24 : decode cX11_rate 24 = .ok (.getfield 59, 3) := by decide +kernel
theorem dX11_rate_27 : decode cX11_rate 27 = .ok (.iconst 3, 1) := by decide +kernel
theorem dX11_rate_28 : decode cX11_rate 28 = .ok (.iconst 0, 1) := by decide +kernel
theorem dX11_rate_29 : decode cX11_rate 29 = .ok (.aload_n 0, 1) := by decide +kernel
theorem dX11_rate_30 : decode cX11_rate 30 = .ok (.getfield 42, 3) := by decide +kernel
theorem dX11_rate_33 : decode cX11_rate 33 = .ok (.getfield 207, 3) := by decide +kernel
theorem dX11_rate_36 : decode cX11_rate 36 = .ok (.invokevirtual 200, 3) := by decide +kernel
theorem dX11_rate_39 : decode cX11_rate 39 = .ok (.aload_n 0, 1) := by decide +kernel
theorem dX11_rate_40 : decode cX11_rate 40 = .ok (.getfield 42, 3) := by decide +kernel
theorem dX11_rate_43 : decode cX11_rate 43 = .ok (.iload_n 1, 1) := by decide +kernel
theorem dX11_rate_44 : decode cX11_rate 44 = .ok (.putfield 207, 3) := by decide +kernel
theorem dX11_rate_47 : decode cX11_rate 47 = .ok (.iconst 1, 1) := by decide +kernel
theorem dX11_rate_48 : decode cX11_rate 48 = .ok (.ireturn, 1) := by decide +kernel
theorem dX11_weeks_0 : decode cX11_weeks 0 = .ok (.iload_n 1, 1) := by decide +kernel
theorem dX11_weeks_1 : decode cX11_weeks 1 = .ok (.ifCond .lt 24, 3) := by decide +kernel
theorem dX11_weeks_4 : decode cX11_weeks 4 = .ok (.iload_n 1, 1) := by decide +kernel
theorem dX11_weeks_5 : decode cX11_weeks 5 = .ok (.bipush 99, 2) := by decide +kernel
theorem dX11_weeks_7 : decode cX11_weeks 7 = .ok (.if_icmp .gt 18, 3) := by decide +kernel
theorem dX11_weeks_10 : decode cX11_weeks 10 = .ok (.aload_n 0, 1) := by decide +kernel
theorem dX11_weeks_11 : decode cX11_weeks 11 = .ok (.getfield 42, 3) := by decide +kernel
theorem dX11_weeks_14 : decode cX11_weeks 14 = .ok (.getfield 210, 3) := by decide +kernel
theorem dX11_weeks_17 : decode cX11_weeks 17 = .ok (.iload_n 1, 1) := by decide +kernel
theorem dX11_weeks_18 : decode cX11_weeks 18 = .ok (.iadd, 1) := by decide +kernel
theorem dX11_weeks_19 : decode cX11_weeks 19 = .ok (.sipush 9900, 3) := by decide +kernel
theorem dX11_weeks_22 : decode cX11_weeks 22 = .ok (.if_icmp .le 5, 3) := by decide +kernel
theorem dX11_weeks_25 : decode cX11_weeks 25 = .ok (.iconst (-1), 1) := by decide +kernel
theorem dX11_weeks_26 : decode cX11_weeks 26 = .ok (.ireturn, 1) := by decide +kernel
theorem dX11_weeks_27 : decode cX11_weeks 27 = .ok (.aload_n 0, 1) := by decide +kernel
theorem dX11_weeks_28 : decode cX11_weeks 28 = .ok (.getfield 42, 3) := by decide +kernel
theorem dX11_weeks_31 : decode cX11_weeks 31 = .ok (.iload_n 1, 1) := by decide +kernel
theorem dX11_weeks_32 : decode cX11_weeks 32 = .ok (.iconst 1, 1) := by decide +kernel
theorem dX11_weeks_33 : decode cX11_weeks 33 = .ok (.invokevirtual 213, 3) := by decide +kernel
theorem dX11_weeks_36 : decode cX11_weeks 36 = .ok (.iload_n 1, 1) := by decide +kernel
theorem dX11_weeks_37 : decode cX11_weeks 37 = .ok (.ifCond .le 10, 3) := by decide +kernel
theorem dX11_weeks_40 : decode cX11_weeks 40 = .ok (.aload_n 0, 1) := by decide +kernel
theorem dX11_weeks_41 : decode cX11_weeks 41 = .ok (.getfield 59, 3) := by decide +kernel
theorem dX11_weeks_44 : decode cX11_weeks 44 = .ok (.invokevirtual 99, 3) := by decide +kernel
theorem dX11_weeks_47 : decode cX11_weeks 47 = .ok (.aload_n 0, 1) := by decide +kernel
theorem dX11_weeks_48 : decode cX11_weeks 48 = .ok (.getfield 42, 3) := by decide +kernel
theorem dX11_weeks_51 : decode cX11_weeks 51 = .ok (.getfield 210, 3) := by decide +kernel
theorem dX11_weeks_54 : decode cX11_weeks 54 = .ok (.ireturn, 1) := by decide +kernel
theorem dX11_ahead_0 : decode cX11_ahead 0 = .ok (.iload_n 1, 1) := by decide +kernel
theorem dX11_ahead_1 : decode cX11_ahead 1 = .ok (.ifCond .lt 18, 3) := by decide +kernel
theorem dX11_ahead_4 : decode cX11_ahead 4 = .ok (.iload_n 1, 1) := by decide +kernel
theorem dX11_ahead_5 : decode cX11_ahead 5 = .ok (.bipush 99, 2) := by decide +kernel
theorem dX11_ahead_7 : decode cX11_ahead 7 = .ok (.if_icmp .gt 12, 3) := by decide +kernel
theorem dX11_ahead_10 : decode cX11_ahead 10 = .ok (.iload_n 2, 1) := by decide +kernel
theorem dX11_ahead_11 : decode cX11_ahead 11 = .ok (.ifCond .lt 8, 3) := by decide +kernel
theorem dX11_ahead_14 : decode cX11_ahead 14 = .ok (.iload_n 2, 1) := by decide +kernel
theorem dX11_ahead_15 : decode cX11_ahead 15 = .ok (.iconst 3, 1) := by decide +kernel
theorem dX11_ahead_16 : decode cX11_ahead 16 = .ok (.if_icmp .le 5, 3) := by decide +kernel
theorem dX11_ahead_19 : decode cX11_ahead 19 = .ok (.iconst (-1), 1) := by decide +kernel
theorem dX11_ahead_20 : decode cX11_ahead 20 = .ok (.ireturn, 1) := by decide +kernel
theorem dX11_ahead_21 : decode cX11_ahead 21 = .ok (.aload_n 0, 1) := by decide +kernel
theorem dX11_ahead_22 : decode cX11_ahead 22 = .ok (.getfield 52, 3) := by decide +kernel
theorem dX11_ahead_25 : decode cX11_ahead 25 = .ok (.aload_n 0, 1) := by decide +kernel
theorem dX11_ahead_26 : decode cX11_ahead 26 = .ok (.getfield 42, 3) := by decide +kernel
theorem dX11_ahead_29 : decode cX11_ahead 29 = .ok (.iload_n 1, 1) := by decide +kernel
theorem dX11_ahead_30 : decode cX11_ahead 30 = .ok (.iload_n 2, 1) := by decide +kernel
theorem dX11_ahead_31 : decode cX11_ahead 31 = .ok (.invokevirtual 217, 3) := by decide +kernel
theorem dX11_ahead_34 : decode cX11_ahead 34 = .ok (.ireturn, 1) := by decide +kernel
theorem dX11_likely_0 : decode cX11_likely 0 = .ok (.aload_n 0, 1) := by decide +kernel
theorem dX11_likely_1 : decode cX11_likely 1 = .ok (.getfield 21, 3) := by decide +kernel
theorem dX11_likely_4 : decode cX11_likely 4 = .ok (.iload_n 1, 1) := by decide +kernel
theorem dX11_likely_5 : decode cX11_likely 5 = .ok (.invokevirtual 120, 3) := by decide +kernel
theorem dX11_likely_8 : decode cX11_likely 8 = .ok (.ifCond .ne 5, 3) := by decide +kernel
theorem dX11_likely_11 : decode cX11_likely 11 = .ok (.iconst (-1), 1) := by decide +kernel
theorem dX11_likely_12 : decode cX11_likely 12 = .ok (.ireturn, 1) := by decide +kernel
theorem dX11_likely_13 : decode cX11_likely 13 = .ok (.aload_n 0, 1) := by decide +kernel
theorem dX11_likely_14 : decode cX11_likely 14 = .ok (.getfield 42, 3) := by decide +kernel
theorem dX11_likely_17 : decode cX11_likely 17 = .ok (.iload_n 1, 1) := by decide +kernel
theorem dX11_likely_18 : decode cX11_likely 18 = .ok (.invokevirtual 197, 3) := by decide +kernel
theorem dX11_likely_21 : decode cX11_likely 21 = .ok (.ifCond .ne 6, 3) := by decide +kernel
theorem dX11_likely_24 : decode cX11_likely 24 = .ok (.bipush (-2), 2) := by decide +kernel
theorem dX11_likely_26 : decode cX11_likely 26 = .ok (.ireturn, 1) := by decide +kernel
theorem dX11_likely_27 : decode cX11_likely 27 = .ok (.aload_n 0, 1) := by decide +kernel
theorem dX11_likely_28 : decode cX11_likely 28 = .ok (.getfield 42, 3) := by decide +kernel
theorem dX11_likely_31 : decode cX11_likely 31 = .ok (.iload_n 1, 1) := by decide +kernel
theorem dX11_likely_32 : decode cX11_likely 32 = .ok (.invokevirtual 221, 3) := by decide +kernel
theorem dX11_likely_35 : decode cX11_likely 35 = .ok (.istore_n 2, 1) := by decide +kernel
theorem dX11_likely_36 : decode cX11_likely 36 = .ok (.aload_n 0, 1) := by decide +kernel
theorem dX11_likely_37 : decode cX11_likely 37 = .ok (.getfield 42, 3) := by decide +kernel
theorem dX11_likely_40 : decode cX11_likely 40 = .ok (.iload_n 2, 1) := by decide +kernel
theorem dX11_likely_41 : decode cX11_likely 41 = .ok (.iload_n 1, 1) := by decide +kernel
theorem dX11_likely_42 : decode cX11_likely 42 = .ok (.invokevirtual 224, 3) := by decide +kernel
theorem dX11_likely_45 : decode cX11_likely 45 = .ok (.ifCond .eq 15, 3) := by decide +kernel
theorem dX11_likely_48 : decode cX11_likely 48 = .ok (.aload_n 0, 1) := by decide +kernel
theorem dX11_likely_49 : decode cX11_likely 49 = .ok (.getfield 42, 3) := by decide +kernel
theorem dX11_likely_52 : decode cX11_likely 52 = .ok (.iload_n 1, 1) := by decide +kernel
theorem dX11_likely_53 : decode cX11_likely 53 = .ok (.iload_n 2, 1) := by decide +kernel
theorem dX11_likely_54 : decode cX11_likely 54 = .ok (.invokevirtual 228, 3) := by decide +kernel
theorem dX11_likely_57 : decode cX11_likely 57 = .ok (.goto 4, 3) := by decide +kernel
theorem dX11_likely_60 : decode cX11_likely 60 = .ok (.iconst 0, 1) := by decide +kernel
theorem dX11_likely_61 : decode cX11_likely 61 = .ok (.ireturn, 1) := by decide +kernel
theorem dX11_bestRound_0 : decode cX11_bestRound 0 = .ok (.iload_n 1, 1) := by decide +kernel
theorem dX11_bestRound_1 : decode cX11_bestRound 1 = .ok (.ifCond .lt 18, 3) := by decide +kernel
theorem dX11_bestRound_4 : decode cX11_bestRound 4 = .ok (.iload_n 1, 1) := by decide +kernel
theorem dX11_bestRound_5 : decode cX11_bestRound 5 = .ok (.iconst 4, 1) := by decide +kernel
theorem dX11_bestRound_6 : decode cX11_bestRound 6 = .ok (.if_icmp .gt 13, 3) := by decide +kernel
theorem dX11_bestRound_9 : decode cX11_bestRound 9 = .ok (.aload_n 0, 1) := by decide +kernel
theorem dX11_bestRound_10 : decode cX11_bestRound 10 = .ok (.getfield 21, 3) := by decide +kernel
theorem dX11_bestRound_13 : decode cX11_bestRound 13 = .ok (.getfield 232, 3) := by decide +kernel
theorem dX11_bestRound_16 : decode cX11_bestRound 16 = .ok (.ifCond .ne 5, 3) := by decide +kernel
theorem dX11_bestRound_19 : decode cX11_bestRound 19 = .ok (.iconst (-1), 1) := by decide +kernel
theorem dX11_bestRound_20 : decode cX11_bestRound 20 = .ok (.ireturn, 1) := by decide +kernel
theorem dX11_bestRound_21 : decode cX11_bestRound 21 = .ok (.iload_n 1, 1) := by decide +kernel
theorem dX11_bestRound_22 : decode cX11_bestRound 22 = .ok (.iconst 4, 1) := by decide +kernel
theorem dX11_bestRound_23 : decode cX11_bestRound 23 = .ok (.if_icmp .ge 17, 3) := by decide +kernel
theorem dX11_bestRound_26 : decode cX11_bestRound 26 = .ok (.iload_n 1, 1) := by decide +kernel
theorem dX11_bestRound_27 : decode cX11_bestRound 27 = .ok (.aload_n 0, 1) := by decide +kernel
theorem dX11_bestRound_28 : decode cX11_bestRound 28 = .ok (.getfield 21, 3) := by decide +kernel
theorem dX11_bestRound_31 : decode cX11_bestRound 31 = .ok (.getfield 235, 3) := by decide +kernel
theorem dX11_bestRound_34 : decode cX11_bestRound 34 = .ok (.if_icmp .lt 6, 3) := by decide +kernel
theorem dX11_bestRound_37 : decode cX11_bestRound 37 = .ok (.bipush (-2), 2) := by decide +kernel
theorem dX11_bestRound_39 : decode cX11_bestRound 39 = .ok (.ireturn, 1) := by decide +kernel
theorem dX11_bestRound_40 : decode cX11_bestRound 40 = .ok (.aload_n 0, 1) := by decide +kernel
theorem dX11_bestRound_41 : decode cX11_bestRound 41 = .ok (.getfield 52, 3) := by decide +kernel
theorem dX11_bestRound_44 : decode cX11_bestRound 44 = .ok (.aload_n 0, 1) := by decide +kernel
theorem dX11_bestRound_45 : decode cX11_bestRound 45 = .ok (.getfield 42, 3) := by decide +kernel
theorem dX11_bestRound_48 : decode cX11_bestRound 48 = .ok (.iload_n 1, 1) := by decide +kernel
theorem dX11_bestRound_49 : decode cX11_bestRound 49 = .ok (.invokevirtual 238, 3) := by decide +kernel
theorem dX11_bestRound_52 : decode cX11_bestRound 52 = .ok (.ireturn, 1) := by decide +kernel
theorem dX11_hideIn_0 : decode cX11_hideIn 0 = .ok (.aload_n 0, 1) := by decide +kernel
theorem dX11_hideIn_1 : decode cX11_hideIn 1 = .ok (.getfield 21, 3) := by decide +kernel
theorem dX11_hideIn_4 : decode cX11_hideIn 4 = .ok (.iload_n 1, 1) := by decide +kernel
theorem dX11_hideIn_5 : decode cX11_hideIn 5 = .ok (.invokevirtual 120, 3) := by decide +kernel
theorem dX11_hideIn_8 : decode cX11_hideIn 8 = .ok (.ifCond .eq 12, 3) := by decide +kernel
theorem dX11_hideIn_11 : decode cX11_hideIn 11 = .ok (.iload_n 2, 1) := by decide +kernel
theorem dX11_hideIn_12 : decode cX11_hideIn 12 = .ok (.ifCond .lt 8, 3) := by decide +kernel
theorem dX11_hideIn_15 : decode cX11_hideIn 15 = .ok (.iload_n 2, 1) := by decide +kernel
theorem dX11_hideIn_16 : decode cX11_hideIn 16 = .ok (.iconst 1, 1) := by decide +kernel
theorem dX11_hideIn_17 : decode cX11_hideIn 17 = .ok (.if_icmp .le 5, 3) := by decide +kernel
theorem dX11_hideIn_20 : decode cX11_hideIn 20 = .ok (.iconst (-1), 1) := by decide +kernel
theorem dX11_hideIn_21 : decode cX11_hideIn 21 = .ok (.ireturn, 1) := by decide +kernel
theorem dX11_hideIn_22 : decode cX11_hideIn 22 = .ok (.aload_n 0, 1) := by decide +kernel
theorem dX11_hideIn_23 : decode cX11_hideIn 23 = .ok (.getfield 42, 3) := by decide +kernel
theorem dX11_hideIn_26 : decode cX11_hideIn 26 = .ok (.iload_n 1, 1) := by decide +kernel
theorem dX11_hideIn_27 : decode cX11_hideIn 27 = .ok (.invokevirtual 197, 3) := by decide +kernel
theorem dX11_hideIn_30 : decode cX11_hideIn 30 = .ok (.ifCond .ne 6, 3) := by decide +kernel
theorem dX11_hideIn_33 : decode cX11_hideIn 33 = .ok (.bipush (-2), 2) := by decide +kernel
theorem dX11_hideIn_35 : decode cX11_hideIn 35 = .ok (.ireturn, 1) := by decide +kernel
theorem dX11_hideIn_36 : decode cX11_hideIn 36 = .ok (.aload_n 0, 1) := by decide +kernel
theorem dX11_hideIn_37 : decode cX11_hideIn 37 = .ok (.getfield 52, 3) := by decide +kernel
theorem dX11_hideIn_40 : decode cX11_hideIn 40 = .ok (.aload_n 0, 1) := by decide +kernel
theorem dX11_hideIn_41 : decode cX11_hideIn 41 = .ok (.getfield 42, 3) := by decide +kernel
theorem dX11_hideIn_44 : decode cX11_hideIn 44 = .ok (.iload_n 1, 1) := by decide +kernel
theorem dX11_hideIn_45 : decode cX11_hideIn 45 = .ok (.iload_n 2, 1) := by decide +kernel
theorem dX11_hideIn_46 : decode cX11_hideIn 46 = .ok (.invokevirtual 242, 3) := by decide +kernel
theorem dX11_hideIn_49 : decode cX11_hideIn 49 = .ok (.ireturn, 1) := by decide +kernel
theorem dX11_bestRate_0 : decode cX11_bestRate 0 = .ok (.iload_n 1, 1) := by decide +kernel
theorem dX11_bestRate_1 : decode cX11_bestRate 1 = .ok (.iconst 1, 1) := by decide +kernel
theorem dX11_bestRate_2 : decode cX11_bestRate 2 = .ok (.if_icmp .lt 18, 3) := by decide +kernel
theorem dX11_bestRate_5 : decode cX11_bestRate 5 = .ok (.iload_n 1, 1) := by decide +kernel
theorem dX11_bestRate_6 : decode cX11_bestRate 6 = .ok (.bipush 40, 2) := by decide +kernel
theorem dX11_bestRate_8 : decode cX11_bestRate 8 = .ok (.if_icmp .gt 12, 3) := by decide +kernel
theorem dX11_bestRate_11 : decode cX11_bestRate 11 = .ok (.iload_n 2, 1) := by decide +kernel
theorem dX11_bestRate_12 : decode cX11_bestRate 12 = .ok (.ifCond .lt 8, 3) := by decide +kernel
theorem dX11_bestRate_15 : decode cX11_bestRate 15 = .ok (.iload_n 2, 1) := by decide +kernel
theorem dX11_bestRate_16 : decode cX11_bestRate 16 = .ok (.iconst 1, 1) := by decide +kernel
theorem dX11_bestRate_17 : decode cX11_bestRate 17 = .ok (.if_icmp .le 5, 3) := by decide +kernel
theorem dX11_bestRate_20 : decode cX11_bestRate 20 = .ok (.iconst (-1), 1) := by decide +kernel
theorem dX11_bestRate_21 : decode cX11_bestRate 21 = .ok (.ireturn, 1) := by decide +kernel
theorem dX11_bestRate_22 : decode cX11_bestRate 22 = .ok (.aload_n 0, 1) := by decide +kernel
theorem dX11_bestRate_23 : decode cX11_bestRate 23 = .ok (.getfield 52, 3) := by decide +kernel
theorem dX11_bestRate_26 : decode cX11_bestRate 26 = .ok (.aload_n 0, 1) := by decide +kernel
theorem dX11_bestRate_27 : decode cX11_bestRate 27 = .ok (.getfield 42, 3) := by decide +kernel
theorem dX11_bestRate_30 : decode cX11_bestRate 30 = .ok (.iload_n 1, 1) := by decide +kernel
theorem dX11_bestRate_31 : decode cX11_bestRate 31 = .ok (.iload_n 2, 1) := by decide +kernel
theorem dX11_bestRate_32 : decode cX11_bestRate 32 = .ok (.invokevirtual 245, 3) := by decide +kernel
theorem dX11_bestRate_35 : decode cX11_bestRate 35 = .ok (.ireturn, 1) := by decide +kernel
theorem dX11_worthless_0 : decode cX11_worthless 0 = .ok (.aload_n 0, 1) := by decide +kernel
theorem dX11_worthless_1 : decode cX11_worthless 1 = .ok (.getfield 52, 3) := by decide +kernel
theorem dX11_worthless_4 : decode cX11_worthless 4 = .ok (.aload_n 0, 1) := by decide +kernel
theorem dX11_worthless_5 : decode cX11_worthless 5 = .ok (.getfield 42, 3) := by decide +kernel
theorem dX11_worthless_8 : decode cX11_worthless 8 = .ok (.invokevirtual 248, 3) := by decide +kernel
theorem dX11_worthless_11 : decode cX11_worthless 11 = .ok (.ireturn, 1) := by decide +kernel
theorem dX11_share_0 : decode cX11_share 0 = .ok (.aload_n 0, 1) := by decide +kernel
theorem dX11_share_1 : decode cX11_share 1 = .ok (.getfield 21, 3) := by decide +kernel
theorem dX11_share_4 : decode cX11_share 4 = .ok (.iload_n 1, 1) := by decide +kernel
theorem dX11_share_5 : decode cX11_share 5 = .ok (.invokevirtual 120, 3) := by decide +kernel
theorem dX11_share_8 : decode cX11_share 8 = .ok (.ifCond .eq 23, 3) := by decide +kernel
theorem dX11_share_11 : decode cX11_share 11 = .ok (.aload_n 0, 1) := by decide +kernel
theorem dX11_share_12 : decode cX11_share 12 = .ok (.getfield 21, 3) := by decide +kernel
theorem dX11_share_15 : decode cX11_share 15 = .ok (.iload_n 2, 1) := by decide +kernel
theorem dX11_share_16 : decode cX11_share 16 = .ok (.invokevirtual 120, 3) := by decide +kernel
theorem dX11_share_19 : decode cX11_share 19 = .ok (.ifCond .eq 12, 3) := by decide +kernel
theorem dX11_share_22 : decode cX11_share 22 = .ok (.iload_n 3, 1) := by decide +kernel
theorem dX11_share_23 : decode cX11_share 23 = .ok (.ifCond .lt 8, 3) := by decide +kernel
theorem dX11_share_26 : decode cX11_share 26 = .ok (.iload_n 3, 1) := by decide +kernel
theorem dX11_share_27 : decode cX11_share 27 = .ok (.iconst 1, 1) := by decide +kernel
theorem dX11_share_28 : decode cX11_share 28 = .ok (.if_icmp .le 5, 3) := by decide +kernel
theorem dX11_share_31 : decode cX11_share 31 = .ok (.iconst (-1), 1) := by decide +kernel
theorem dX11_share_32 : decode cX11_share 32 = .ok (.ireturn, 1) := by decide +kernel
theorem dX11_share_33 : decode cX11_share 33 = .ok (.aload_n 0, 1) := by decide +kernel
theorem dX11_share_34 : decode cX11_share 34 = .ok (.getfield 21, 3) := by decide +kernel
theorem dX11_share_37 : decode cX11_share 37 = .ok (.getfield 130, 3) := by decide +kernel
theorem dX11_share_40 : decode cX11_share 40 = .ok (.iload_n 1, 1) := by decide +kernel
theorem dX11_share_41 : decode cX11_share 41 = .ok (.iaload, 1) := by decide +kernel
theorem dX11_share_42 : decode cX11_share 42 = .ok (.aload_n 0, 1) := by decide +kernel
theorem dX11_share_43 : decode cX11_share 43 = .ok (.getfield 21, 3) := by decide +kernel
theorem dX11_share_46 : decode cX11_share 46 = .ok (.getfield 130, 3) := by decide +kernel
theorem dX11_share_49 : decode cX11_share 49 = .ok (.iload_n 2, 1) := by decide +kernel
theorem dX11_share_50 : decode cX11_share 50 = .ok (.iaload, 1) := by decide +kernel
theorem dX11_share_51 : decode cX11_share 51 = .ok (.if_icmp .ne 5, 3) := by decide +kernel
theorem dX11_share_54 : decode cX11_share 54 = .ok (.iconst (-1), 1) := by decide +kernel
theorem dX11_share_55 : decode cX11_share 55 = .ok (.ireturn, 1) := by decide +kernel
theorem dX11_share_56 : decode cX11_share 56 = .ok (.aload_n 0, 1) := by decide +kernel
theorem dX11_share_57 : decode cX11_share 57 = .ok (.getfield 21, 3) := by decide +kernel
theorem dX11_share_60 : decode cX11_share 60 = .ok (.iload_n 1, 1) := by decide +kernel
theorem dX11_share_61 : decode cX11_share 61 = .ok (.iload_n 2, 1) := by decide +kernel
theorem dX11_share_62 : decode cX11_share 62 = .ok (.aload_n 0, 1) := by decide +kernel
theorem dX11_share_63 : decode cX11_share 63 = .ok (.getfield 42, 3) := by decide +kernel
theorem dX11_share_66 : decode cX11_share 66 = .ok (.getfield 207, 3) := by decide +kernel
theorem dX11_share_69 : decode cX11_share 69 = .ok (.iload_n 3, 1) := by decide +kernel
theorem dX11_share_70 : decode cX11_share 70 = .ok (.invokevirtual 252, 3) := by decide +kernel
theorem dX11_share_73 : decode cX11_share 73 = .ok (.ireturn, 1) := by decide +kernel
theorem dX11_chain_0 : decode cX11_chain 0 = .ok (.iload_n 1, 1) := by decide +kernel
theorem dX11_chain_1 : decode cX11_chain 1 = .ok (.ifCond .lt 16, 3) := by decide +kernel
theorem dX11_chain_4 : decode cX11_chain 4 = .ok (.iload_n 1, 1) := by decide +kernel
theorem dX11_chain_5 : decode cX11_chain 5 = .ok (.iconst 1, 1) := by decide +kernel
theorem dX11_chain_6 : decode cX11_chain 6 = .ok (.aload_n 0, 1) := by decide +kernel
theorem dX11_chain_7 : decode cX11_chain 7 = .ok (.getfield 21, 3) := by decide +kernel
theorem dX11_chain_10 : decode cX11_chain 10 = .ok (.getfield 232, 3) := by decide +kernel
theorem dX11_chain_13 : decode cX11_chain 13 = .ok (.ishl, 1) := by decide +kernel
theorem dX11_chain_14 : decode cX11_chain 14 = .ok (.if_icmp .lt 5, 3) := by decide +kernel
theorem dX11_chain_17 : decode cX11_chain 17 = .ok (.iconst (-1), 1) := by decide +kernel
theorem dX11_chain_18 : decode cX11_chain 18 = .ok (.ireturn, 1) := by decide +kernel
theorem dX11_chain_19 : decode cX11_chain 19 = .ok (.aload_n 0, 1) := by decide +kernel
theorem dX11_chain_20 : decode cX11_chain 20 = .ok (.getfield 42, 3) := by decide +kernel
theorem dX11_chain_23 : decode cX11_chain 23 = .ok (.iload_n 1, 1) := by decide +kernel
theorem dX11_chain_24 : decode cX11_chain 24 = .ok (.invokevirtual 256, 3) := by decide +kernel
theorem dX11_chain_27 : decode cX11_chain 27 = .ok (.ireturn, 1) := by decide +kernel
theorem dX11_rests_0 : decode cX11_rests 0 = .ok (.aload_n 0, 1) := by decide +kernel
theorem dX11_rests_1 : decode cX11_rests 1 = .ok (.getfield 73, 3) := by decide +kernel
theorem dX11_rests_4 : decode cX11_rests 4 = .ok (.aload_n 0, 1) := by decide +kernel
theorem dX11_rests_5 : decode cX11_rests 5 = .ok (.getfield 42, 3) := by decide +kernel
theorem dX11_rests_8 : decode cX11_rests 8 = .ok (.invokevirtual 259, 3) := by decide +kernel
theorem dX11_rests_11 : decode cX11_rests 11 = .ok (.aload_n 0, 1) := by decide +kernel
theorem dX11_rests_12 : decode cX11_rests 12 = .ok (.getfield 42, 3) := by decide +kernel
theorem dX11_rests_15 : decode cX11_rests 15 = .ok (.getfield 207, 3) := by decide +kernel
theorem dX11_rests_18 : decode cX11_rests 18 = .ok (.invokevirtual 263, 3) := by decide +kernel
theorem dX11_rests_21 : decode cX11_rests 21 = .ok (.aload_n 0, 1) := by decide +kernel
theorem dX11_rests_22 : decode cX11_rests 22 = .ok (.getfield 73, 3) := by decide +kernel
theorem dX11_rests_25 : decode cX11_rests 25 = .ok (.getfield 267, 3) := by decide +kernel
theorem dX11_rests_28 : decode cX11_rests 28 = .ok (.ireturn, 1) := by decide +kernel
theorem dX11_rest_0 : decode cX11_rest 0 = .ok (.iload_n 1, 1) := by decide +kernel
theorem dX11_rest_1 : decode cX11_rest 1 = .ok (.ifCond .ge 5, 3) := by decide +kernel
theorem dX11_rest_4 : decode cX11_rest 4 = .ok (.iconst (-1), 1) := by decide +kernel
theorem dX11_rest_5 : decode cX11_rest 5 = .ok (.ireturn, 1) := by decide +kernel
theorem dX11_rest_6 : decode cX11_rest 6 = .ok (.aload_n 0, 1) := by decide +kernel
theorem dX11_rest_7 : decode cX11_rest 7 = .ok (.getfield 73, 3) := by decide +kernel
theorem dX11_rest_10 : decode cX11_rest 10 = .ok (.aload_n 0, 1) := by decide +kernel
theorem dX11_rest_11 : decode cX11_rest 11 = .ok (.getfield 42, 3) := by decide +kernel
theorem dX11_rest_14 : decode cX11_rest 14 = .ok (.invokevirtual 259, 3) := by decide +kernel
theorem dX11_rest_17 : decode cX11_rest 17 = .ok (.aload_n 0, 1) := by decide +kernel
theorem dX11_rest_18 : decode cX11_rest 18 = .ok (.getfield 42, 3) := by decide +kernel
theorem dX11_rest_21 : decode cX11_rest 21 = .ok (.getfield 207, 3) := by decide +kernel
theorem dX11_rest_24 : decode cX11_rest 24 = .ok (.invokevirtual 263, 3) := by decide +kernel
theorem dX11_rest_27 : decode cX11_rest 27 = .ok (.aload_n 0, 1) := by decide +kernel
theorem dX11_rest_28 : decode cX11_rest 28 = .ok (.getfield 73, 3) := by decide +kernel
theorem dX11_rest_31 : decode cX11_rest 31 = .ok (.iload_n 1, 1) := by decide +kernel
theorem dX11_rest_32 : decode cX11_rest 32 = .ok (.invokevirtual 270, 3) := by decide +kernel
theorem dX11_rest_35 : decode cX11_rest 35 = .ok (.ireturn, 1) := by decide +kernel
theorem dX11_first_0 : decode cX11_first 0 = .ok (.aload_n 0, 1) := by decide +kernel
theorem dX11_first_1 : decode cX11_first 1 = .ok (.getfield 21, 3) := by decide +kernel
theorem dX11_first_4 : decode cX11_first 4 = .ok (.getfield 235, 3) := by decide +kernel
theorem dX11_first_7 : decode cX11_first 7 = .ok (.ifCond .ne 5, 3) := by decide +kernel
theorem dX11_first_10 : decode cX11_first 10 = .ok (.iconst (-1), 1) := by decide +kernel
theorem dX11_first_11 : decode cX11_first 11 = .ok (.ireturn, 1) := by decide +kernel
theorem dX11_first_12 : decode cX11_first 12 = .ok (.aload_n 0, 1) := by decide +kernel
theorem dX11_first_13 : decode cX11_first 13 = .ok (.getfield 42, 3) := by decide +kernel
theorem dX11_first_16 : decode cX11_first 16 = .ok (.invokevirtual 273, 3) := by decide +kernel
theorem dX11_first_19 : decode cX11_first 19 = .ok (.ireturn, 1) := by decide +kernel
theorem dX11_farthing_0 : decode cX11_farthing 0 = .ok (.iload_n 1, 1) := by decide +kernel
theorem dX11_farthing_1 : decode cX11_farthing 1 = .ok (.iconst 1, 1) := by decide +kernel
theorem dX11_farthing_2 : decode cX11_farthing 2 = .ok (.if_icmp .lt 9, 3) := by decide +kernel
theorem dX11_farthing_5 : decode cX11_farthing 5 = .ok (.iload_n 1, 1) := by decide +kernel
theorem dX11_farthing_6 : decode cX11_farthing 6 = .ok (.bipush 99, 2) := by decide +kernel
theorem dX11_farthing_8 : decode cX11_farthing 8 = .ok (.if_icmp .le 5, 3) := by decide +kernel
theorem dX11_farthing_11 : decode cX11_farthing 11 = .ok (.iconst (-1), 1) := by decide +kernel
theorem dX11_farthing_12 : decode cX11_farthing 12 = .ok (.ireturn, 1) := by decide +kernel
theorem dX11_farthing_13 : decode cX11_farthing 13 = .ok (.bipush 100, 2) := by decide +kernel
theorem dX11_farthing_15 : decode cX11_farthing 15 = .ok (.iload_n 1, 1) := by decide +kernel
theorem dX11_farthing_16 : decode cX11_farthing 16 = .ok (.iadd, 1) := by decide +kernel
theorem dX11_farthing_17 : decode cX11_farthing 17 = .ok (.iconst 1, 1) := by decide +kernel
theorem dX11_farthing_18 : decode cX11_farthing 18 = .ok (.isub, 1) := by decide +kernel
theorem dX11_farthing_19 : decode cX11_farthing 19 = .ok (.iload_n 1, 1) := by decide +kernel
theorem dX11_farthing_20 : decode cX11_farthing 20 = .ok (.idiv, 1) := by decide +kernel
theorem dX11_farthing_21 : decode cX11_farthing 21 = .ok (.ireturn, 1) := by decide +kernel
theorem dX11_enough_0 : decode cX11_enough 0 = .ok (.aload_n 0, 1) := by decide +kernel
theorem dX11_enough_1 : decode cX11_enough 1 = .ok (.getfield 21, 3) := by decide +kernel
theorem dX11_enough_4 : decode cX11_enough 4 = .ok (.iload_n 1, 1) := by decide +kernel
theorem dX11_enough_5 : decode cX11_enough 5 = .ok (.invokevirtual 157, 3) := by decide +kernel
theorem dX11_enough_8 : decode cX11_enough 8 = .ok (.ifCond .ne 5, 3) := by decide +kernel
theorem dX11_enough_11 : decode cX11_enough 11 = .ok (.iconst (-1), 1) := by decide +kernel
theorem dX11_enough_12 : decode cX11_enough 12 = .ok (.ireturn, 1) := by decide +kernel
theorem dX11_enough_13 : decode cX11_enough 13 = .ok (.aload_n 0, 1) := by decide +kernel
theorem dX11_enough_14 : decode cX11_enough 14 = .ok (.getfield 52, 3) := by decide +kernel
theorem dX11_enough_17 : decode cX11_enough 17 = .ok (.aload_n 0, 1) := by decide +kernel
theorem dX11_enough_18 : decode cX11_enough 18 = .ok (.getfield 42, 3) := by decide +kernel
theorem dX11_enough_21 : decode cX11_enough 21 = .ok (.iload_n 1, 1) := by decide +kernel
theorem dX11_enough_22 : decode cX11_enough 22 = .ok (.invokevirtual 276, 3) := by decide +kernel
theorem dX11_enough_25 : decode cX11_enough 25 = .ok (.ireturn, 1) := by decide +kernel
theorem dX11_vote_0 : decode cX11_vote 0 = .ok (.iload_n 1, 1) := by decide +kernel
theorem dX11_vote_1 : decode cX11_vote 1 = .ok (.iconst 1, 1) := by decide +kernel
theorem dX11_vote_2 : decode cX11_vote 2 = .ok (.if_icmp .lt 28, 3) := by decide +kernel
theorem dX11_vote_5 : decode cX11_vote 5 = .ok (.iload_n 1, 1) := by decide +kernel
theorem dX11_vote_6 : decode cX11_vote 6 = .ok (.bipush 40, 2) := by decide +kernel
theorem dX11_vote_8 : decode cX11_vote 8 = .ok (.if_icmp .gt 22, 3) := by decide +kernel
theorem dX11_vote_11 : decode cX11_vote 11 = .ok (.iload_n 2, 1) := by decide +kernel
theorem dX11_vote_12 : decode cX11_vote 12 = .ok (.ifCond .lt 18, 3) := by decide +kernel
theorem dX11_vote_15 : decode cX11_vote 15 = .ok (.iload_n 2, 1) := by decide +kernel
theorem dX11_vote_16 : decode cX11_vote 16 = .ok (.bipush 100, 2) := by decide +kernel
theorem dX11_vote_18 : decode cX11_vote 18 = .ok (.if_icmp .gt 12, 3) := by decide +kernel
theorem dX11_vote_21 : decode cX11_vote 21 = .ok (.iload_n 3, 1) := by decide +kernel
theorem dX11_vote_22 : decode cX11_vote 22 = .ok (.ifCond .lt 8, 3) := by decide +kernel
theorem dX11_vote_25 : decode cX11_vote 25 = .ok (.iload_n 3, 1) := by decide +kernel
theorem dX11_vote_26 : decode cX11_vote 26 = .ok (.iconst 1, 1) := by decide +kernel
theorem dX11_vote_27 : decode cX11_vote 27 = .ok (.if_icmp .le 5, 3) := by decide +kernel
theorem dX11_vote_30 : decode cX11_vote 30 = .ok (.iconst (-1), 1) := by decide +kernel
theorem dX11_vote_31 : decode cX11_vote 31 = .ok (.ireturn, 1) := by decide +kernel
theorem dX11_vote_32 : decode cX11_vote 32 = .ok (.aload_n 0, 1) := by decide +kernel
theorem dX11_vote_33 : decode cX11_vote 33 = .ok (.getfield 52, 3) := by decide +kernel
theorem dX11_vote_36 : decode cX11_vote 36 = .ok (.aload_n 0, 1) := by decide +kernel
theorem dX11_vote_37 : decode cX11_vote 37 = .ok (.getfield 42, 3) := by decide +kernel
theorem dX11_vote_40 : decode cX11_vote 40 = .ok (.iload_n 1, 1) := by decide +kernel
theorem dX11_vote_41 : decode cX11_vote 41 = .ok (.iload_n 2, 1) := by decide +kernel
theorem dX11_vote_42 : decode cX11_vote 42 = .ok (.iload_n 3, 1) := by decide +kernel
theorem dX11_vote_43 : decode cX11_vote 43 = .ok (.invokevirtual 279, 3) := by decide +kernel
theorem dX11_vote_46 : decode cX11_vote 46 = .ok (.ireturn, 1) := by decide +kernel
theorem dX11_whose_0 : decode cX11_whose 0 = .ok (.iload_n 1, 1) := by decide +kernel
theorem dX11_whose_1 : decode cX11_whose 1 = .ok (.iconst 1, 1) := by decide +kernel
theorem dX11_whose_2 : decode cX11_whose 2 = .ok (.if_icmp .lt 18, 3) := by decide +kernel
theorem dX11_whose_5 : decode cX11_whose 5 = .ok (.iload_n 1, 1) := by decide +kernel
theorem dX11_whose_6 : decode cX11_whose 6 = .ok (.bipush 99, 2) := by decide +kernel
theorem dX11_whose_8 : decode cX11_whose 8 = .ok (.if_icmp .gt 12, 3) := by decide +kernel
theorem dX11_whose_11 : decode cX11_whose 11 = .ok (.iload_n 2, 1) := by decide +kernel
theorem dX11_whose_12 : decode cX11_whose 12 = .ok (.ifCond .lt 8, 3) := by decide +kernel
theorem dX11_whose_15 : decode cX11_whose 15 = .ok (.iload_n 2, 1) := by decide +kernel
theorem dX11_whose_16 : decode cX11_whose 16 = .ok (.iconst 3, 1) := by decide +kernel
theorem dX11_whose_17 : decode cX11_whose 17 = .ok (.if_icmp .le 5, 3) := by decide +kernel
theorem dX11_whose_20 : decode cX11_whose 20 = .ok (.iconst (-1), 1) := by decide +kernel
theorem dX11_whose_21 : decode cX11_whose 21 = .ok (.ireturn, 1) := by decide +kernel
theorem dX11_whose_22 : decode cX11_whose 22 = .ok (.aload_n 0, 1) := by decide +kernel
theorem dX11_whose_23 : decode cX11_whose 23 = .ok (.getfield 42, 3) := by decide +kernel
theorem dX11_whose_26 : decode cX11_whose 26 = .ok (.iload_n 1, 1) := by decide +kernel
theorem dX11_whose_27 : decode cX11_whose 27 = .ok (.iload_n 2, 1) := by decide +kernel
theorem dX11_whose_28 : decode cX11_whose 28 = .ok (.invokevirtual 283, 3) := by decide +kernel
theorem dX11_whose_31 : decode cX11_whose 31 = .ok (.ireturn, 1) := by decide +kernel
theorem dX11_debtor_0 : decode cX11_debtor 0 = .ok (.aload_n 0, 1) := by decide +kernel
theorem dX11_debtor_1 : decode cX11_debtor 1 = .ok (.getfield 42, 3) := by decide +kernel
theorem dX11_debtor_4 : decode cX11_debtor 4 = .ok (.aload_n 0, 1) := by decide +kernel
theorem dX11_debtor_5 : decode cX11_debtor 5 = .ok (.getfield 42, 3) := by decide +kernel
theorem dX11_debtor_8 : decode cX11_debtor 8 = .ok (.getfield 169, 3) := by decide +kernel
theorem dX11_debtor_11 : decode cX11_debtor 11 = .ok (.invokevirtual 286, 3) := by decide +kernel
theorem dX11_debtor_14 : decode cX11_debtor 14 = .ok (.istore_n 1, 1) := by decide +kernel
theorem dX11_debtor_15 : decode cX11_debtor 15 = .ok (.iload_n 1, 1) := by decide +kernel
theorem dX11_debtor_16 : decode cX11_debtor 16 = .ok (.iconst (-1), 1) := by decide +kernel
theorem dX11_debtor_17 : decode cX11_debtor 17 = .ok (.if_icmp .eq 19, 3) := by decide +kernel
theorem dX11_debtor_20 : decode cX11_debtor 20 = .ok (.aload_n 0, 1) := by decide +kernel
theorem dX11_debtor_21 : decode cX11_debtor 21 = .ok (.getfield 42, 3) := by decide +kernel
theorem dX11_debtor_24 : decode cX11_debtor 24 = .ok (.getfield 169, 3) := by decide +kernel
theorem dX11_debtor_27 : decode cX11_debtor 27 = .ok (.iload_n 1, 1) := by decide +kernel
theorem dX11_debtor_28 : decode cX11_debtor 28 = .ok (.iaload, 1) := by decide +kernel
theorem dX11_debtor_29 : decode cX11_debtor 29 = .ok (.ifCond .le 7, 3) := by decide +kernel
theorem dX11_debtor_32 : decode cX11_debtor 32 = .ok (.iload_n 1, 1) := by decide +kernel
theorem dX11_debtor_33 : decode cX11_debtor 33 = .ok (.goto 5, 3) := by decide +kernel
theorem dX11_debtor_36 : decode cX11_debtor 36 = .ok (.bipush (-2), 2) := by decide +kernel
theorem dX11_debtor_38 : decode cX11_debtor 38 = .ok (.ireturn, 1) := by decide +kernel
theorem dX11_nextRead_0 : decode cX11_nextRead 0 = .ok (.aload_n 0, 1) := by decide +kernel
theorem dX11_nextRead_1 : decode cX11_nextRead 1 = .ok (.getfield 21, 3) := by decide +kernel
theorem dX11_nextRead_4 : decode cX11_nextRead 4 = .ok (.iload_n 1, 1) := by decide +kernel
theorem dX11_nextRead_5 : decode cX11_nextRead 5 = .ok (.invokevirtual 120, 3) := by decide +kernel
theorem dX11_nextRead_8 : decode cX11_nextRead 8 = .ok (.ifCond .ne 5, 3) := by decide +kernel
theorem dX11_nextRead_11 : decode cX11_nextRead 11 = .ok (.iconst (-1), 1) := by decide +kernel
theorem dX11_nextRead_12 : decode cX11_nextRead 12 = .ok (.ireturn, 1) := by decide +kernel
theorem dX11_nextRead_13 : decode cX11_nextRead 13 = .ok (.aload_n 0, 1) := by decide +kernel
theorem dX11_nextRead_14 : decode cX11_nextRead 14 = .ok (.getfield 52, 3) := by decide +kernel
theorem dX11_nextRead_17 : decode cX11_nextRead 17 = .ok (.aload_n 0, 1) := by decide +kernel
theorem dX11_nextRead_18 : decode cX11_nextRead 18 = .ok (.getfield 42, 3) := by decide +kernel
theorem dX11_nextRead_21 : decode cX11_nextRead 21 = .ok (.iload_n 1, 1) := by decide +kernel
theorem dX11_nextRead_22 : decode cX11_nextRead 22 = .ok (.invokevirtual 290, 3) := by decide +kernel
theorem dX11_nextRead_25 : decode cX11_nextRead 25 = .ok (.ireturn, 1) := by decide +kernel
theorem dX11_richest_0 : decode cX11_richest 0 = .ok (.iload_n 1, 1) := by decide +kernel
theorem dX11_richest_1 : decode cX11_richest 1 = .ok (.ifCond .lt 9, 3) := by decide +kernel
theorem dX11_richest_4 : decode cX11_richest 4 = .ok (.iload_n 1, 1) := by decide +kernel
theorem dX11_richest_5 : decode cX11_richest 5 = .ok (.bipush 99, 2) := by decide +kernel
theorem dX11_richest_7 : decode cX11_richest 7 = .ok (.if_icmp .le 5, 3) := by decide +kernel
theorem dX11_richest_10 : decode cX11_richest 10 = .ok (.iconst (-1), 1) := by decide +kernel
theorem dX11_richest_11 : decode cX11_richest 11 = .ok (.ireturn, 1) := by decide +kernel
theorem dX11_richest_12 : decode cX11_richest 12 = .ok (.aload_n 0, 1) := by decide +kernel
theorem dX11_richest_13 : decode cX11_richest 13 = .ok (.getfield 52, 3) := by decide +kernel
theorem dX11_richest_16 : decode cX11_richest 16 = .ok (.aload_n 0, 1) := by decide +kernel
theorem dX11_richest_17 : decode cX11_richest 17 = .ok (.getfield 42, 3) := by decide +kernel
theorem dX11_richest_20 : decode cX11_richest 20 = .ok (.iload_n 1, 1) := by decide +kernel
theorem dX11_richest_21 : decode cX11_richest 21 = .ok (.invokevirtual 293, 3) := by decide +kernel
theorem dX11_richest_24 : decode cX11_richest 24 = .ok (.ireturn, 1) := by decide +kernel
theorem dX11_holds_0 : decode cX11_holds 0 = .ok (.aload_n 0, 1) := by decide +kernel
theorem dX11_holds_1 : decode cX11_holds 1 = .ok (.getfield 21, 3) := by decide +kernel
theorem dX11_holds_4 : decode cX11_holds 4 = .ok (.iload_n 1, 1) := by decide +kernel
theorem dX11_holds_5 : decode cX11_holds 5 = .ok (.invokevirtual 157, 3) := by decide +kernel
theorem dX11_holds_8 : decode cX11_holds 8 = .ok (.ifCond .ne 5, 3) := by decide +kernel
theorem dX11_holds_11 : decode cX11_holds 11 = .ok (.iconst (-1), 1) := by decide +kernel
theorem dX11_holds_12 : decode cX11_holds 12 = .ok (.ireturn, 1) := by decide +kernel
theorem dX11_holds_13 : decode cX11_holds 13 = .ok (.aload_n 0, 1) := by decide +kernel
theorem dX11_holds_14 : decode cX11_holds 14 = .ok (.getfield 42, 3) := by decide +kernel
theorem dX11_holds_17 : decode cX11_holds 17 = .ok (.iload_n 1, 1) := by decide +kernel
theorem dX11_holds_18 : decode cX11_holds 18 = .ok (.invokevirtual 296, 3) := by decide +kernel
theorem dX11_holds_21 : decode cX11_holds 21 = .ok (.ireturn, 1) := by decide +kernel
theorem dX11_hidden_0 : decode cX11_hidden 0 = .ok (.aload_n 0, 1) := by decide +kernel
theorem dX11_hidden_1 : decode cX11_hidden 1 = .ok (.getfield 42, 3) := by decide +kernel
theorem dX11_hidden_4 : decode cX11_hidden 4 = .ok (.invokevirtual 299, 3) := by decide +kernel
theorem dX11_hidden_7 : decode cX11_hidden 7 = .ok (.ireturn, 1) := by decide +kernel
theorem dX11_find_0 : decode cX11_find 0 = .ok (.iload_n 1, 1) := by decide +kernel
theorem dX11_find_1 : decode cX11_find 1 = .ok (.iconst 1, 1) := by decide +kernel
theorem dX11_find_2 : decode cX11_find 2 = .ok (.if_icmp .lt 30, 3) := by decide +kernel
theorem dX11_find_5 : decode cX11_find 5 = .ok (.iload_n 1, 1) := by decide +kernel
theorem dX11_find_6 : decode cX11_find 6 = .ok (.bipush 40, 2) := by decide +kernel
theorem dX11_find_8 : decode cX11_find 8 = .ok (.if_icmp .gt 24, 3) := by decide +kernel
theorem dX11_find_11 : decode cX11_find 11 = .ok (.aload_n 0, 1) := by decide +kernel
theorem dX11_find_12 : decode cX11_find 12 = .ok (.getfield 21, 3) := by decide +kernel
theorem dX11_find_15 : decode cX11_find 15 = .ok (.iload_n 2, 1) := by decide +kernel
theorem dX11_find_16 : decode cX11_find 16 = .ok (.invokevirtual 120, 3) := by decide +kernel
theorem dX11_find_19 : decode cX11_find 19 = .ok (.ifCond .eq 13, 3) := by decide +kernel
theorem dX11_find_22 : decode cX11_find 22 = .ok (.aload_n 0, 1) := by decide +kernel
theorem dX11_find_23 : decode cX11_find 23 = .ok (.getfield 66, 3) := by decide +kernel
theorem dX11_find_26 : decode cX11_find 26 = .ok (.invokevirtual 302, 3) := by decide +kernel
theorem dX11_find_29 : decode cX11_find 29 = .ok (.ifCond .ne 5, 3) := by decide +kernel
theorem dX11_find_32 : decode cX11_find 32 = .ok (.iconst (-1), 1) := by decide +kernel
theorem dX11_find_33 : decode cX11_find 33 = .ok (.ireturn, 1) := by decide +kernel
theorem dX11_find_34 : decode cX11_find 34 = .ok (.aload_n 0, 1) := by decide +kernel
theorem dX11_find_35 : decode cX11_find 35 = .ok (.getfield 66, 3) := by decide +kernel
theorem dX11_find_38 : decode cX11_find 38 = .ok (.iload_n 1, 1) := by decide +kernel
theorem dX11_find_39 : decode cX11_find 39 = .ok (.iload_n 2, 1) := by decide +kernel
theorem dX11_find_40 : decode cX11_find 40 = .ok (.iload_n 3, 1) := by decide +kernel
theorem dX11_find_41 : decode cX11_find 41 = .ok (.invokevirtual 305, 3) := by decide +kernel
theorem dX11_find_44 : decode cX11_find 44 = .ok (.ireturn, 1) := by decide +kernel
theorem dX11_strike_0 : decode cX11_strike 0 = .ok (.iload_n 1, 1) := by decide +kernel
theorem dX11_strike_1 : decode cX11_strike 1 = .ok (.ifCond .lt 24, 3) := by decide +kernel
theorem dX11_strike_4 : decode cX11_strike 4 = .ok (.iload_n 1, 1) := by decide +kernel
theorem dX11_strike_5 : decode cX11_strike 5 = .ok (.aload_n 0, 1) := by decide +kernel
theorem dX11_strike_6 : decode cX11_strike 6 = .ok (.getfield 66, 3) := by decide +kernel
theorem dX11_strike_9 : decode cX11_strike 9 = .ok (.getfield 309, 3) := by decide +kernel
theorem dX11_strike_12 : decode cX11_strike 12 = .ok (.if_icmp .ge 13, 3) := by decide +kernel
theorem dX11_strike_15 : decode cX11_strike 15 = .ok (.aload_n 0, 1) := by decide +kernel
theorem dX11_strike_16 : decode cX11_strike 16 = .ok (.getfield 66, 3) := by decide +kernel
theorem dX11_strike_19 : decode cX11_strike 19 = .ok (.invokevirtual 302, 3) := by decide +kernel
theorem dX11_strike_22 : decode cX11_strike 22 = .ok (.ifCond .ne 5, 3) := by decide +kernel
theorem dX11_strike_25 : decode cX11_strike 25 = .ok (.iconst (-1), 1) := by decide +kernel
theorem dX11_strike_26 : decode cX11_strike 26 = .ok (.ireturn, 1) := by decide +kernel
theorem dX11_strike_27 : decode cX11_strike 27 = .ok (.aload_n 0, 1) := by decide +kernel
theorem dX11_strike_28 : decode cX11_strike 28 = .ok (.getfield 66, 3) := by decide +kernel
theorem dX11_strike_31 : decode cX11_strike 31 = .ok (.iload_n 1, 1) := by decide +kernel
theorem dX11_strike_32 : decode cX11_strike 32 = .ok (.invokevirtual 312, 3) := by decide +kernel
theorem dX11_strike_35 : decode cX11_strike 35 = .ok (.ireturn, 1) := by decide +kernel
theorem dX11_known_0 : decode cX11_known 0 = .ok (.iload_n 1, 1) := by decide +kernel
theorem dX11_known_1 : decode cX11_known 1 = .ok (.iconst (-1), 1) := by decide +kernel
theorem dX11_known_2 : decode cX11_known 2 = .ok (.if_icmp .lt 14, 3) := by decide +kernel
theorem dX11_known_5 : decode cX11_known 5 = .ok (.iload_n 1, 1) := by decide +kernel
theorem dX11_known_6 : decode cX11_known 6 = .ok (.aload_n 0, 1) := by decide +kernel
theorem dX11_known_7 : decode cX11_known 7 = .ok (.getfield 66, 3) := by decide +kernel
theorem dX11_known_10 : decode cX11_known 10 = .ok (.getfield 309, 3) := by decide +kernel
theorem dX11_known_13 : decode cX11_known 13 = .ok (.if_icmp .le 5, 3) := by decide +kernel
theorem dX11_known_16 : decode cX11_known 16 = .ok (.iconst 0, 1) := by decide +kernel
theorem dX11_known_17 : decode cX11_known 17 = .ok (.ireturn, 1) := by decide +kernel
theorem dX11_known_18 : decode cX11_known 18 = .ok (.aload_n 0, 1) := by decide +kernel
theorem dX11_known_19 : decode cX11_known 19 = .ok (.getfield 66, 3) := by decide +kernel
theorem dX11_known_22 : decode cX11_known 22 = .ok (.iload_n 1, 1) := by decide +kernel
theorem dX11_known_23 : decode cX11_known 23 = .ok (.putfield 315, 3) := by decide +kernel
theorem dX11_known_26 : decode cX11_known 26 = .ok (.iconst 1, 1) := by decide +kernel
theorem dX11_known_27 : decode cX11_known 27 = .ok (.ireturn, 1) := by decide +kernel
theorem dX11_skills_0 : decode cX11_skills 0 = .ok (.aload_n 0, 1) := by decide +kernel
theorem dX11_skills_1 : decode cX11_skills 1 = .ok (.getfield 21, 3) := by decide +kernel
theorem dX11_skills_4 : decode cX11_skills 4 = .ok (.iload_n 1, 1) := by decide +kernel
theorem dX11_skills_5 : decode cX11_skills 5 = .ok (.invokevirtual 178, 3) := by decide +kernel
theorem dX11_skills_8 : decode cX11_skills 8 = .ok (.ifCond .ne 5, 3) := by decide +kernel
theorem dX11_skills_11 : decode cX11_skills 11 = .ok (.iconst (-1), 1) := by decide +kernel
theorem dX11_skills_12 : decode cX11_skills 12 = .ok (.ireturn, 1) := by decide +kernel
theorem dX11_skills_13 : decode cX11_skills 13 = .ok (.aload_n 0, 1) := by decide +kernel
theorem dX11_skills_14 : decode cX11_skills 14 = .ok (.getfield 52, 3) := by decide +kernel
theorem dX11_skills_17 : decode cX11_skills 17 = .ok (.aload_n 0, 1) := by decide +kernel
theorem dX11_skills_18 : decode cX11_skills 18 = .ok (.getfield 66, 3) := by decide +kernel
theorem dX11_skills_21 : decode cX11_skills 21 = .ok (.aload_n 0, 1) := by decide +kernel
theorem dX11_skills_22 : decode cX11_skills 22 = .ok (.getfield 21, 3) := by decide +kernel
theorem dX11_skills_25 : decode cX11_skills 25 = .ok (.iload_n 1, 1) := by decide +kernel
theorem dX11_skills_26 : decode cX11_skills 26 = .ok (.invokevirtual 318, 3) := by decide +kernel
theorem dX11_skills_29 : decode cX11_skills 29 = .ok (.ireturn, 1) := by decide +kernel
theorem dX11_chance_0 : decode cX11_chance 0 = .ok (.iload_n 1, 1) := by decide +kernel
theorem dX11_chance_1 : decode cX11_chance 1 = .ok (.ifCond .lt 25, 3) := by decide +kernel
theorem dX11_chance_4 : decode cX11_chance 4 = .ok (.iload_n 2, 1) := by decide +kernel
theorem dX11_chance_5 : decode cX11_chance 5 = .ok (.iconst 1, 1) := by decide +kernel
theorem dX11_chance_6 : decode cX11_chance 6 = .ok (.if_icmp .lt 20, 3) := by decide +kernel
theorem dX11_chance_9 : decode cX11_chance 9 = .ok (.iload_n 2, 1) := by decide +kernel
theorem dX11_chance_10 : decode cX11_chance 10 = .ok (.bipush 99, 2) := by decide +kernel
theorem dX11_chance_12 : decode cX11_chance 12 = .ok (.if_icmp .gt 14, 3) := by decide +kernel
theorem dX11_chance_15 : decode cX11_chance 15 = .ok (.iload_n 3, 1) := by decide +kernel
theorem dX11_chance_16 : decode cX11_chance 16 = .ok (.ifCond .lt 10, 3) := by decide +kernel
theorem dX11_chance_19 : decode cX11_chance 19 = .ok (.iload_n 3, 1) := by decide +kernel
theorem dX11_chance_20 : decode cX11_chance 20 = .ok (.sipush 999, 3) := by decide +kernel
theorem dX11_chance_23 : decode cX11_chance 23 = .ok (.if_icmp .le 5, 3) := by decide +kernel
theorem dX11_chance_26 : decode cX11_chance 26 = .ok (.iconst (-1), 1) := by decide +kernel
theorem dX11_chance_27 : decode cX11_chance 27 = .ok (.ireturn, 1) := by decide +kernel
theorem dX11_chance_28 : decode cX11_chance 28 = .ok (.aload_n 0, 1) := by decide +kernel
theorem dX11_chance_29 : decode cX11_chance 29 = .ok (.getfield 52, 3) := by decide +kernel
theorem dX11_chance_32 : decode cX11_chance 32 = .ok (.aload_n 0, 1) := by decide +kernel
theorem dX11_chance_33 : decode cX11_chance 33 = .ok (.getfield 42, 3) := by decide +kernel
theorem dX11_chance_36 : decode cX11_chance 36 = .ok (.iload_n 1, 1) := by decide +kernel
theorem dX11_chance_37 : decode cX11_chance 37 = .ok (.iload_n 2, 1) := by decide +kernel
theorem dX11_chance_38 : decode cX11_chance 38 = .ok (.iload_n 3, 1) := by decide +kernel
theorem dX11_chance_39 : decode cX11_chance 39 = .ok (.invokevirtual 322, 3) := by decide +kernel
theorem dX11_chance_42 : decode cX11_chance 42 = .ok (.ireturn, 1) := by decide +kernel
theorem dX11_tried_0 : decode cX11_tried 0 = .ok (.iload_n 1, 1) := by decide +kernel
theorem dX11_tried_1 : decode cX11_tried 1 = .ok (.ifCond .lt 18, 3) := by decide +kernel
theorem dX11_tried_4 : decode cX11_tried 4 = .ok (.iload_n 1, 1) := by decide +kernel
theorem dX11_tried_5 : decode cX11_tried 5 = .ok (.iconst 4, 1) := by decide +kernel
theorem dX11_tried_6 : decode cX11_tried 6 = .ok (.if_icmp .gt 13, 3) := by decide +kernel
theorem dX11_tried_9 : decode cX11_tried 9 = .ok (.iload_n 3, 1) := by decide +kernel
theorem dX11_tried_10 : decode cX11_tried 10 = .ok (.ifCond .lt 9, 3) := by decide +kernel
theorem dX11_tried_13 : decode cX11_tried 13 = .ok (.iload_n 3, 1) := by decide +kernel
theorem dX11_tried_14 : decode cX11_tried 14 = .ok (.bipush 99, 2) := by decide +kernel
theorem dX11_tried_16 : decode cX11_tried 16 = .ok (.if_icmp .le 5, 3) := by decide +kernel
theorem dX11_tried_19 : decode cX11_tried 19 = .ok (.iconst (-1), 1) := by decide +kernel
theorem dX11_tried_20 : decode cX11_tried 20 = .ok (.ireturn, 1) := by decide +kernel
theorem dX11_tried_21 : decode cX11_tried 21 = .ok (.iload_n 1, 1) := by decide +kernel
theorem dX11_tried_22 : decode cX11_tried 22 = .ok (.iconst 2, 1) := by decide +kernel
theorem dX11_tried_23 : decode cX11_tried 23 = .ok (.if_icmp .ne 17, 3) := by decide +kernel
theorem dX11_tried_26 : decode cX11_tried 26 = .ok (.aload_n 0, 1) := by decide +kernel
theorem dX11_tried_27 : decode cX11_tried 27 = .ok (.getfield 21, 3) := by decide +kernel
theorem dX11_tried_30 : decode cX11_tried 30 = .ok (.iload_n 2, 1) := by decide +kernel
theorem dX11_tried_31 : decode cX11_tried 31 = .ok (.invokevirtual 157, 3) := by decide +kernel
theorem dX11_tried_34 : decode cX11_tried 34 = .ok (.ifCond .ne 12, 3) := by decide +kernel
theorem dX11_tried_37 : decode cX11_tried 37 = .ok (.goto 7, 3) := by decide +kernel
theorem dX11_tried_40 : decode cX11_tried 40 = .ok (.iload_n 2, 1) := by decide +kernel
theorem dX11_tried_41 : decode cX11_tried 41 = .ok (.ifCond .eq 5, 3) := by decide +kernel
theorem dX11_tried_44 : decode cX11_tried 44 = .ok (.iconst (-1), 1) := by decide +kernel
theorem dX11_tried_45 : decode cX11_tried 45 = .ok (.ireturn, 1) := by decide +kernel
theorem dX11_tried_46 : decode cX11_tried 46 = .ok (.aload_n 0, 1) := by decide +kernel
theorem dX11_tried_47 : decode cX11_tried 47 = .ok (.getfield 52, 3) := by decide +kernel
theorem dX11_tried_50 : decode cX11_tried 50 = .ok (.aload_n 0, 1) := by decide +kernel
theorem dX11_tried_51 : decode cX11_tried 51 = .ok (.getfield 42, 3) := by decide +kernel
theorem dX11_tried_54 : decode cX11_tried 54 = .ok (.iload_n 1, 1) := by decide +kernel
theorem dX11_tried_55 : decode cX11_tried 55 = .ok (.iload_n 2, 1) := by decide +kernel
theorem dX11_tried_56 : decode cX11_tried 56 = .ok (.iload_n 3, 1) := by decide +kernel
theorem dX11_tried_57 : decode cX11_tried 57 = .ok (.invokevirtual 325, 3) := by decide +kernel
theorem dX11_tried_60 : decode cX11_tried 60 = .ok (.ireturn, 1) := by decide +kernel
theorem dX11_undo_0 : decode cX11_undo 0 = .ok (.aload_n 0, 1) := by decide +kernel
theorem dX11_undo_1 : decode cX11_undo 1 = .ok (.getfield 59, 3) := by decide +kernel
theorem dX11_undo_4 : decode cX11_undo 4 = .ok (.getfield 328, 3) := by decide +kernel
theorem dX11_undo_7 : decode cX11_undo 7 = .ok (.ifCond .ne 5, 3) := by decide +kernel
theorem dX11_undo_10 : decode cX11_undo 10 = .ok (.iconst (-1), 1) := by decide +kernel
theorem dX11_undo_11 : decode cX11_undo 11 = .ok (.ireturn, 1) := by decide +kernel
theorem dX11_undo_12 : decode cX11_undo 12 = .ok (.aload_n 0, 1) := by decide +kernel
theorem dX11_undo_13 : decode cX11_undo 13 = .ok (.getfield 59, 3) := by decide +kernel
theorem dX11_undo_16 : decode cX11_undo 16 = .ok (.aload_n 0, 1) := by decide +kernel
theorem dX11_undo_17 : decode cX11_undo 17 = .ok (.getfield 42, 3) := by decide +kernel
theorem dX11_undo_20 : decode cX11_undo 20 = .ok (.invokevirtual 329, 3) := by decide +kernel
theorem dX11_undo_23 : decode cX11_undo 23 = .ok (.aload_n 0, 1) := by decide +kernel
theorem dX11_undo_24 : decode cX11_undo 24 = .ok (.getfield 59, 3) := by decide +kernel
theorem dX11_undo_27 : decode cX11_undo 27 = .ok (.getfield 328, 3) := by decide +kernel
theorem dX11_undo_30 : decode cX11_undo 30 = .ok (.ireturn, 1) := by decide +kernel
theorem dX11_keep_0 : decode cX11_keep 0 = .ok (.aload_n 0, 1) := by decide +kernel
theorem dX11_keep_1 : decode cX11_keep 1 = .ok (.getfield 46, 3) := by decide +kernel
theorem dX11_keep_4 : decode cX11_keep 4 = .ok (.aload_n 0, 1) := by decide +kernel
theorem dX11_keep_5 : decode cX11_keep 5 = .ok (.getfield 42, 3) := by decide +kernel
theorem dX11_keep_8 : decode cX11_keep 8 = .ok (.invokevirtual 333, 3) := by decide +kernel
theorem dX11_keep_11 : decode cX11_keep 11 = .ok (.aload_n 0, 1) := by decide +kernel
theorem dX11_keep_12 : decode cX11_keep 12 = .ok (.iconst 1, 1) := by decide +kernel
theorem dX11_keep_13 : decode cX11_keep 13 = .ok (.putfield 100, 3) := by decide +kernel
theorem dX11_keep_16 : decode cX11_keep 16 = .ok (.aload_n 0, 1) := by decide +kernel
theorem dX11_keep_17 : decode cX11_keep 17 = .ok (.getfield 42, 3) := by decide +kernel
theorem dX11_keep_20 : decode cX11_keep 20 = .ok (.getfield 210, 3) := by decide +kernel
theorem dX11_keep_23 : decode cX11_keep 23 = .ok (.ireturn, 1) := by decide +kernel
theorem dX11_back_0 : decode cX11_back 0 = .ok (.aload_n 0, 1) := by decide +kernel
theorem dX11_back_1 : decode cX11_back 1 = .ok (.getfield 100, 3) := by decide +kernel
theorem dX11_back_4 : decode cX11_back 4 = .ok (.ifCond .ne 5, 3) := by decide +kernel
theorem dX11_back_7 : decode cX11_back 7 = .ok (.iconst (-1), 1) := by decide +kernel
theorem dX11_back_8 : decode cX11_back 8 = .ok (.ireturn, 1) := by decide +kernel
theorem dX11_back_9 : decode cX11_back 9 = .ok (.aload_n 0, 1) := by decide +kernel
theorem dX11_back_10 : decode cX11_back 10 = .ok (.getfield 42, 3) := by decide +kernel
theorem dX11_back_13 : decode cX11_back 13 = .ok (.aload_n 0, 1) := by decide +kernel
theorem dX11_back_14 : decode cX11_back 14 = .ok (.getfield 46, 3) := by decide +kernel
theorem dX11_back_17 : decode cX11_back 17 = .ok (.invokevirtual 333, 3) := by decide +kernel
theorem dX11_back_20 : decode cX11_back 20 = .ok (.aload_n 0, 1) := by decide +kernel
theorem dX11_back_21 : decode cX11_back 21 = .ok (.getfield 59, 3) := by decide +kernel
theorem dX11_back_24 : decode cX11_back 24 = .ok (.invokevirtual 99, 3) := by decide +kernel
theorem dX11_back_27 : decode cX11_back 27 = .ok (.aload_n 0, 1) := by decide +kernel
theorem dX11_back_28 : decode cX11_back 28 = .ok (.getfield 42, 3) := by decide +kernel
theorem dX11_back_31 : decode cX11_back 31 = .ok (.getfield 210, 3) := by decide +kernel
theorem dX11_back_34 : decode cX11_back 34 = .ok (.ireturn, 1) := by decide +kernel
theorem dX11_count_0 : decode cX11_count 0 = .ok (.iload_n 1, 1) := by decide +kernel
theorem dX11_count_1 : decode cX11_count 1 = .ok (.tableswitch 190 0 12 #[67, 75, 83, 91, 102, 110, 118, 127, 136, 151, 166, 174, 182], 67) := by decide +kernel
theorem dX11_count_68 : decode cX11_count 68 = .ok (.aload_n 0, 1) := by decide +kernel
theorem dX11_count_69 : decode cX11_count 69 = .ok (.getfield 21, 3) := by decide +kernel
theorem dX11_count_72 : decode cX11_count 72 = .ok (.getfield 235, 3) := by decide +kernel
theorem dX11_count_75 : decode cX11_count 75 = .ok (.ireturn, 1) := by decide +kernel
theorem dX11_count_76 : decode cX11_count 76 = .ok (.aload_n 0, 1) := by decide +kernel
theorem dX11_count_77 : decode cX11_count 77 = .ok (.getfield 21, 3) := by decide +kernel
theorem dX11_count_80 : decode cX11_count 80 = .ok (.getfield 336, 3) := by decide +kernel
theorem dX11_count_83 : decode cX11_count 83 = .ok (.ireturn, 1) := by decide +kernel
theorem dX11_count_84 : decode cX11_count 84 = .ok (.aload_n 0, 1) := by decide +kernel
theorem dX11_count_85 : decode cX11_count 85 = .ok (.getfield 21, 3) := by decide +kernel
theorem dX11_count_88 : decode cX11_count 88 = .ok (.getfield 232, 3) := by decide +kernel
theorem dX11_count_91 : decode cX11_count 91 = .ok (.ireturn, 1) := by decide +kernel
theorem dX11_count_92 : decode cX11_count 92 = .ok (.aload_n 0, 1) := by decide +kernel
theorem dX11_count_93 : decode cX11_count 93 = .ok (.getfield 21, 3) := by decide +kernel
theorem dX11_count_96 : decode cX11_count 96 = .ok (.getfield 339, 3) := by decide +kernel
theorem dX11_count_99 : decode cX11_count 99 = .ok (.getfield 343, 3) := by decide +kernel
theorem dX11_count_102 : decode cX11_count 102 = .ok (.ireturn, 1) := by decide +kernel
theorem dX11_count_103 : decode cX11_count 103 = .ok (.aload_n 0, 1) := by decide +kernel
theorem dX11_count_104 : decode cX11_count 104 = .ok (.getfield 42, 3) := by decide +kernel
theorem dX11_count_107 : decode cX11_count 107 = .ok (.getfield 210, 3) := by decide +kernel
theorem dX11_count_110 : decode cX11_count 110 = .ok (.ireturn, 1) := by decide +kernel
theorem dX11_count_111 : decode cX11_count 111 = .ok (.aload_n 0, 1) := by decide +kernel
theorem dX11_count_112 : decode cX11_count 112 = .ok (.getfield 42, 3) := by decide +kernel
theorem dX11_count_115 : decode cX11_count 115 = .ok (.getfield 207, 3) := by decide +kernel
theorem dX11_count_118 : decode cX11_count 118 = .ok (.ireturn, 1) := by decide +kernel
theorem dX11_count_119 : decode cX11_count 119 = .ok (.aload_n 0, 1) := by decide +kernel
theorem dX11_count_120 : decode cX11_count 120 = .ok (.getfield 42, 3) := by decide +kernel
theorem dX11_count_123 : decode cX11_count 123 = .ok (.iconst 1, 1) := by decide +kernel
theorem dX11_count_124 : decode cX11_count 124 = .ok (.invokevirtual 346, 3) := by decide +kernel
theorem dX11_count_127 : decode cX11_count 127 = .ok (.ireturn, 1) := by decide +kernel
theorem dX11_count_128 : decode cX11_count 128 = .ok (.aload_n 0, 1) := by decide +kernel
theorem dX11_count_129 : decode cX11_count 129 = .ok (.getfield 42, 3) := by decide +kernel
theorem dX11_count_132 : decode cX11_count 132 = .ok (.iconst 2, 1) := by decide +kernel
theorem dX11_count_133 : decode cX11_count 133 = .ok (.invokevirtual 346, 3) := by decide +kernel
theorem dX11_count_136 : decode cX11_count 136 = .ok (.ireturn, 1) := by decide +kernel
theorem dX11_count_137 : decode cX11_count 137 = .ok (.aload_n 0, 1) := by decide +kernel
theorem dX11_count_138 : decode cX11_count 138 = .ok (.getfield 42, 3) := by decide +kernel
theorem dX11_count_141 : decode cX11_count 141 = .ok (.aload_n 0, 1) := by decide +kernel
theorem dX11_count_142 : decode cX11_count 142 = .ok (.getfield 42, 3) := by decide +kernel
theorem dX11_count_145 : decode cX11_count 145 = .ok (.getfield 166, 3) := by decide +kernel
theorem dX11_count_148 : decode cX11_count 148 = .ok (.invokevirtual 349, 3) := by decide +kernel
theorem dX11_count_151 : decode cX11_count 151 = .ok (.ireturn, 1) := by decide +kernel
theorem dX11_count_152 : decode cX11_count 152 = .ok (.aload_n 0, 1) := by decide +kernel
theorem dX11_count_153 : decode cX11_count 153 = .ok (.getfield 42, 3) := by decide +kernel
theorem dX11_count_156 : decode cX11_count 156 = .ok (.aload_n 0, 1) := by decide +kernel
theorem dX11_count_157 : decode cX11_count 157 = .ok (.getfield 42, 3) := by decide +kernel
theorem dX11_count_160 : decode cX11_count 160 = .ok (.getfield 169, 3) := by decide +kernel
theorem dX11_count_163 : decode cX11_count 163 = .ok (.invokevirtual 349, 3) := by decide +kernel
theorem dX11_count_166 : decode cX11_count 166 = .ok (.ireturn, 1) := by decide +kernel
theorem dX11_count_167 : decode cX11_count 167 = .ok (.aload_n 0, 1) := by decide +kernel
theorem dX11_count_168 : decode cX11_count 168 = .ok (.getfield 66, 3) := by decide +kernel
theorem dX11_count_171 : decode cX11_count 171 = .ok (.getfield 309, 3) := by decide +kernel
theorem dX11_count_174 : decode cX11_count 174 = .ok (.ireturn, 1) := by decide +kernel
theorem dX11_count_175 : decode cX11_count 175 = .ok (.aload_n 0, 1) := by decide +kernel
theorem dX11_count_176 : decode cX11_count 176 = .ok (.getfield 66, 3) := by decide +kernel
theorem dX11_count_179 : decode cX11_count 179 = .ok (.invokevirtual 352, 3) := by decide +kernel
theorem dX11_count_182 : decode cX11_count 182 = .ok (.ireturn, 1) := by decide +kernel
theorem dX11_count_183 : decode cX11_count 183 = .ok (.aload_n 0, 1) := by decide +kernel
theorem dX11_count_184 : decode cX11_count 184 = .ok (.getfield 59, 3) := by decide +kernel
theorem dX11_count_187 : decode cX11_count 187 = .ok (.getfield 328, 3) := by decide +kernel
theorem dX11_count_190 : decode cX11_count 190 = .ok (.ireturn, 1) := by decide +kernel
theorem dX11_count_191 : decode cX11_count 191 = .ok (.iconst (-1), 1) := by decide +kernel
theorem dX11_count_192 : decode cX11_count 192 = .ok (.ireturn, 1) := by decide +kernel
theorem dX12_init_0 : decode cX12_init 0 = .ok (.aload_n 0, 1) := by decide +kernel
theorem dX12_init_1 : decode cX12_init 1 = .ok (.invokespecial 1, 3) := by decide +kernel
theorem dX12_init_4 : decode cX12_init 4 = .ok (.aload_n 0, 1) := by decide +kernel
theorem dX12_init_5 : decode cX12_init 5 = .ok (.sipush 700, 3) := by decide +kernel
theorem dX12_init_8 : decode cX12_init 8 = .ok (.newarray .int, 2) := by decide +kernel
theorem dX12_init_10 : decode cX12_init 10 = .ok (.putfield 7, 3) := by decide +kernel
theorem dX12_init_13 : decode cX12_init 13 = .ok (.aload_n 0, 1) := by decide +kernel
theorem dX12_init_14 : decode cX12_init 14 = .ok (.bipush 105, 2) := by decide +kernel
theorem dX12_init_16 : decode cX12_init 16 = .ok (.newarray .int, 2) := by decide +kernel
theorem dX12_init_18 : decode cX12_init 18 = .ok (.dup, 1) := by decide +kernel
theorem dX12_init_19 : decode cX12_init 19 = .ok (.iconst 0, 1) := by decide +kernel
theorem dX12_init_20 : decode cX12_init 20 = .ok (.bipush 109, 2) := by decide +kernel
theorem dX12_init_22 : decode cX12_init 22 = .ok (.iastore, 1) := by decide +kernel
theorem dX12_init_23 : decode cX12_init 23 = .ok (.dup, 1) := by decide +kernel
theorem dX12_init_24 : decode cX12_init 24 = .ok (.iconst 1, 1) := by decide +kernel
theorem dX12_init_25 : decode cX12_init 25 = .ok (.bipush 97, 2) := by decide +kernel
theorem dX12_init_27 : decode cX12_init 27 = .ok (.iastore, 1) := by decide +kernel
theorem dX12_init_28 : decode cX12_init 28 = .ok (.dup, 1) := by decide +kernel
theorem dX12_init_29 : decode cX12_init 29 = .ok (.iconst 2, 1) := by decide +kernel
theorem dX12_init_30 : decode cX12_init 30 = .ok (.bipush 110, 2) := by decide +kernel
theorem dX12_init_32 : decode cX12_init 32 = .ok (.iastore, 1) := by decide +kernel
theorem dX12_init_33 : decode cX12_init 33 = .ok (.dup, 1) := by decide +kernel
theorem dX12_init_34 : decode cX12_init 34 = .ok (.iconst 3, 1) := by decide +kernel
theorem dX12_init_35 : decode cX12_init 35 = .ok (.bipush 32, 2) := by decide +kernel
theorem dX12_init_37 : decode cX12_init 37 = .ok (.iastore, 1) := by decide +kernel
theorem dX12_init_38 : decode cX12_init 38 = .ok (.dup, 1) := by decide +kernel
theorem dX12_init_39 : decode cX12_init 39 = .ok (.iconst 4, 1) := by decide +kernel
theorem dX12_init_40 : decode cX12_init 40 = .ok (.bipush 116, 2) := by decide +kernel
theorem dX12_init_42 : decode cX12_init 42 = .ok (.iastore, 1) := by decide +kernel
theorem dX12_init_43 : decode cX12_init 43 = .ok (.dup, 1) := by decide +kernel
theorem dX12_init_44 : decode cX12_init 44 = .ok (.iconst 5, 1) := by decide +kernel
theorem dX12_init_45 : decode cX12_init 45 = .ok (.bipush 104, 2) := by decide +kernel
theorem dX12_init_47 : decode cX12_init 47 = .ok (.iastore, 1) := by decide +kernel
theorem dX12_init_48 : decode cX12_init 48 = .ok (.dup, 1) := by decide +kernel
theorem dX12_init_49 : decode cX12_init 49 = .ok (.bipush 6, 2) := by decide +kernel
theorem dX12_init_51 : decode cX12_init 51 = .ok (.bipush 111, 2) := by decide +kernel
theorem dX12_init_53 : decode cX12_init 53 = .ok (.iastore, 1) := by decide +kernel
theorem dX12_init_54 : decode cX12_init 54 = .ok (.dup, 1) := by decide +kernel
theorem dX12_init_55 : decode cX12_init 55 = .ok (.bipush 7, 2) := by decide +kernel
theorem dX12_init_57 : decode cX12_init 57 = .ok (.bipush 117, 2) := by decide +kernel
theorem dX12_init_59 : decode cX12_init 59 = .ok (.iastore, 1) := by decide +kernel
theorem dX12_init_60 : decode cX12_init 60 = .ok (.dup, 1) := by decide +kernel
theorem dX12_init_61 : decode cX12_init 61 = .ok (.bipush 8, 2) := by decide +kernel
theorem dX12_init_63 : decode cX12_init 63 = .ok (.bipush 103, 2) := by decide +kernel
theorem dX12_init_65 : decode cX12_init 65 = .ok (.iastore, 1) := by decide +kernel
theorem dX12_init_66 : decode cX12_init 66 = .ok (.dup, 1) := by decide +kernel
theorem dX12_init_67 : decode cX12_init 67 = .ok (.bipush 9, 2) := by decide +kernel
theorem dX12_init_69 : decode cX12_init 69 = .ok (.bipush 104, 2) := by decide +kernel
