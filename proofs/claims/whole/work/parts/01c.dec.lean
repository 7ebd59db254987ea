theorem dX4_operator_55 : decode cX4_operator 55 = .ok (.getfield 95, 3) := by decide +kernel
theorem dX4_operator_58 : decode cX4_operator 58 = .ok (.goto 4, 3) := by decide +kernel
theorem dX4_operator_61 : decode cX4_operator 61 = .ok (.iconst (-1), 1) := by decide +kernel
theorem dX4_operator_62 : decode cX4_operator 62 = .ok (.ireturn, 1) := by decide +kernel
theorem dX4_rankOf_0 : decode cX4_rankOf 0 = .ok (.iload_n 0, 1) := by decide +kernel
theorem dX4_rankOf_1 : decode cX4_rankOf 1 = .ok (.ifCond .lt 19, 3) := by decide +kernel
theorem dX4_rankOf_4 : decode cX4_rankOf 4 = .ok (.iload_n 0, 1) := by decide +kernel
theorem dX4_rankOf_5 : decode cX4_rankOf 5 = .ok (.getstatic 112, 3) := by decide +kernel
theorem dX4_rankOf_8 : decode cX4_rankOf 8 = .ok (.arraylength, 1) := by decide +kernel
theorem dX4_rankOf_9 : decode cX4_rankOf 9 = .ok (.if_icmp .ge 11, 3) := by decide +kernel
theorem dX4_rankOf_12 : decode cX4_rankOf 12 = .ok (.getstatic 112, 3) := by decide +kernel
theorem dX4_rankOf_15 : decode cX4_rankOf 15 = .ok (.iload_n 0, 1) := by decide +kernel
theorem dX4_rankOf_16 : decode cX4_rankOf 16 = .ok (.iaload, 1) := by decide +kernel
theorem dX4_rankOf_17 : decode cX4_rankOf 17 = .ok (.goto 4, 3) := by decide +kernel
theorem dX4_rankOf_20 : decode cX4_rankOf 20 = .ok (.iconst 0, 1) := by decide +kernel
theorem dX4_rankOf_21 : decode cX4_rankOf 21 = .ok (.ireturn, 1) := by decide +kernel
theorem dX4_push_0 : decode cX4_push 0 = .ok (.aload_n 0, 1) := by decide +kernel
theorem dX4_push_1 : decode cX4_push 1 = .ok (.getfield 33, 3) := by decide +kernel
theorem dX4_push_4 : decode cX4_push 4 = .ok (.ifCond .lt 32, 3) := by decide +kernel
theorem dX4_push_7 : decode cX4_push 7 = .ok (.aload_n 0, 1) := by decide +kernel
theorem dX4_push_8 : decode cX4_push 8 = .ok (.getfield 33, 3) := by decide +kernel
theorem dX4_push_11 : decode cX4_push 11 = .ok (.bipush 72, 2) := by decide +kernel
theorem dX4_push_13 : decode cX4_push 13 = .ok (.if_icmp .ge 23, 3) := by decide +kernel
theorem dX4_push_16 : decode cX4_push 16 = .ok (.aload_n 0, 1) := by decide +kernel
theorem dX4_push_17 : decode cX4_push 17 = .ok (.getfield 13, 3) := by decide +kernel
theorem dX4_push_20 : decode cX4_push 20 = .ok (.aload_n 0, 1) := by decide +kernel
theorem dX4_push_21 : decode cX4_push 21 = .ok (.getfield 33, 3) := by decide +kernel
theorem dX4_push_24 : decode cX4_push 24 = .ok (.iload_n 1, 1) := by decide +kernel
theorem dX4_push_25 : decode cX4_push 25 = .ok (.iastore, 1) := by decide +kernel
theorem dX4_push_26 : decode cX4_push 26 = .ok (.aload_n 0, 1) := by decide +kernel
theorem dX4_push_27 : decode cX4_push 27 = .ok (.dup, 1) := by decide +kernel
theorem dX4_push_28 : decode cX4_push 28 = .ok (.getfield 33, 3) := by decide +kernel
theorem dX4_push_31 : decode cX4_push 31 = .ok (.iconst 1, 1) := by decide +kernel
theorem dX4_push_32 : decode cX4_push 32 = .ok (.iadd, 1) := by decide +kernel
theorem dX4_push_33 : decode cX4_push 33 = .ok (.putfield 33, 3) := by decide +kernel
theorem dX4_push_36 : decode cX4_push 36 = .ok (.return_, 1) := by decide +kernel
theorem dX4_release_0 : decode cX4_release 0 = .ok (.aload_n 0, 1) := by decide +kernel
theorem dX4_release_1 : decode cX4_release 1 = .ok (.getfield 33, 3) := by decide +kernel
theorem dX4_release_4 : decode cX4_release 4 = .ok (.ifCond .le 60, 3) := by decide +kernel
theorem dX4_release_7 : decode cX4_release 7 = .ok (.aload_n 0, 1) := by decide +kernel
theorem dX4_release_8 : decode cX4_release 8 = .ok (.getfield 33, 3) := by decide +kernel
theorem dX4_release_11 : decode cX4_release 11 = .ok (.bipush 72, 2) := by decide +kernel
theorem dX4_release_13 : decode cX4_release 13 = .ok (.if_icmp .gt 51, 3) := by decide +kernel
theorem dX4_release_16 : decode cX4_release 16 = .ok (.aload_n 0, 1) := by decide +kernel
theorem dX4_release_17 : decode cX4_release 17 = .ok (.getfield 13, 3) := by decide +kernel
theorem dX4_release_20 : decode cX4_release 20 = .ok (.aload_n 0, 1) := by decide +kernel
theorem dX4_release_21 : decode cX4_release 21 = .ok (.getfield 33, 3) := by decide +kernel
theorem dX4_release_24 : decode cX4_release 24 = .ok (.iconst 1, 1) := by decide +kernel
theorem dX4_release_25 : decode cX4_release 25 = .ok (.isub, 1) := by decide +kernel
theorem dX4_release_26 : decode cX4_release 26 = .ok (.iaload, 1) := by decide +kernel
theorem dX4_release_27 : decode cX4_release 27 = .ok (.invokestatic 108, 3) := by decide +kernel
theorem dX4_release_30 : decode cX4_release 30 = .ok (.iload_n 1, 1) := by decide +kernel
theorem dX4_release_31 : decode cX4_release 31 = .ok (.if_icmp .lt 33, 3) := by decide +kernel
theorem dX4_release_34 : decode cX4_release 34 = .ok (.aload_n 0, 1) := by decide +kernel
theorem dX4_release_35 : decode cX4_release 35 = .ok (.dup, 1) := by decide +kernel
theorem dX4_release_36 : decode cX4_release 36 = .ok (.getfield 33, 3) := by decide +kernel
theorem dX4_release_39 : decode cX4_release 39 = .ok (.iconst 1, 1) := by decide +kernel
theorem dX4_release_40 : decode cX4_release 40 = .ok (.isub, 1) := by decide +kernel
theorem dX4_release_41 : decode cX4_release 41 = .ok (.putfield 33, 3) := by decide +kernel
theorem dX4_release_44 : decode cX4_release 44 = .ok (.aload_n 0, 1) := by decide +kernel
theorem dX4_release_45 : decode cX4_release 45 = .ok (.getfield 25, 3) := by decide +kernel
theorem dX4_release_48 : decode cX4_release 48 = .ok (.aload_n 0, 1) := by decide +kernel
theorem dX4_release_49 : decode cX4_release 49 = .ok (.getfield 13, 3) := by decide +kernel
theorem dX4_release_52 : decode cX4_release 52 = .ok (.aload_n 0, 1) := by decide +kernel
theorem dX4_release_53 : decode cX4_release 53 = .ok (.getfield 33, 3) := by decide +kernel
theorem dX4_release_56 : decode cX4_release 56 = .ok (.iaload, 1) := by decide +kernel
theorem dX4_release_57 : decode cX4_release 57 = .ok (.iconst 0, 1) := by decide +kernel
theorem dX4_release_58 : decode cX4_release 58 = .ok (.invokevirtual 98, 3) := by decide +kernel
theorem dX4_release_61 : decode cX4_release 61 = .ok (.goto (-61), 3) := by decide +kernel
theorem dX4_release_64 : decode cX4_release 64 = .ok (.return_, 1) := by decide +kernel
theorem dX5_init_0 : decode cX5_init 0 = .ok (.aload_n 0, 1) := by decide +kernel
theorem dX5_init_1 : decode cX5_init 1 = .ok (.invokespecial 3, 3) := by decide +kernel
theorem dX5_init_4 : decode cX5_init 4 = .ok (.aload_n 0, 1) := by decide +kernel
theorem dX5_init_5 : decode cX5_init 5 = .ok (.bipush 64, 2) := by decide +kernel
theorem dX5_init_7 : decode cX5_init 7 = .ok (.newarray .int, 2) := by decide +kernel
theorem dX5_init_9 : decode cX5_init 9 = .ok (.putfield 11, 3) := by decide +kernel
theorem dX5_init_12 : decode cX5_init 12 = .ok (.aload_n 0, 1) := by decide +kernel
theorem dX5_init_13 : decode cX5_init 13 = .ok (.bipush 64, 2) := by decide +kernel
theorem dX5_init_15 : decode cX5_init 15 = .ok (.newarray .int, 2) := by decide +kernel
theorem dX5_init_17 : decode cX5_init 17 = .ok (.putfield 15, 3) := by decide +kernel
theorem dX5_init_20 : decode cX5_init 20 = .ok (.aload_n 0, 1) := by decide +kernel
theorem dX5_init_21 : decode cX5_init 21 = .ok (.iconst 3, 1) := by decide +kernel
theorem dX5_init_22 : decode cX5_init 22 = .ok (.newarray .int, 2) := by decide +kernel
theorem dX5_init_24 : decode cX5_init 24 = .ok (.dup, 1) := by decide +kernel
theorem dX5_init_25 : decode cX5_init 25 = .ok (.iconst 0, 1) := by decide +kernel
theorem dX5_init_26 : decode cX5_init 26 = .ok (.iconst (-1), 1) := by decide +kernel
theorem dX5_init_27 : decode cX5_init 27 = .ok (.iastore, 1) := by decide +kernel
theorem dX5_init_28 : decode cX5_init 28 = .ok (.dup, 1) := by decide +kernel
theorem dX5_init_29 : decode cX5_init 29 = .ok (.iconst 1, 1) := by decide +kernel
theorem dX5_init_30 : decode cX5_init 30 = .ok (.iconst (-1), 1) := by decide +kernel
theorem dX5_init_31 : decode cX5_init 31 = .ok (.iastore, 1) := by decide +kernel
theorem dX5_init_32 : decode cX5_init 32 = .ok (.dup, 1) := by decide +kernel
theorem dX5_init_33 : decode cX5_init 33 = .ok (.iconst 2, 1) := by decide +kernel
theorem dX5_init_34 : decode cX5_init 34 = .ok (.iconst (-1), 1) := by decide +kernel
theorem dX5_init_35 : decode cX5_init 35 = .ok (.iastore, 1) := by decide +kernel
theorem dX5_init_36 : decode cX5_init 36 = .ok (.putfield 18, 3) := by decide +kernel
theorem dX5_init_39 : decode cX5_init 39 = .ok (.aload_n 0, 1) := by decide +kernel
theorem dX5_init_40 : decode cX5_init 40 = .ok (.iconst 3, 1) := by decide +kernel
theorem dX5_init_41 : decode cX5_init 41 = .ok (.newarray .int, 2) := by decide +kernel
theorem dX5_init_43 : decode cX5_init 43 = .ok (.putfield 21, 3) := by decide +kernel
theorem dX5_init_46 : decode cX5_init 46 = .ok (.aload_n 0, 1) := by decide +kernel
theorem dX5_init_47 : decode cX5_init 47 = .ok (.bipush 64, 2) := by decide +kernel
theorem dX5_init_49 : decode cX5_init 49 = .ok (.newarray .long, 2) := by decide +kernel
theorem dX5_init_51 : decode cX5_init 51 = .ok (.putfield 24, 3) := by decide +kernel
theorem dX5_init_54 : decode cX5_init 54 = .ok (.return_, 1) := by decide +kernel
theorem dX5_clear_0 : decode cX5_clear 0 = .ok (.aload_n 0, 1) := by decide +kernel
theorem dX5_clear_1 : decode cX5_clear 1 = .ok (.iconst 0, 1) := by decide +kernel
theorem dX5_clear_2 : decode cX5_clear 2 = .ok (.putfield 28, 3) := by decide +kernel
theorem dX5_clear_5 : decode cX5_clear 5 = .ok (.aload_n 0, 1) := by decide +kernel
theorem dX5_clear_6 : decode cX5_clear 6 = .ok (.getfield 18, 3) := by decide +kernel
theorem dX5_clear_9 : decode cX5_clear 9 = .ok (.iconst (-1), 1) := by decide +kernel
theorem dX5_clear_10 : decode cX5_clear 10 = .ok (.invokestatic 32, 3) := by decide +kernel
theorem dX5_clear_13 : decode cX5_clear 13 = .ok (.return_, 1) := by decide +kernel
theorem dX5_isTold_0 : decode cX5_isTold 0 = .ok (.iload_n 1, 1) := by decide +kernel
theorem dX5_isTold_1 : decode cX5_isTold 1 = .ok (.ifCond .lt 22, 3) := by decide +kernel
theorem dX5_isTold_4 : decode cX5_isTold 4 = .ok (.iload_n 1, 1) := by decide +kernel
theorem dX5_isTold_5 : decode cX5_isTold 5 = .ok (.iconst 3, 1) := by decide +kernel
theorem dX5_isTold_6 : decode cX5_isTold 6 = .ok (.if_icmp .ge 17, 3) := by decide +kernel
theorem dX5_isTold_9 : decode cX5_isTold 9 = .ok (.aload_n 0, 1) := by decide +kernel
theorem dX5_isTold_10 : decode cX5_isTold 10 = .ok (.getfield 18, 3) := by decide +kernel
theorem dX5_isTold_13 : decode cX5_isTold 13 = .ok (.iload_n 1, 1) := by decide +kernel
theorem dX5_isTold_14 : decode cX5_isTold 14 = .ok (.iaload, 1) := by decide +kernel
theorem dX5_isTold_15 : decode cX5_isTold 15 = .ok (.iconst (-1), 1) := by decide +kernel
theorem dX5_isTold_16 : decode cX5_isTold 16 = .ok (.if_icmp .eq 7, 3) := by decide +kernel
theorem dX5_isTold_19 : decode cX5_isTold 19 = .ok (.iconst 1, 1) := by decide +kernel
theorem dX5_isTold_20 : decode cX5_isTold 20 = .ok (.goto 4, 3) := by decide +kernel
theorem dX5_isTold_23 : decode cX5_isTold 23 = .ok (.iconst 0, 1) := by decide +kernel
theorem dX5_isTold_24 : decode cX5_isTold 24 = .ok (.ireturn, 1) := by decide +kernel
theorem dX5_open_0 : decode cX5_open 0 = .ok (.iload_n 1, 1) := by decide +kernel
theorem dX5_open_1 : decode cX5_open 1 = .ok (.ifCond .lt 28, 3) := by decide +kernel
theorem dX5_open_4 : decode cX5_open 4 = .ok (.iload_n 1, 1) := by decide +kernel
theorem dX5_open_5 : decode cX5_open 5 = .ok (.iconst 3, 1) := by decide +kernel
theorem dX5_open_6 : decode cX5_open 6 = .ok (.if_icmp .ge 23, 3) := by decide +kernel
theorem dX5_open_9 : decode cX5_open 9 = .ok (.aload_n 0, 1) := by decide +kernel
theorem dX5_open_10 : decode cX5_open 10 = .ok (.getfield 18, 3) := by decide +kernel
theorem dX5_open_13 : decode cX5_open 13 = .ok (.iload_n 1, 1) := by decide +kernel
theorem dX5_open_14 : decode cX5_open 14 = .ok (.aload_n 0, 1) := by decide +kernel
theorem dX5_open_15 : decode cX5_open 15 = .ok (.getfield 28, 3) := by decide +kernel
theorem dX5_open_18 : decode cX5_open 18 = .ok (.iastore, 1) := by decide +kernel
theorem dX5_open_19 : decode cX5_open 19 = .ok (.aload_n 0, 1) := by decide +kernel
theorem dX5_open_20 : decode cX5_open 20 = .ok (.getfield 21, 3) := by decide +kernel
theorem dX5_open_23 : decode cX5_open 23 = .ok (.iload_n 1, 1) := by decide +kernel
theorem dX5_open_24 : decode cX5_open 24 = .ok (.aload_n 0, 1) := by decide +kernel
theorem dX5_open_25 : decode cX5_open 25 = .ok (.getfield 28, 3) := by decide +kernel
theorem dX5_open_28 : decode cX5_open 28 = .ok (.iastore, 1) := by decide +kernel
theorem dX5_open_29 : decode cX5_open 29 = .ok (.return_, 1) := by decide +kernel
theorem dX5_close_0 : decode cX5_close 0 = .ok (.iload_n 1, 1) := by decide +kernel
theorem dX5_close_1 : decode cX5_close 1 = .ok (.ifCond .lt 18, 3) := by decide +kernel
theorem dX5_close_4 : decode cX5_close 4 = .ok (.iload_n 1, 1) := by decide +kernel
theorem dX5_close_5 : decode cX5_close 5 = .ok (.iconst 3, 1) := by decide +kernel
theorem dX5_close_6 : decode cX5_close 6 = .ok (.if_icmp .ge 13, 3) := by decide +kernel
theorem dX5_close_9 : decode cX5_close 9 = .ok (.aload_n 0, 1) := by decide +kernel
theorem dX5_close_10 : decode cX5_close 10 = .ok (.getfield 21, 3) := by decide +kernel
theorem dX5_close_13 : decode cX5_close 13 = .ok (.iload_n 1, 1) := by decide +kernel
theorem dX5_close_14 : decode cX5_close 14 = .ok (.aload_n 0, 1) := by decide +kernel
theorem dX5_close_15 : decode cX5_close 15 = .ok (.getfield 28, 3) := by decide +kernel
theorem dX5_close_18 : decode cX5_close 18 = .ok (.iastore, 1) := by decide +kernel
theorem dX5_close_19 : decode cX5_close 19 = .ok (.return_, 1) := by decide +kernel
theorem dX5_add_0 : decode cX5_add 0 = .ok (.aload_n 0, 1) := by decide +kernel
theorem dX5_add_1 : decode cX5_add 1 = .ok (.getfield 28, 3) := by decide +kernel
theorem dX5_add_4 : decode cX5_add 4 = .ok (.ifCond .lt 42, 3) := by decide +kernel
theorem dX5_add_7 : decode cX5_add 7 = .ok (.aload_n 0, 1) := by decide +kernel
theorem dX5_add_8 : decode cX5_add 8 = .ok (.getfield 28, 3) := by decide +kernel
theorem dX5_add_11 : decode cX5_add 11 = .ok (.bipush 64, 2) := by decide +kernel
theorem dX5_add_13 : decode cX5_add 13 = .ok (.if_icmp .ge 33, 3) := by decide +kernel
theorem dX5_add_16 : decode cX5_add 16 = .ok (.aload_n 0, 1) := by decide +kernel
theorem dX5_add_17 : decode cX5_add 17 = .ok (.getfield 11, 3) := by decide +kernel
theorem dX5_add_20 : decode cX5_add 20 = .ok (.aload_n 0, 1) := by decide +kernel
theorem dX5_add_21 : decode cX5_add 21 = .ok (.getfield 28, 3) := by decide +kernel
theorem dX5_add_24 : decode cX5_add 24 = .ok (.iload_n 1, 1) := by decide +kernel
theorem dX5_add_25 : decode cX5_add 25 = .ok (.iastore, 1) := by decide +kernel
theorem dX5_add_26 : decode cX5_add 26 = .ok (.aload_n 0, 1) := by decide +kernel
theorem dX5_add_27 : decode cX5_add 27 = .ok (.getfield 15, 3) := by decide +kernel
theorem dX5_add_30 : decode cX5_add 30 = .ok (.aload_n 0, 1) := by decide +kernel
theorem dX5_add_31 : decode cX5_add 31 = .ok (.getfield 28, 3) := by decide +kernel
theorem dX5_add_34 : decode cX5_add 34 = .ok (.iload_n 2, 1) := by decide +kernel
theorem dX5_add_35 : decode cX5_add 35 = .ok (.iastore, 1) := by decide +kernel
theorem dX5_add_36 : decode cX5_add 36 = .ok (.aload_n 0, 1) := by decide +kernel
theorem dX5_add_37 : decode cX5_add 37 = .ok (.dup, 1) := by decide +kernel
theorem dX5_add_38 : decode cX5_add 38 = .ok (.getfield 28, 3) := by decide +kernel
theorem dX5_add_41 : decode cX5_add 41 = .ok (.iconst 1, 1) := by decide +kernel
theorem dX5_add_42 : decode cX5_add 42 = .ok (.iadd, 1) := by decide +kernel
theorem dX5_add_43 : decode cX5_add 43 = .ok (.putfield 28, 3) := by decide +kernel
theorem dX5_add_46 : decode cX5_add 46 = .ok (.return_, 1) := by decide +kernel
theorem dX5_work_0 : decode cX5_work 0 = .ok (.aload_n 0, 1) := by decide +kernel
theorem dX5_work_1 : decode cX5_work 1 = .ok (.iload_n 1, 1) := by decide +kernel
theorem dX5_work_2 : decode cX5_work 2 = .ok (.invokevirtual 38, 3) := by decide +kernel
theorem dX5_work_5 : decode cX5_work 5 = .ok (.ifCond .ne 7, 3) := by decide +kernel
theorem dX5_work_8 : decode cX5_work 8 = .ok (.ldc2_w 42, 3) := by decide +kernel
theorem dX5_work_11 : decode cX5_work 11 = .ok (.lreturn, 1) := by decide +kernel
theorem dX5_work_12 : decode cX5_work 12 = .ok (.iconst 0, 1) := by decide +kernel
theorem dX5_work_13 : decode cX5_work 13 = .ok (.istore_n 3, 1) := by decide +kernel
theorem dX5_work_14 : decode cX5_work 14 = .ok (.iconst 0, 1) := by decide +kernel
theorem dX5_work_15 : decode cX5_work 15 = .ok (.aload_n 0, 1) := by decide +kernel
theorem dX5_work_16 : decode cX5_work 16 = .ok (.getfield 18, 3) := by decide +kernel
theorem dX5_work_19 : decode cX5_work 19 = .ok (.iload_n 1, 1) := by decide +kernel
theorem dX5_work_20 : decode cX5_work 20 = .ok (.iaload, 1) := by decide +kernel
theorem dX5_work_21 : decode cX5_work 21 = .ok (.invokestatic 44, 3) := by decide +kernel
theorem dX5_work_24 : decode cX5_work 24 = .ok (.istore 4, 2) := by decide +kernel
theorem dX5_work_26 : decode cX5_work 26 = .ok (.iload 4, 2) := by decide +kernel
theorem dX5_work_28 : decode cX5_work 28 = .ok (.aload_n 0, 1) := by decide +kernel
theorem dX5_work_29 : decode cX5_work 29 = .ok (.getfield 21, 3) := by decide +kernel
theorem dX5_work_32 : decode cX5_work 32 = .ok (.iload_n 1, 1) := by decide +kernel
theorem dX5_work_33 : decode cX5_work 33 = .ok (.iaload, 1) := by decide +kernel
theorem dX5_work_34 : decode cX5_work 34 = .ok (.if_icmp .ge 224, 3) := by decide +kernel
theorem dX5_work_37 : decode cX5_work 37 = .ok (.iload 4, 2) := by decide +kernel
theorem dX5_work_39 : decode cX5_work 39 = .ok (.bipush 64, 2) := by decide +kernel
theorem dX5_work_41 : decode cX5_work 41 = .ok (.if_icmp .ge 217, 3) := by decide +kernel
theorem dX5_work_44 : decode cX5_work 44 = .ok (.aload_n 0, 1) := by decide +kernel
theorem dX5_work_45 : decode cX5_work 45 = .ok (.getfield 11, 3) := by decide +kernel
theorem dX5_work_48 : decode cX5_work 48 = .ok (.iload 4, 2) := by decide +kernel
theorem dX5_work_50 : decode cX5_work 50 = .ok (.iaload, 1) := by decide +kernel
theorem dX5_work_51 : decode cX5_work 51 = .ok (.ifCond .ne 16, 3) := by decide +kernel
theorem dX5_work_54 : decode cX5_work 54 = .ok (.aload_n 0, 1) := by decide +kernel
theorem dX5_work_55 : decode cX5_work 55 = .ok (.getfield 15, 3) := by decide +kernel
theorem dX5_work_58 : decode cX5_work 58 = .ok (.iload 4, 2) := by decide +kernel
theorem dX5_work_60 : decode cX5_work 60 = .ok (.iaload, 1) := by decide +kernel
theorem dX5_work_61 : decode cX5_work 61 = .ok (.i2l, 1) := by decide +kernel
theorem dX5_work_62 : decode cX5_work 62 = .ok (.lstore 5, 2) := by decide +kernel
theorem dX5_work_64 : decode cX5_work 64 = .ok (.goto 145, 3) := by decide +kernel
theorem dX5_work_67 : decode cX5_work 67 = .ok (.aload_n 0, 1) := by decide +kernel
theorem dX5_work_68 : decode cX5_work 68 = .ok (.getfield 11, 3) := by decide +kernel
theorem dX5_work_71 : decode cX5_work 71 = .ok (.iload 4, 2) := by decide +kernel
theorem dX5_work_73 : decode cX5_work 73 = .ok (.iaload, 1) := by decide +kernel
theorem dX5_work_74 : decode cX5_work 74 = .ok (.iconst 1, 1) := by decide +kernel
theorem dX5_work_75 : decode cX5_work 75 = .ok (.if_icmp .ne 43, 3) := by decide +kernel
theorem dX5_work_78 : decode cX5_work 78 = .ok (.aload_n 0, 1) := by decide +kernel
theorem dX5_work_79 : decode cX5_work 79 = .ok (.getfield 15, 3) := by decide +kernel
theorem dX5_work_82 : decode cX5_work 82 = .ok (.iload 4, 2) := by decide +kernel
theorem dX5_work_84 : decode cX5_work 84 = .ok (.iaload, 1) := by decide +kernel
theorem dX5_work_85 : decode cX5_work 85 = .ok (.ifCond .lt 27, 3) := by decide +kernel
theorem dX5_work_88 : decode cX5_work 88 = .ok (.aload_n 0, 1) := by decide +kernel
theorem dX5_work_89 : decode cX5_work 89 = .ok (.getfield 15, 3) := by decide +kernel
theorem dX5_work_92 : decode cX5_work 92 = .ok (.iload 4, 2) := by decide +kernel
theorem dX5_work_94 : decode cX5_work 94 = .ok (.iaload, 1) := by decide +kernel
theorem dX5_work_95 : decode cX5_work 95 = .ok (.aload_n 2, 1) := by decide +kernel
theorem dX5_work_96 : decode cX5_work 96 = .ok (.arraylength, 1) := by decide +kernel
theorem dX5_work_97 : decode cX5_work 97 = .ok (.if_icmp .ge 15, 3) := by decide +kernel
theorem dX5_work_100 : decode cX5_work 100 = .ok (.aload_n 2, 1) := by decide +kernel
theorem dX5_work_101 : decode cX5_work 101 = .ok (.aload_n 0, 1) := by decide +kernel
theorem dX5_work_102 : decode cX5_work 102 = .ok (.getfield 15, 3) := by decide +kernel
theorem dX5_work_105 : decode cX5_work 105 = .ok (.iload 4, 2) := by decide +kernel
theorem dX5_work_107 : decode cX5_work 107 = .ok (.iaload, 1) := by decide +kernel
theorem dX5_work_108 : decode cX5_work 108 = .ok (.laload, 1) := by decide +kernel
theorem dX5_work_109 : decode cX5_work 109 = .ok (.goto 4, 3) := by decide +kernel
theorem dX5_work_112 : decode cX5_work 112 = .ok (.lconst 0, 1) := by decide +kernel
theorem dX5_work_113 : decode cX5_work 113 = .ok (.lstore 5, 2) := by decide +kernel
theorem dX5_work_115 : decode cX5_work 115 = .ok (.goto 94, 3) := by decide +kernel
theorem dX5_work_118 : decode cX5_work 118 = .ok (.aload_n 0, 1) := by decide +kernel
theorem dX5_work_119 : decode cX5_work 119 = .ok (.getfield 11, 3) := by decide +kernel
theorem dX5_work_122 : decode cX5_work 122 = .ok (.iload 4, 2) := by decide +kernel
theorem dX5_work_124 : decode cX5_work 124 = .ok (.iaload, 1) := by decide +kernel
theorem dX5_work_125 : decode cX5_work 125 = .ok (.iconst 4, 1) := by decide +kernel
theorem dX5_work_126 : decode cX5_work 126 = .ok (.if_icmp .ne 26, 3) := by decide +kernel
theorem dX5_work_129 : decode cX5_work 129 = .ok (.iinc 3 (-1), 3) := by decide +kernel
theorem dX5_work_132 : decode cX5_work 132 = .ok (.aload_n 0, 1) := by decide +kernel
theorem dX5_work_133 : decode cX5_work 133 = .ok (.iload_n 3, 1) := by decide +kernel
theorem dX5_work_134 : decode cX5_work 134 = .ok (.invokevirtual 50, 3) := by decide +kernel
theorem dX5_work_137 : decode cX5_work 137 = .ok (.lconst 0, 1) := by decide +kernel
theorem dX5_work_138 : decode cX5_work 138 = .ok (.lcmp, 1) := by decide +kernel
theorem dX5_work_139 : decode cX5_work 139 = .ok (.ifCond .ne 7, 3) := by decide +kernel
theorem dX5_work_142 : decode cX5_work 142 = .ok (.lconst 1, 1) := by decide +kernel
theorem dX5_work_143 : decode cX5_work 143 = .ok (.goto 4, 3) := by decide +kernel
theorem dX5_work_146 : decode cX5_work 146 = .ok (.lconst 0, 1) := by decide +kernel
theorem dX5_work_147 : decode cX5_work 147 = .ok (.lstore 5, 2) := by decide +kernel
theorem dX5_work_149 : decode cX5_work 149 = .ok (.goto 60, 3) := by decide +kernel
theorem dX5_work_152 : decode cX5_work 152 = .ok (.iinc 3 (-2), 3) := by decide +kernel
theorem dX5_work_155 : decode cX5_work 155 = .ok (.aload_n 0, 1) := by decide +kernel
theorem dX5_work_156 : decode cX5_work 156 = .ok (.getfield 11, 3) := by decide +kernel
theorem dX5_work_159 : decode cX5_work 159 = .ok (.iload 4, 2) := by decide +kernel
theorem dX5_work_161 : decode cX5_work 161 = .ok (.iaload, 1) := by decide +kernel
theorem dX5_work_162 : decode cX5_work 162 = .ok (.bipush 13, 2) := by decide +kernel
theorem dX5_work_164 : decode cX5_work 164 = .ok (.if_icmp .ne 21, 3) := by decide +kernel
theorem dX5_work_167 : decode cX5_work 167 = .ok (.aload_n 0, 1) := by decide +kernel
theorem dX5_work_168 : decode cX5_work 168 = .ok (.iload_n 3, 1) := by decide +kernel
theorem dX5_work_169 : decode cX5_work 169 = .ok (.invokevirtual 50, 3) := by decide +kernel
theorem dX5_work_172 : decode cX5_work 172 = .ok (.aload_n 0, 1) := by decide +kernel
theorem dX5_work_173 : decode cX5_work 173 = .ok (.iload_n 3, 1) := by decide +kernel
theorem dX5_work_174 : decode cX5_work 174 = .ok (.iconst 1, 1) := by decide +kernel
theorem dX5_work_175 : decode cX5_work 175 = .ok (.iadd, 1) := by decide +kernel
theorem dX5_work_176 : decode cX5_work 176 = .ok (.invokevirtual 50, 3) := by decide +kernel
theorem dX5_work_179 : decode cX5_work 179 = .ok (.invokestatic 54, 3) := by decide +kernel
theorem dX5_work_182 : decode cX5_work 182 = .ok (.goto 25, 3) := by decide +kernel
theorem dX5_work_185 : decode cX5_work 185 = .ok (.aload_n 0, 1) := by decide +kernel
theorem dX5_work_186 : decode cX5_work 186 = .ok (.getfield 11, 3) := by decide +kernel
theorem dX5_work_189 : decode cX5_work 189 = .ok (.iload 4, 2) := by decide +kernel
theorem dX5_work_191 : decode cX5_work 191 = .ok (.iaload, 1) := by decide +kernel
theorem dX5_work_192 : decode cX5_work 192 = .ok (.aload_n 0, 1) := by decide +kernel
theorem dX5_work_193 : decode cX5_work 193 = .ok (.iload_n 3, 1) := by decide +kernel
theorem dX5_work_194 : decode cX5_work 194 = .ok (.invokevirtual 50, 3) := by decide +kernel
theorem dX5_work_197 : decode cX5_work 197 = .ok (.aload_n 0, 1) := by decide +kernel
theorem dX5_work_198 : decode cX5_work 198 = .ok (.iload_n 3, 1) := by decide +kernel
theorem dX5_work_199 : decode cX5_work 199 = .ok (.iconst 1, 1) := by decide +kernel
theorem dX5_work_200 : decode cX5_work 200 = .ok (.iadd, 1) := by decide +kernel
theorem dX5_work_201 : decode cX5_work 201 = .ok (.invokevirtual 50, 3) := by decide +kernel
theorem dX5_work_204 : decode cX5_work 204 = .ok (.invokestatic 58, 3) := by decide +kernel
theorem dX5_work_207 : decode cX5_work 207 = .ok (.lstore 5, 2) := by decide +kernel
theorem dX5_work_209 : decode cX5_work 209 = .ok (.lload 5, 2) := by decide +kernel
theorem dX5_work_211 : decode cX5_work 211 = .ok (.ldc2_w 62, 3) := by decide +kernel
theorem dX5_work_214 : decode cX5_work 214 = .ok (.lcmp, 1) := by decide +kernel
theorem dX5_work_215 : decode cX5_work 215 = .ok (.ifCond .gt 22, 3) := by decide +kernel
theorem dX5_work_218 : decode cX5_work 218 = .ok (.lload 5, 2) := by decide +kernel
theorem dX5_work_220 : decode cX5_work 220 = .ok (.ldc2_w 64, 3) := by decide +kernel
theorem dX5_work_223 : decode cX5_work 223 = .ok (.lcmp, 1) := by decide +kernel
theorem dX5_work_224 : decode cX5_work 224 = .ok (.ifCond .lt 13, 3) := by decide +kernel
theorem dX5_work_227 : decode cX5_work 227 = .ok (.iload_n 3, 1) := by decide +kernel
theorem dX5_work_228 : decode cX5_work 228 = .ok (.ifCond .lt 9, 3) := by decide +kernel
theorem dX5_work_231 : decode cX5_work 231 = .ok (.iload_n 3, 1) := by decide +kernel
theorem dX5_work_232 : decode cX5_work 232 = .ok (.bipush 64, 2) := by decide +kernel
theorem dX5_work_234 : decode cX5_work 234 = .ok (.if_icmp .lt 7, 3) := by decide +kernel
theorem dX5_work_237 : decode cX5_work 237 = .ok (.ldc2_w 42, 3) := by decide +kernel
theorem dX5_work_240 : decode cX5_work 240 = .ok (.lreturn, 1) := by decide +kernel
theorem dX5_work_241 : decode cX5_work 241 = .ok (.aload_n 0, 1) := by decide +kernel
theorem dX5_work_242 : decode cX5_work 242 = .ok (.getfield 24, 3) := by decide +kernel
theorem dX5_work_245 : decode cX5_work 245 = .ok (.iload_n 3, 1) := by decide +kernel
theorem dX5_work_246 : decode cX5_work 246 = .ok (.lload 5, 2) := by decide +kernel
theorem dX5_work_248 : decode cX5_work 248 = .ok (.lastore, 1) := by decide +kernel
theorem dX5_work_249 : decode cX5_work 249 = .ok (.iinc 3 1, 3) := by decide +kernel
theorem dX5_work_252 : decode cX5_work 252 = .ok (.iinc 4 1, 3) := by decide +kernel
theorem dX5_work_255 : decode cX5_work 255 = .ok (.goto (-229), 3) := by decide +kernel
theorem dX5_work_258 : decode cX5_work 258 = .ok (.aload_n 0, 1) := by decide +kernel
theorem dX5_work_259 : decode cX5_work 259 = .ok (.iload_n 3, 1) := by decide +kernel
theorem dX5_work_260 : decode cX5_work 260 = .ok (.iconst 1, 1) := by decide +kernel
theorem dX5_work_261 : decode cX5_work 261 = .ok (.isub, 1) := by decide +kernel
theorem dX5_work_262 : decode cX5_work 262 = .ok (.invokevirtual 50, 3) := by decide +kernel
theorem dX5_work_265 : decode cX5_work 265 = .ok (.lreturn, 1) := by decide +kernel
theorem dX5_at_0 : decode cX5_at 0 = .ok (.iload_n 1, 1) := by decide +kernel
theorem dX5_at_1 : decode cX5_at 1 = .ok (.ifCond .lt 18, 3) := by decide +kernel
theorem dX5_at_4 : decode cX5_at 4 = .ok (.iload_n 1, 1) := by decide +kernel
theorem dX5_at_5 : decode cX5_at 5 = .ok (.bipush 64, 2) := by decide +kernel
theorem dX5_at_7 : decode cX5_at 7 = .ok (.if_icmp .ge 12, 3) := by decide +kernel
theorem dX5_at_10 : decode cX5_at 10 = .ok (.aload_n 0, 1) := by decide +kernel
theorem dX5_at_11 : decode cX5_at 11 = .ok (.getfield 24, 3) := by decide +kernel
theorem dX5_at_14 : decode cX5_at 14 = .ok (.iload_n 1, 1) := by decide +kernel
theorem dX5_at_15 : decode cX5_at 15 = .ok (.laload, 1) := by decide +kernel
theorem dX5_at_16 : decode cX5_at 16 = .ok (.goto 6, 3) := by decide +kernel
theorem dX5_at_19 : decode cX5_at 19 = .ok (.ldc2_w 42, 3) := by decide +kernel
theorem dX5_at_22 : decode cX5_at 22 = .ok (.lreturn, 1) := by decide +kernel
theorem dX5_join_0 : decode cX5_join 0 = .ok (.iload_n 0, 1) := by decide +kernel
theorem dX5_join_1 : decode cX5_join 1 = .ok (.tableswitch 199 2 14 #[67, 85, 199, 103, 115, 127, 139, 151, 163, 175, 179, 199, 183], 67) := by decide +kernel
theorem dX5_join_68 : decode cX5_join 68 = .ok (.lload_n 1, 1) := by decide +kernel
theorem dX5_join_69 : decode cX5_join 69 = .ok (.lconst 0, 1) := by decide +kernel
theorem dX5_join_70 : decode cX5_join 70 = .ok (.lcmp, 1) := by decide +kernel
theorem dX5_join_71 : decode cX5_join 71 = .ok (.ifCond .ne 9, 3) := by decide +kernel
theorem dX5_join_74 : decode cX5_join 74 = .ok (.lload_n 3, 1) := by decide +kernel
theorem dX5_join_75 : decode cX5_join 75 = .ok (.lconst 0, 1) := by decide +kernel
theorem dX5_join_76 : decode cX5_join 76 = .ok (.lcmp, 1) := by decide +kernel
theorem dX5_join_77 : decode cX5_join 77 = .ok (.ifCond .eq 7, 3) := by decide +kernel
theorem dX5_join_80 : decode cX5_join 80 = .ok (.lconst 1, 1) := by decide +kernel
theorem dX5_join_81 : decode cX5_join 81 = .ok (.goto 4, 3) := by decide +kernel
theorem dX5_join_84 : decode cX5_join 84 = .ok (.lconst 0, 1) := by decide +kernel
theorem dX5_join_85 : decode cX5_join 85 = .ok (.lreturn, 1) := by decide +kernel
theorem dX5_join_86 : decode cX5_join 86 = .ok (.lload_n 1, 1) := by decide +kernel
theorem dX5_join_87 : decode cX5_join 87 = .ok (.lconst 0, 1) := by decide +kernel
theorem dX5_join_88 : decode cX5_join 88 = .ok (.lcmp, 1) := by decide +kernel
theorem dX5_join_89 : decode cX5_join 89 = .ok (.ifCond .eq 13, 3) := by decide +kernel
theorem dX5_join_92 : decode cX5_join 92 = .ok (.lload_n 3, 1) := by decide +kernel
theorem dX5_join_93 : decode cX5_join 93 = .ok (.lconst 0, 1) := by decide +kernel
theorem dX5_join_94 : decode cX5_join 94 = .ok (.lcmp, 1) := by decide +kernel
theorem dX5_join_95 : decode cX5_join 95 = .ok (.ifCond .eq 7, 3) := by decide +kernel
theorem dX5_join_98 : decode cX5_join 98 = .ok (.lconst 1, 1) := by decide +kernel
theorem dX5_join_99 : decode cX5_join 99 = .ok (.goto 4, 3) := by decide +kernel
theorem dX5_join_102 : decode cX5_join 102 = .ok (.lconst 0, 1) := by decide +kernel
theorem dX5_join_103 : decode cX5_join 103 = .ok (.lreturn, 1) := by decide +kernel
theorem dX5_join_104 : decode cX5_join 104 = .ok (.lload_n 1, 1) := by decide +kernel
theorem dX5_join_105 : decode cX5_join 105 = .ok (.lload_n 3, 1) := by decide +kernel
theorem dX5_join_106 : decode cX5_join 106 = .ok (.lcmp, 1) := by decide +kernel
theorem dX5_join_107 : decode cX5_join 107 = .ok (.ifCond .ge 7, 3) := by decide +kernel
theorem dX5_join_110 : decode cX5_join 110 = .ok (.lconst 1, 1) := by decide +kernel
theorem dX5_join_111 : decode cX5_join 111 = .ok (.goto 4, 3) := by decide +kernel
theorem dX5_join_114 : decode cX5_join 114 = .ok (.lconst 0, 1) := by decide +kernel
theorem dX5_join_115 : decode cX5_join 115 = .ok (.lreturn, 1) := by decide +kernel
theorem dX5_join_116 : decode cX5_join 116 = .ok (.lload_n 1, 1) := by decide +kernel
theorem dX5_join_117 : decode cX5_join 117 = .ok (.lload_n 3, 1) := by decide +kernel
theorem dX5_join_118 : decode cX5_join 118 = .ok (.lcmp, 1) := by decide +kernel
theorem dX5_join_119 : decode cX5_join 119 = .ok (.ifCond .gt 7, 3) := by decide +kernel
theorem dX5_join_122 : decode cX5_join 122 = .ok (.lconst 1, 1) := by decide +kernel
theorem dX5_join_123 : decode cX5_join 123 = .ok (.goto 4, 3) := by decide +kernel
theorem dX5_join_126 : decode cX5_join 126 = .ok (.lconst 0, 1) := by decide +kernel
theorem dX5_join_127 : decode cX5_join 127 = .ok (.lreturn, 1) := by decide +kernel
theorem dX5_join_128 : decode cX5_join 128 = .ok (.lload_n 1, 1) := by decide +kernel
theorem dX5_join_129 : decode cX5_join 129 = .ok (.lload_n 3, 1) := by decide +kernel
theorem dX5_join_130 : decode cX5_join 130 = .ok (.lcmp, 1) := by decide +kernel
theorem dX5_join_131 : decode cX5_join 131 = .ok (.ifCond .ne 7, 3) := by decide +kernel
theorem dX5_join_134 : decode cX5_join 134 = .ok (.lconst 1, 1) := by decide +kernel
theorem dX5_join_135 : decode cX5_join 135 = .ok (.goto 4, 3) := by decide +kernel
theorem dX5_join_138 : decode cX5_join 138 = .ok (.lconst 0, 1) := by decide +kernel
theorem dX5_join_139 : decode cX5_join 139 = .ok (.lreturn, 1) := by decide +kernel
theorem dX5_join_140 : decode cX5_join 140 = .ok (.lload_n 1, 1) := by decide +kernel
theorem dX5_join_141 : decode cX5_join 141 = .ok (.lload_n 3, 1) := by decide +kernel
theorem dX5_join_142 : decode cX5_join 142 = .ok (.lcmp, 1) := by decide +kernel
theorem dX5_join_143 : decode cX5_join 143 = .ok (.ifCond .eq 7, 3) := by decide +kernel
theorem dX5_join_146 : decode cX5_join 146 = .ok (.lconst 1, 1) := by decide +kernel
theorem dX5_join_147 : decode cX5_join 147 = .ok (.goto 4, 3) := by decide +kernel
theorem dX5_join_150 : decode cX5_join 150 = .ok (.lconst 0, 1) := by decide +kernel
theorem dX5_join_151 : decode cX5_join 151 = .ok (.lreturn, 1) := by decide +kernel
theorem dX5_join_152 : decode cX5_join 152 = .ok (.lload_n 1, 1) := by decide +kernel
theorem dX5_join_153 : decode cX5_join 153 = .ok (.lload_n 3, 1) := by decide +kernel
theorem dX5_join_154 : decode cX5_join 154 = .ok (.lcmp, 1) := by decide +kernel
theorem dX5_join_155 : decode cX5_join 155 = .ok (.ifCond .lt 7, 3) := by decide +kernel
theorem dX5_join_158 : decode cX5_join 158 = .ok (.lconst 1, 1) := by decide +kernel
theorem dX5_join_159 : decode cX5_join 159 = .ok (.goto 4, 3) := by decide +kernel
theorem dX5_join_162 : decode cX5_join 162 = .ok (.lconst 0, 1) := by decide +kernel
theorem dX5_join_163 : decode cX5_join 163 = .ok (.lreturn, 1) := by decide +kernel
theorem dX5_join_164 : decode cX5_join 164 = .ok (.lload_n 1, 1) := by decide +kernel
theorem dX5_join_165 : decode cX5_join 165 = .ok (.lload_n 3, 1) := by decide +kernel
theorem dX5_join_166 : decode cX5_join 166 = .ok (.lcmp, 1) := by decide +kernel
theorem dX5_join_167 : decode cX5_join 167 = .ok (.ifCond .le 7, 3) := by decide +kernel
theorem dX5_join_170 : decode cX5_join 170 = .ok (.lconst 1, 1) := by decide +kernel
theorem dX5_join_171 : decode cX5_join 171 = .ok (.goto 4, 3) := by decide +kernel
theorem dX5_join_174 : decode cX5_join 174 = .ok (.lconst 0, 1) := by decide +kernel
theorem dX5_join_175 : decode cX5_join 175 = .ok (.lreturn, 1) := by decide +kernel
theorem dX5_join_176 : decode cX5_join 176 = .ok (.lload_n 1, 1) := by decide +kernel
theorem dX5_join_177 : decode cX5_join 177 = .ok (.lload_n 3, 1) := by decide +kernel
theorem dX5_join_178 : decode cX5_join 178 = .ok (.ladd, 1) := by decide +kernel
theorem dX5_join_179 : decode cX5_join 179 = .ok (.lreturn, 1) := by decide +kernel
theorem dX5_join_180 : decode cX5_join 180 = .ok (.lload_n 1, 1) := by decide +kernel
theorem dX5_join_181 : decode cX5_join 181 = .ok (.lload_n 3, 1) := by decide +kernel
theorem dX5_join_182 : decode cX5_join 182 = .ok (.lsub, 1) := by decide +kernel
theorem dX5_join_183 : decode cX5_join 183 = .ok (.lreturn, 1) := by decide +kernel
theorem dX5_join_184 : decode cX5_join 184 = .ok (.lload_n 3, 1) := by decide +kernel
theorem dX5_join_185 : decode cX5_join 185 = .ok (.lconst 0, 1) := by decide +kernel
theorem dX5_join_186 : decode cX5_join 186 = .ok (.lcmp, 1) := by decide +kernel
theorem dX5_join_187 : decode cX5_join 187 = .ok (.ifCond .ne 9, 3) := by decide +kernel
theorem dX5_join_190 : decode cX5_join 190 = .ok (.ldc2_w 42, 3) := by decide +kernel
theorem dX5_join_193 : decode cX5_join 193 = .ok (.goto 6, 3) := by decide +kernel
theorem dX5_join_196 : decode cX5_join 196 = .ok (.lload_n 1, 1) := by decide +kernel
theorem dX5_join_197 : decode cX5_join 197 = .ok (.lload_n 3, 1) := by decide +kernel
theorem dX5_join_198 : decode cX5_join 198 = .ok (.ldiv, 1) := by decide +kernel
theorem dX5_join_199 : decode cX5_join 199 = .ok (.lreturn, 1) := by decide +kernel
theorem dX5_join_200 : decode cX5_join 200 = .ok (.ldc2_w 42, 3) := by decide +kernel
theorem dX5_join_203 : decode cX5_join 203 = .ok (.lreturn, 1) := by decide +kernel
theorem dX5_product_0 : decode cX5_product 0 = .ok (.lload_n 0, 1) := by decide +kernel
theorem dX5_product_1 : decode cX5_product 1 = .ok (.lconst 0, 1) := by decide +kernel
theorem dX5_product_2 : decode cX5_product 2 = .ok (.lcmp, 1) := by decide +kernel
theorem dX5_product_3 : decode cX5_product 3 = .ok (.ifCond .ne 9, 3) := by decide +kernel
theorem dX5_product_6 : decode cX5_product 6 = .ok (.ldc2_w 62, 3) := by decide +kernel
theorem dX5_product_9 : decode cX5_product 9 = .ok (.goto 8, 3) := by decide +kernel
theorem dX5_product_12 : decode cX5_product 12 = .ok (.ldc2_w 62, 3) := by decide +kernel
theorem dX5_product_15 : decode cX5_product 15 = .ok (.lload_n 0, 1) := by decide +kernel
theorem dX5_product_16 : decode cX5_product 16 = .ok (.ldiv, 1) := by decide +kernel
theorem dX5_product_17 : decode cX5_product 17 = .ok (.lstore 4, 2) := by decide +kernel
theorem dX5_product_19 : decode cX5_product 19 = .ok (.lload 4, 2) := by decide +kernel
theorem dX5_product_21 : decode cX5_product 21 = .ok (.lconst 0, 1) := by decide +kernel
theorem dX5_product_22 : decode cX5_product 22 = .ok (.lcmp, 1) := by decide +kernel
theorem dX5_product_23 : decode cX5_product 23 = .ok (.ifCond .ge 9, 3) := by decide +kernel
theorem dX5_product_26 : decode cX5_product 26 = .ok (.lload 4, 2) := by decide +kernel
theorem dX5_product_28 : decode cX5_product 28 = .ok (.lneg, 1) := by decide +kernel
theorem dX5_product_29 : decode cX5_product 29 = .ok (.goto 5, 3) := by decide +kernel
theorem dX5_product_32 : decode cX5_product 32 = .ok (.lload 4, 2) := by decide +kernel
theorem dX5_product_34 : decode cX5_product 34 = .ok (.lstore 6, 2) := by decide +kernel
theorem dX5_product_36 : decode cX5_product 36 = .ok (.lload_n 2, 1) := by decide +kernel
theorem dX5_product_37 : decode cX5_product 37 = .ok (.lload 6, 2) := by decide +kernel
theorem dX5_product_39 : decode cX5_product 39 = .ok (.lcmp, 1) := by decide +kernel
theorem dX5_product_40 : decode cX5_product 40 = .ok (.ifCond .gt 11, 3) := by decide +kernel
theorem dX5_product_43 : decode cX5_product 43 = .ok (.lload_n 2, 1) := by decide +kernel
theorem dX5_product_44 : decode cX5_product 44 = .ok (.lload 6, 2) := by decide +kernel
theorem dX5_product_46 : decode cX5_product 46 = .ok (.lneg, 1) := by decide +kernel
theorem dX5_product_47 : decode cX5_product 47 = .ok (.lcmp, 1) := by decide +kernel
theorem dX5_product_48 : decode cX5_product 48 = .ok (.ifCond .ge 9, 3) := by decide +kernel
theorem dX5_product_51 : decode cX5_product 51 = .ok (.ldc2_w 42, 3) := by decide +kernel
theorem dX5_product_54 : decode cX5_product 54 = .ok (.goto 6, 3) := by decide +kernel
theorem dX5_product_57 : decode cX5_product 57 = .ok (.lload_n 0, 1) := by decide +kernel
theorem dX5_product_58 : decode cX5_product 58 = .ok (.lload_n 2, 1) := by decide +kernel
theorem dX5_product_59 : decode cX5_product 59 = .ok (.lmul, 1) := by decide +kernel
theorem dX5_product_60 : decode cX5_product 60 = .ok (.lreturn, 1) := by decide +kernel
theorem dX6_init_0 : decode cX6_init 0 = .ok (.aload_n 0, 1) := by decide +kernel
theorem dX6_init_1 : decode cX6_init 1 = .ok (.invokespecial 1, 3) := by decide +kernel
theorem dX6_init_4 : decode cX6_init 4 = .ok (.aload_n 0, 1) := by decide +kernel
theorem dX6_init_5 : decode cX6_init 5 = .ok (.sipush 700, 3) := by decide +kernel
theorem dX6_init_8 : decode cX6_init 8 = .ok (.newarray .byte, 2) := by decide +kernel
theorem dX6_init_10 : decode cX6_init 10 = .ok (.putfield 9, 3) := by decide +kernel
theorem dX6_init_13 : decode cX6_init 13 = .ok (.return_, 1) := by decide +kernel
theorem dX6_hasRoom_0 : decode cX6_hasRoom 0 = .ok (.aload_n 0, 1) := by decide +kernel
theorem dX6_hasRoom_1 : decode cX6_hasRoom 1 = .ok (.getfield 13, 3) := by decide +kernel
theorem dX6_hasRoom_4 : decode cX6_hasRoom 4 = .ok (.iload_n 1, 1) := by decide +kernel
theorem dX6_hasRoom_5 : decode cX6_hasRoom 5 = .ok (.iadd, 1) := by decide +kernel
theorem dX6_hasRoom_6 : decode cX6_hasRoom 6 = .ok (.sipush 700, 3) := by decide +kernel
theorem dX6_hasRoom_9 : decode cX6_hasRoom 9 = .ok (.if_icmp .gt 7, 3) := by decide +kernel
theorem dX6_hasRoom_12 : decode cX6_hasRoom 12 = .ok (.iconst 1, 1) := by decide +kernel
theorem dX6_hasRoom_13 : decode cX6_hasRoom 13 = .ok (.goto 4, 3) := by decide +kernel
theorem dX6_hasRoom_16 : decode cX6_hasRoom 16 = .ok (.iconst 0, 1) := by decide +kernel
theorem dX6_hasRoom_17 : decode cX6_hasRoom 17 = .ok (.ireturn, 1) := by decide +kernel
theorem dX6_add_0 : decode cX6_add 0 = .ok (.bipush 24, 2) := by decide +kernel
theorem dX6_add_2 : decode cX6_add 2 = .ok (.istore_n 2, 1) := by decide +kernel
theorem dX6_add_3 : decode cX6_add 3 = .ok (.iload_n 2, 1) := by decide +kernel
theorem dX6_add_4 : decode cX6_add 4 = .ok (.ifCond .lt 49, 3) := by decide +kernel
theorem dX6_add_7 : decode cX6_add 7 = .ok (.aload_n 0, 1) := by decide +kernel
theorem dX6_add_8 : decode cX6_add 8 = .ok (.getfield 13, 3) := by decide +kernel
theorem dX6_add_11 : decode cX6_add 11 = .ok (.ifCond .lt 36, 3) := by decide +kernel
theorem dX6_add_14 : decode cX6_add 14 = .ok (.aload_n 0, 1) := by decide +kernel
theorem dX6_add_15 : decode cX6_add 15 = .ok (.getfield 13, 3) := by decide +kernel
theorem dX6_add_18 : decode cX6_add 18 = .ok (.sipush 700, 3) := by decide +kernel
theorem dX6_add_21 : decode cX6_add 21 = .ok (.if_icmp .ge 26, 3) := by decide +kernel
theorem dX6_add_24 : decode cX6_add 24 = .ok (.aload_n 0, 1) := by decide +kernel
theorem dX6_add_25 : decode cX6_add 25 = .ok (.getfield 9, 3) := by decide +kernel
theorem dX6_add_28 : decode cX6_add 28 = .ok (.aload_n 0, 1) := by decide +kernel
theorem dX6_add_29 : decode cX6_add 29 = .ok (.getfield 13, 3) := by decide +kernel
theorem dX6_add_32 : decode cX6_add 32 = .ok (.iload_n 1, 1) := by decide +kernel
theorem dX6_add_33 : decode cX6_add 33 = .ok (.iload_n 2, 1) := by decide +kernel
theorem dX6_add_34 : decode cX6_add 34 = .ok (.ishr, 1) := by decide +kernel
theorem dX6_add_35 : decode cX6_add 35 = .ok (.i2b, 1) := by decide +kernel
theorem dX6_add_36 : decode cX6_add 36 = .ok (.bastore, 1) := by decide +kernel
theorem dX6_add_37 : decode cX6_add 37 = .ok (.aload_n 0, 1) := by decide +kernel
theorem dX6_add_38 : decode cX6_add 38 = .ok (.dup, 1) := by decide +kernel
theorem dX6_add_39 : decode cX6_add 39 = .ok (.getfield 13, 3) := by decide +kernel
theorem dX6_add_42 : decode cX6_add 42 = .ok (.iconst 1, 1) := by decide +kernel
theorem dX6_add_43 : decode cX6_add 43 = .ok (.iadd, 1) := by decide +kernel
theorem dX6_add_44 : decode cX6_add 44 = .ok (.putfield 13, 3) := by decide +kernel
theorem dX6_add_47 : decode cX6_add 47 = .ok (.iinc 2 (-8), 3) := by decide +kernel
theorem dX6_add_50 : decode cX6_add 50 = .ok (.goto (-47), 3) := by decide +kernel
theorem dX6_add_53 : decode cX6_add 53 = .ok (.return_, 1) := by decide +kernel
theorem dX7_init_0 : decode cX7_init 0 = .ok (.aload_n 0, 1) := by decide +kernel
theorem dX7_init_1 : decode cX7_init 1 = .ok (.invokespecial 3, 3) := by decide +kernel
theorem dX7_init_4 : decode cX7_init 4 = .ok (.aload_n 0, 1) := by decide +kernel
theorem dX7_init_5 : decode cX7_init 5 = .ok (.iconst 0, 1) := by decide +kernel
theorem dX7_init_6 : decode cX7_init 6 = .ok (.putfield 9, 3) := by decide +kernel
theorem dX7_init_9 : decode cX7_init 9 = .ok (.aload_n 0, 1) := by decide +kernel
theorem dX7_init_10 : decode cX7_init 10 = .ok (.iconst (-1), 1) := by decide +kernel
theorem dX7_init_11 : decode cX7_init 11 = .ok (.putfield 15, 3) := by decide +kernel
theorem dX7_init_14 : decode cX7_init 14 = .ok (.aload_n 0, 1) := by decide +kernel
theorem dX7_init_15 : decode cX7_init 15 = .ok (.new 18, 3) := by decide +kernel
theorem dX7_init_18 : decode cX7_init 18 = .ok (.dup, 1) := by decide +kernel
theorem dX7_init_19 : decode cX7_init 19 = .ok (.aload_n 1, 1) := by decide +kernel
theorem dX7_init_20 : decode cX7_init 20 = .ok (.invokespecial 20, 3) := by decide +kernel
theorem dX7_init_23 : decode cX7_init 23 = .ok (.putfield 23, 3) := by decide +kernel
theorem dX7_init_26 : decode cX7_init 26 = .ok (.aload_n 0, 1) := by decide +kernel
theorem dX7_init_27 : decode cX7_init 27 = .ok (.new 27, 3) := by decide +kernel
theorem dX7_init_30 : decode cX7_init 30 = .ok (.dup, 1) := by decide +kernel
theorem dX7_init_31 : decode cX7_init 31 = .ok (.aload_n 0, 1) := by decide +kernel
theorem dX7_init_32 : decode cX7_init 32 = .ok (.getfield 23, 3) := by decide +kernel
theorem dX7_init_35 : decode cX7_init 35 = .ok (.aload_n 2, 1) := by decide +kernel
theorem dX7_init_36 : decode cX7_init 36 = .ok (.getfield 29, 3) := by decide +kernel
theorem dX7_init_39 : decode cX7_init 39 = .ok (.invokespecial 35, 3) := by decide +kernel
theorem dX7_init_42 : decode cX7_init 42 = .ok (.putfield 38, 3) := by decide +kernel
theorem dX7_init_45 : decode cX7_init 45 = .ok (.aload_n 0, 1) := by decide +kernel
theorem dX7_init_46 : decode cX7_init 46 = .ok (.aload_n 2, 1) := by decide +kernel
theorem dX7_init_47 : decode cX7_init 47 = .ok (.putfield 42, 3) := by decide +kernel
theorem dX7_init_50 : decode cX7_init 50 = .ok (.return_, 1) := by decide +kernel
theorem dX7_tell_0 : decode cX7_tell 0 = .ok (.aload_n 0, 1) := by decide +kernel
theorem dX7_tell_1 : decode cX7_tell 1 = .ok (.aload_n 2, 1) := by decide +kernel
theorem dX7_tell_2 : decode cX7_tell 2 = .ok (.putfield 42, 3) := by decide +kernel
theorem dX7_tell_5 : decode cX7_tell 5 = .ok (.aload_n 0, 1) := by decide +kernel
theorem dX7_tell_6 : decode cX7_tell 6 = .ok (.getfield 42, 3) := by decide +kernel
theorem dX7_tell_9 : decode cX7_tell 9 = .ok (.invokevirtual 46, 3) := by decide +kernel
theorem dX7_tell_12 : decode cX7_tell 12 = .ok (.aload_n 0, 1) := by decide +kernel
theorem dX7_tell_13 : decode cX7_tell 13 = .ok (.iconst 0, 1) := by decide +kernel
theorem dX7_tell_14 : decode cX7_tell 14 = .ok (.putfield 9, 3) := by decide +kernel
theorem dX7_tell_17 : decode cX7_tell 17 = .ok (.aload_n 0, 1) := by decide +kernel
theorem dX7_tell_18 : decode cX7_tell 18 = .ok (.iconst (-1), 1) := by decide +kernel
theorem dX7_tell_19 : decode cX7_tell 19 = .ok (.putfield 15, 3) := by decide +kernel
theorem dX7_tell_22 : decode cX7_tell 22 = .ok (.aload_n 0, 1) := by decide +kernel
theorem dX7_tell_23 : decode cX7_tell 23 = .ok (.iconst 0, 1) := by decide +kernel
theorem dX7_tell_24 : decode cX7_tell 24 = .ok (.putfield 49, 3) := by decide +kernel
theorem dX7_tell_27 : decode cX7_tell 27 = .ok (.aload_n 0, 1) := by decide +kernel
theorem dX7_tell_28 : decode cX7_tell 28 = .ok (.getfield 23, 3) := by decide +kernel
theorem dX7_tell_31 : decode cX7_tell 31 = .ok (.iload_n 1, 1) := by decide +kernel
theorem dX7_tell_32 : decode cX7_tell 32 = .ok (.invokevirtual 52, 3) := by decide +kernel
theorem dX7_tell_35 : decode cX7_tell 35 = .ok (.iconst 0, 1) := by decide +kernel
theorem dX7_tell_36 : decode cX7_tell 36 = .ok (.istore_n 3, 1) := by decide +kernel
theorem dX7_tell_37 : decode cX7_tell 37 = .ok (.iload_n 3, 1) := by decide +kernel
theorem dX7_tell_38 : decode cX7_tell 38 = .ok (.sipush 700, 3) := by decide +kernel
theorem dX7_tell_41 : decode cX7_tell 41 = .ok (.if_icmp .gt 48, 3) := by decide +kernel
theorem dX7_tell_44 : decode cX7_tell 44 = .ok (.aload_n 0, 1) := by decide +kernel
theorem dX7_tell_45 : decode cX7_tell 45 = .ok (.getfield 23, 3) := by decide +kernel
theorem dX7_tell_48 : decode cX7_tell 48 = .ok (.getfield 58, 3) := by decide +kernel
theorem dX7_tell_51 : decode cX7_tell 51 = .ok (.ifCond .eq 38, 3) := by decide +kernel
theorem dX7_tell_54 : decode cX7_tell 54 = .ok (.aload_n 0, 1) := by decide +kernel
theorem dX7_tell_55 : decode cX7_tell 55 = .ok (.invokevirtual 61, 3) := by decide +kernel
theorem dX7_tell_58 : decode cX7_tell 58 = .ok (.ifCond .eq 10, 3) := by decide +kernel
theorem dX7_tell_61 : decode cX7_tell 61 = .ok (.aload_n 0, 1) := by decide +kernel
theorem dX7_tell_62 : decode cX7_tell 62 = .ok (.invokevirtual 65, 3) := by decide +kernel
theorem dX7_tell_65 : decode cX7_tell 65 = .ok (.ifCond .ne 5, 3) := by decide +kernel
theorem dX7_tell_68 : decode cX7_tell 68 = .ok (.iconst 0, 1) := by decide +kernel
theorem dX7_tell_69 : decode cX7_tell 69 = .ok (.ireturn, 1) := by decide +kernel
theorem dX7_tell_70 : decode cX7_tell 70 = .ok (.aload_n 0, 1) := by decide +kernel
theorem dX7_tell_71 : decode cX7_tell 71 = .ok (.getfield 42, 3) := by decide +kernel
theorem dX7_tell_74 : decode cX7_tell 74 = .ok (.dup, 1) := by decide +kernel
theorem dX7_tell_75 : decode cX7_tell 75 = .ok (.getfield 68, 3) := by decide +kernel
theorem dX7_tell_78 : decode cX7_tell 78 = .ok (.iconst 1, 1) := by decide +kernel
theorem dX7_tell_79 : decode cX7_tell 79 = .ok (.iadd, 1) := by decide +kernel
theorem dX7_tell_80 : decode cX7_tell 80 = .ok (.putfield 68, 3) := by decide +kernel
theorem dX7_tell_83 : decode cX7_tell 83 = .ok (.iinc 3 1, 3) := by decide +kernel
theorem dX7_tell_86 : decode cX7_tell 86 = .ok (.goto (-49), 3) := by decide +kernel
theorem dX7_tell_89 : decode cX7_tell 89 = .ok (.iconst 1, 1) := by decide +kernel
theorem dX7_tell_90 : decode cX7_tell 90 = .ok (.ireturn, 1) := by decide +kernel
theorem dX7_blame_0 : decode cX7_blame 0 = .ok (.aload_n 0, 1) := by decide +kernel
theorem dX7_blame_1 : decode cX7_blame 1 = .ok (.iload_n 1, 1) := by decide +kernel
theorem dX7_blame_2 : decode cX7_blame 2 = .ok (.putfield 9, 3) := by decide +kernel
theorem dX7_blame_5 : decode cX7_blame 5 = .ok (.aload_n 0, 1) := by decide +kernel
theorem dX7_blame_6 : decode cX7_blame 6 = .ok (.aload_n 0, 1) := by decide +kernel
theorem dX7_blame_7 : decode cX7_blame 7 = .ok (.getfield 23, 3) := by decide +kernel
theorem dX7_blame_10 : decode cX7_blame 10 = .ok (.getfield 71, 3) := by decide +kernel
theorem dX7_blame_13 : decode cX7_blame 13 = .ok (.putfield 15, 3) := by decide +kernel
theorem dX7_blame_16 : decode cX7_blame 16 = .ok (.iconst 0, 1) := by decide +kernel
theorem dX7_blame_17 : decode cX7_blame 17 = .ok (.ireturn, 1) := by decide +kernel
theorem dX7_takeStop_0 : decode cX7_takeStop 0 = .ok (.aload_n 0, 1) := by decide +kernel
theorem dX7_takeStop_1 : decode cX7_takeStop 1 = .ok (.getfield 23, 3) := by decide +kernel
theorem dX7_takeStop_4 : decode cX7_takeStop 4 = .ok (.bipush 17, 2) := by decide +kernel
theorem dX7_takeStop_6 : decode cX7_takeStop 6 = .ok (.invokevirtual 72, 3) := by decide +kernel
theorem dX7_takeStop_9 : decode cX7_takeStop 9 = .ok (.ifCond .ne 9, 3) := by decide +kernel
theorem dX7_takeStop_12 : decode cX7_takeStop 12 = .ok (.aload_n 0, 1) := by decide +kernel
theorem dX7_takeStop_13 : decode cX7_takeStop 13 = .ok (.iconst 1, 1) := by decide +kernel
theorem dX7_takeStop_14 : decode cX7_takeStop 14 = .ok (.invokevirtual 76, 3) := by decide +kernel
theorem dX7_takeStop_17 : decode cX7_takeStop 17 = .ok (.ireturn, 1) := by decide +kernel
theorem dX7_takeStop_18 : decode cX7_takeStop 18 = .ok (.aload_n 0, 1) := by decide +kernel
theorem dX7_takeStop_19 : decode cX7_takeStop 19 = .ok (.getfield 23, 3) := by decide +kernel
theorem dX7_takeStop_22 : decode cX7_takeStop 22 = .ok (.invokevirtual 79, 3) := by decide +kernel
theorem dX7_takeStop_25 : decode cX7_takeStop 25 = .ok (.iconst 1, 1) := by decide +kernel
theorem dX7_takeStop_26 : decode cX7_takeStop 26 = .ok (.ireturn, 1) := by decide +kernel
theorem dX7_takeLine_0 : decode cX7_takeLine 0 = .ok (.aload_n 0, 1) := by decide +kernel
theorem dX7_takeLine_1 : decode cX7_takeLine 1 = .ok (.getfield 23, 3) := by decide +kernel
theorem dX7_takeLine_4 : decode cX7_takeLine 4 = .ok (.getfield 58, 3) := by decide +kernel
theorem dX7_takeLine_7 : decode cX7_takeLine 7 = .ok (.iconst 4, 1) := by decide +kernel
theorem dX7_takeLine_8 : decode cX7_takeLine 8 = .ok (.if_icmp .eq 9, 3) := by decide +kernel
theorem dX7_takeLine_11 : decode cX7_takeLine 11 = .ok (.aload_n 0, 1) := by decide +kernel
theorem dX7_takeLine_12 : decode cX7_takeLine 12 = .ok (.iconst 1, 1) := by decide +kernel
theorem dX7_takeLine_13 : decode cX7_takeLine 13 = .ok (.invokevirtual 76, 3) := by decide +kernel
theorem dX7_takeLine_16 : decode cX7_takeLine 16 = .ok (.ireturn, 1) := by decide +kernel
theorem dX7_takeLine_17 : decode cX7_takeLine 17 = .ok (.aload_n 0, 1) := by decide +kernel
theorem dX7_takeLine_18 : decode cX7_takeLine 18 = .ok (.getfield 23, 3) := by decide +kernel
theorem dX7_takeLine_21 : decode cX7_takeLine 21 = .ok (.getfield 82, 3) := by decide +kernel
theorem dX7_takeLine_24 : decode cX7_takeLine 24 = .ok (.tableswitch 79 0 6 #[44, 49, 54, 59, 64, 69, 74], 44) := by decide +kernel
theorem dX7_takeLine_68 : decode cX7_takeLine 68 = .ok (.aload_n 0, 1) := by decide +kernel
theorem dX7_takeLine_69 : decode cX7_takeLine 69 = .ok (.invokevirtual 85, 3) := by decide +kernel
theorem dX7_takeLine_72 : decode cX7_takeLine 72 = .ok (.ireturn, 1) := by decide +kernel
theorem dX7_takeLine_73 : decode cX7_takeLine 73 = .ok (.aload_n 0, 1) := by decide +kernel
theorem dX7_takeLine_74 : decode cX7_takeLine 74 = .ok (.invokevirtual 88, 3) := by decide +kernel
theorem dX7_takeLine_77 : decode cX7_takeLine 77 = .ok (.ireturn, 1) := by decide +kernel
theorem dX7_takeLine_78 : decode cX7_takeLine 78 = .ok (.aload_n 0, 1) := by decide +kernel
theorem dX7_takeLine_79 : decode cX7_takeLine 79 = .ok (.invokevirtual 91, 3) := by decide +kernel
theorem dX7_takeLine_82 : decode cX7_takeLine 82 = .ok (.ireturn, 1) := by decide +kernel
theorem dX7_takeLine_83 : decode cX7_takeLine 83 = .ok (.aload_n 0, 1) := by decide +kernel
theorem dX7_takeLine_84 : decode cX7_takeLine 84 = .ok (.invokevirtual 94, 3) := by decide +kernel
theorem dX7_takeLine_87 : decode cX7_takeLine 87 = .ok (.ireturn, 1) := by decide +kernel
theorem dX7_takeLine_88 : decode cX7_takeLine 88 = .ok (.aload_n 0, 1) := by decide +kernel
theorem dX7_takeLine_89 : decode cX7_takeLine 89 = .ok (.invokevirtual 97, 3) := by decide +kernel
theorem dX7_takeLine_92 : decode cX7_takeLine 92 = .ok (.ireturn, 1) := by decide +kernel
theorem dX7_takeLine_93 : decode cX7_takeLine 93 = .ok (.aload_n 0, 1) := by decide +kernel
theorem dX7_takeLine_94 : decode cX7_takeLine 94 = .ok (.invokevirtual 100, 3) := by decide +kernel
theorem dX7_takeLine_97 : decode cX7_takeLine 97 = .ok (.ireturn, 1) := by decide +kernel
theorem dX7_takeLine_98 : decode cX7_takeLine 98 = .ok (.aload_n 0, 1) := by decide +kernel
theorem dX7_takeLine_99 : decode cX7_takeLine 99 = .ok (.invokevirtual 103, 3) := by decide +kernel
theorem dX7_takeLine_102 : decode cX7_takeLine 102 = .ok (.ireturn, 1) := by decide +kernel
theorem dX7_takeLine_103 : decode cX7_takeLine 103 = .ok (.aload_n 0, 1) := by decide +kernel
theorem dX7_takeLine_104 : decode cX7_takeLine 104 = .ok (.iconst 1, 1) := by decide +kernel
theorem dX7_takeLine_105 : decode cX7_takeLine 105 = .ok (.invokevirtual 76, 3) := by decide +kernel
theorem dX7_takeLine_108 : decode cX7_takeLine 108 = .ok (.ireturn, 1) := by decide +kernel
theorem dX7_takeMan_0 : decode cX7_takeMan 0 = .ok (.aload_n 0, 1) := by decide +kernel
theorem dX7_takeMan_1 : decode cX7_takeMan 1 = .ok (.getfield 42, 3) := by decide +kernel
theorem dX7_takeMan_4 : decode cX7_takeMan 4 = .ok (.getfield 106, 3) := by decide +kernel
theorem dX7_takeMan_7 : decode cX7_takeMan 7 = .ok (.istore_n 1, 1) := by decide +kernel
theorem dX7_takeMan_8 : decode cX7_takeMan 8 = .ok (.iload_n 1, 1) := by decide +kernel
theorem dX7_takeMan_9 : decode cX7_takeMan 9 = .ok (.ifCond .lt 9, 3) := by decide +kernel
theorem dX7_takeMan_12 : decode cX7_takeMan 12 = .ok (.iload_n 1, 1) := by decide +kernel
theorem dX7_takeMan_13 : decode cX7_takeMan 13 = .ok (.bipush 6, 2) := by decide +kernel
theorem dX7_takeMan_15 : decode cX7_takeMan 15 = .ok (.if_icmp .lt 9, 3) := by decide +kernel
theorem dX7_takeMan_18 : decode cX7_takeMan 18 = .ok (.aload_n 0, 1) := by decide +kernel
theorem dX7_takeMan_19 : decode cX7_takeMan 19 = .ok (.iconst 2, 1) := by decide +kernel
theorem dX7_takeMan_20 : decode cX7_takeMan 20 = .ok (.invokevirtual 76, 3) := by decide +kernel
theorem dX7_takeMan_23 : decode cX7_takeMan 23 = .ok (.ireturn, 1) := by decide +kernel
theorem dX7_takeMan_24 : decode cX7_takeMan 24 = .ok (.aload_n 0, 1) := by decide +kernel
theorem dX7_takeMan_25 : decode cX7_takeMan 25 = .ok (.getfield 23, 3) := by decide +kernel
theorem dX7_takeMan_28 : decode cX7_takeMan 28 = .ok (.invokevirtual 79, 3) := by decide +kernel
theorem dX7_takeMan_31 : decode cX7_takeMan 31 = .ok (.aload_n 0, 1) := by decide +kernel
theorem dX7_takeMan_32 : decode cX7_takeMan 32 = .ok (.aload_n 0, 1) := by decide +kernel
theorem dX7_takeMan_33 : decode cX7_takeMan 33 = .ok (.getfield 42, 3) := by decide +kernel
theorem dX7_takeMan_36 : decode cX7_takeMan 36 = .ok (.aload_n 0, 1) := by decide +kernel
theorem dX7_takeMan_37 : decode cX7_takeMan 37 = .ok (.getfield 23, 3) := by decide +kernel
theorem dX7_takeMan_40 : decode cX7_takeMan 40 = .ok (.getfield 82, 3) := by decide +kernel
theorem dX7_takeMan_43 : decode cX7_takeMan 43 = .ok (.invokevirtual 109, 3) := by decide +kernel
theorem dX7_takeMan_46 : decode cX7_takeMan 46 = .ok (.invokevirtual 113, 3) := by decide +kernel
theorem dX7_takeMan_49 : decode cX7_takeMan 49 = .ok (.ifCond .ne 5, 3) := by decide +kernel
theorem dX7_takeMan_52 : decode cX7_takeMan 52 = .ok (.iconst 0, 1) := by decide +kernel
theorem dX7_takeMan_53 : decode cX7_takeMan 53 = .ok (.ireturn, 1) := by decide +kernel
theorem dX7_takeMan_54 : decode cX7_takeMan 54 = .ok (.aload_n 0, 1) := by decide +kernel
theorem dX7_takeMan_55 : decode cX7_takeMan 55 = .ok (.getfield 42, 3) := by decide +kernel
theorem dX7_takeMan_58 : decode cX7_takeMan 58 = .ok (.getfield 116, 3) := by decide +kernel
theorem dX7_takeMan_61 : decode cX7_takeMan 61 = .ok (.iload_n 1, 1) := by decide +kernel
theorem dX7_takeMan_62 : decode cX7_takeMan 62 = .ok (.aload_n 0, 1) := by decide +kernel
theorem dX7_takeMan_63 : decode cX7_takeMan 63 = .ok (.getfield 23, 3) := by decide +kernel
theorem dX7_takeMan_66 : decode cX7_takeMan 66 = .ok (.getfield 82, 3) := by decide +kernel
theorem dX7_takeMan_69 : decode cX7_takeMan 69 = .ok (.iastore, 1) := by decide +kernel
theorem dX7_takeMan_70 : decode cX7_takeMan 70 = .ok (.aload_n 0, 1) := by decide +kernel
theorem dX7_takeMan_71 : decode cX7_takeMan 71 = .ok (.getfield 23, 3) := by decide +kernel
theorem dX7_takeMan_74 : decode cX7_takeMan 74 = .ok (.invokevirtual 79, 3) := by decide +kernel
theorem dX7_takeMan_77 : decode cX7_takeMan 77 = .ok (.aload_n 0, 1) := by decide +kernel
theorem dX7_takeMan_78 : decode cX7_takeMan 78 = .ok (.iconst 0, 1) := by decide +kernel
theorem dX7_takeMan_79 : decode cX7_takeMan 79 = .ok (.sipush 999, 3) := by decide +kernel
theorem dX7_takeMan_82 : decode cX7_takeMan 82 = .ok (.invokevirtual 120, 3) := by decide +kernel
theorem dX7_takeMan_85 : decode cX7_takeMan 85 = .ok (.ifCond .ne 5, 3) := by decide +kernel
theorem dX7_takeMan_88 : decode cX7_takeMan 88 = .ok (.iconst 0, 1) := by decide +kernel
theorem dX7_takeMan_89 : decode cX7_takeMan 89 = .ok (.ireturn, 1) := by decide +kernel
theorem dX7_takeMan_90 : decode cX7_takeMan 90 = .ok (.aload_n 0, 1) := by decide +kernel
theorem dX7_takeMan_91 : decode cX7_takeMan 91 = .ok (.getfield 42, 3) := by decide +kernel
theorem dX7_takeMan_94 : decode cX7_takeMan 94 = .ok (.getfield 124, 3) := by decide +kernel
theorem dX7_takeMan_97 : decode cX7_takeMan 97 = .ok (.iload_n 1, 1) := by decide +kernel
theorem dX7_takeMan_98 : decode cX7_takeMan 98 = .ok (.aload_n 0, 1) := by decide +kernel
theorem dX7_takeMan_99 : decode cX7_takeMan 99 = .ok (.getfield 127, 3) := by decide +kernel
theorem dX7_takeMan_102 : decode cX7_takeMan 102 = .ok (.iastore, 1) := by decide +kernel
theorem dX7_takeMan_103 : decode cX7_takeMan 103 = .ok (.aload_n 0, 1) := by decide +kernel
theorem dX7_takeMan_104 : decode cX7_takeMan 104 = .ok (.iconst 0, 1) := by decide +kernel
theorem dX7_takeMan_105 : decode cX7_takeMan 105 = .ok (.bipush 9, 2) := by decide +kernel
theorem dX7_takeMan_107 : decode cX7_takeMan 107 = .ok (.invokevirtual 120, 3) := by decide +kernel
theorem dX7_takeMan_110 : decode cX7_takeMan 110 = .ok (.ifCond .ne 5, 3) := by decide +kernel
theorem dX7_takeMan_113 : decode cX7_takeMan 113 = .ok (.iconst 0, 1) := by decide +kernel
theorem dX7_takeMan_114 : decode cX7_takeMan 114 = .ok (.ireturn, 1) := by decide +kernel
theorem dX7_takeMan_115 : decode cX7_takeMan 115 = .ok (.aload_n 0, 1) := by decide +kernel
theorem dX7_takeMan_116 : decode cX7_takeMan 116 = .ok (.getfield 42, 3) := by decide +kernel
theorem dX7_takeMan_119 : decode cX7_takeMan 119 = .ok (.getfield 130, 3) := by decide +kernel
theorem dX7_takeMan_122 : decode cX7_takeMan 122 = .ok (.iload_n 1, 1) := by decide +kernel
theorem dX7_takeMan_123 : decode cX7_takeMan 123 = .ok (.aload_n 0, 1) := by decide +kernel
theorem dX7_takeMan_124 : decode cX7_takeMan 124 = .ok (.getfield 127, 3) := by decide +kernel
theorem dX7_takeMan_127 : decode cX7_takeMan 127 = .ok (.iastore, 1) := by decide +kernel
theorem dX7_takeMan_128 : decode cX7_takeMan 128 = .ok (.aload_n 0, 1) := by decide +kernel
theorem dX7_takeMan_129 : decode cX7_takeMan 129 = .ok (.getfield 42, 3) := by decide +kernel
theorem dX7_takeMan_132 : decode cX7_takeMan 132 = .ok (.dup, 1) := by decide +kernel
theorem dX7_takeMan_133 : decode cX7_takeMan 133 = .ok (.getfield 106, 3) := by decide +kernel
theorem dX7_takeMan_136 : decode cX7_takeMan 136 = .ok (.iconst 1, 1) := by decide +kernel
theorem dX7_takeMan_137 : decode cX7_takeMan 137 = .ok (.iadd, 1) := by decide +kernel
theorem dX7_takeMan_138 : decode cX7_takeMan 138 = .ok (.putfield 106, 3) := by decide +kernel
theorem dX7_takeMan_141 : decode cX7_takeMan 141 = .ok (.iconst 1, 1) := by decide +kernel
theorem dX7_takeMan_142 : decode cX7_takeMan 142 = .ok (.ireturn, 1) := by decide +kernel
theorem dX7_takeReader_0 : decode cX7_takeReader 0 = .ok (.aload_n 0, 1) := by decide +kernel
theorem dX7_takeReader_1 : decode cX7_takeReader 1 = .ok (.getfield 42, 3) := by decide +kernel
theorem dX7_takeReader_4 : decode cX7_takeReader 4 = .ok (.getfield 133, 3) := by decide +kernel
theorem dX7_takeReader_7 : decode cX7_takeReader 7 = .ok (.istore_n 1, 1) := by decide +kernel
theorem dX7_takeReader_8 : decode cX7_takeReader 8 = .ok (.iload_n 1, 1) := by decide +kernel
theorem dX7_takeReader_9 : decode cX7_takeReader 9 = .ok (.ifCond .lt 8, 3) := by decide +kernel
theorem dX7_takeReader_12 : decode cX7_takeReader 12 = .ok (.iload_n 1, 1) := by decide +kernel
theorem dX7_takeReader_13 : decode cX7_takeReader 13 = .ok (.iconst 4, 1) := by decide +kernel
theorem dX7_takeReader_14 : decode cX7_takeReader 14 = .ok (.if_icmp .lt 9, 3) := by decide +kernel
theorem dX7_takeReader_17 : decode cX7_takeReader 17 = .ok (.aload_n 0, 1) := by decide +kernel
theorem dX7_takeReader_18 : decode cX7_takeReader 18 = .ok (.iconst 2, 1) := by decide +kernel
theorem dX7_takeReader_19 : decode cX7_takeReader 19 = .ok (.invokevirtual 76, 3) := by decide +kernel
theorem dX7_takeReader_22 : decode cX7_takeReader 22 = .ok (.ireturn, 1) := by decide +kernel
theorem dX7_takeReader_23 : decode cX7_takeReader 23 = .ok (.aload_n 0, 1) := by decide +kernel
theorem dX7_takeReader_24 : decode cX7_takeReader 24 = .ok (.getfield 23, 3) := by decide +kernel
theorem dX7_takeReader_27 : decode cX7_takeReader 27 = .ok (.invokevirtual 79, 3) := by decide +kernel
theorem dX7_takeReader_30 : decode cX7_takeReader 30 = .ok (.aload_n 0, 1) := by decide +kernel
theorem dX7_takeReader_31 : decode cX7_takeReader 31 = .ok (.aload_n 0, 1) := by decide +kernel
theorem dX7_takeReader_32 : decode cX7_takeReader 32 = .ok (.getfield 42, 3) := by decide +kernel
theorem dX7_takeReader_35 : decode cX7_takeReader 35 = .ok (.aload_n 0, 1) := by decide +kernel
theorem dX7_takeReader_36 : decode cX7_takeReader 36 = .ok (.getfield 23, 3) := by decide +kernel
theorem dX7_takeReader_39 : decode cX7_takeReader 39 = .ok (.getfield 82, 3) := by decide +kernel
theorem dX7_takeReader_42 : decode cX7_takeReader 42 = .ok (.invokevirtual 136, 3) := by decide +kernel
theorem dX7_takeReader_45 : decode cX7_takeReader 45 = .ok (.invokevirtual 113, 3) := by decide +kernel
theorem dX7_takeReader_48 : decode cX7_takeReader 48 = .ok (.ifCond .ne 5, 3) := by decide +kernel
theorem dX7_takeReader_51 : decode cX7_takeReader 51 = .ok (.iconst 0, 1) := by decide +kernel
theorem dX7_takeReader_52 : decode cX7_takeReader 52 = .ok (.ireturn, 1) := by decide +kernel
theorem dX7_takeReader_53 : decode cX7_takeReader 53 = .ok (.aload_n 0, 1) := by decide +kernel
theorem dX7_takeReader_54 : decode cX7_takeReader 54 = .ok (.getfield 42, 3) := by decide +kernel
theorem dX7_takeReader_57 : decode cX7_takeReader 57 = .ok (.getfield 139, 3) := by decide +kernel
theorem dX7_takeReader_60 : decode cX7_takeReader 60 = .ok (.iload_n 1, 1) := by decide +kernel
theorem dX7_takeReader_61 : decode cX7_takeReader 61 = .ok (.aload_n 0, 1) := by decide +kernel
theorem dX7_takeReader_62 : decode cX7_takeReader 62 = .ok (.getfield 23, 3) := by decide +kernel
theorem dX7_takeReader_65 : decode cX7_takeReader 65 = .ok (.getfield 82, 3) := by decide +kernel
theorem dX7_takeReader_68 : decode cX7_takeReader 68 = .ok (.iastore, 1) := by decide +kernel
theorem dX7_takeReader_69 : decode cX7_takeReader 69 = .ok (.aload_n 0, 1) := by decide +kernel
theorem dX7_takeReader_70 : decode cX7_takeReader 70 = .ok (.getfield 23, 3) := by decide +kernel
theorem dX7_takeReader_73 : decode cX7_takeReader 73 = .ok (.invokevirtual 79, 3) := by decide +kernel
theorem dX7_takeReader_76 : decode cX7_takeReader 76 = .ok (.aload_n 0, 1) := by decide +kernel
theorem dX7_takeReader_77 : decode cX7_takeReader 77 = .ok (.iconst 0, 1) := by decide +kernel
theorem dX7_takeReader_78 : decode cX7_takeReader 78 = .ok (.bipush 9, 2) := by decide +kernel
theorem dX7_takeReader_80 : decode cX7_takeReader 80 = .ok (.invokevirtual 120, 3) := by decide +kernel
theorem dX7_takeReader_83 : decode cX7_takeReader 83 = .ok (.ifCond .ne 5, 3) := by decide +kernel
theorem dX7_takeReader_86 : decode cX7_takeReader 86 = .ok (.iconst 0, 1) := by decide +kernel
theorem dX7_takeReader_87 : decode cX7_takeReader 87 = .ok (.ireturn, 1) := by decide +kernel
theorem dX7_takeReader_88 : decode cX7_takeReader 88 = .ok (.aload_n 0, 1) := by decide +kernel
theorem dX7_takeReader_89 : decode cX7_takeReader 89 = .ok (.getfield 42, 3) := by decide +kernel
theorem dX7_takeReader_92 : decode cX7_takeReader 92 = .ok (.getfield 142, 3) := by decide +kernel
theorem dX7_takeReader_95 : decode cX7_takeReader 95 = .ok (.iload_n 1, 1) := by decide +kernel
theorem dX7_takeReader_96 : decode cX7_takeReader 96 = .ok (.aload_n 0, 1) := by decide +kernel
theorem dX7_takeReader_97 : decode cX7_takeReader 97 = .ok (.getfield 127, 3) := by decide +kernel
theorem dX7_takeReader_100 : decode cX7_takeReader 100 = .ok (.iastore, 1) := by decide +kernel
theorem dX7_takeReader_101 : decode cX7_takeReader 101 = .ok (.aload_n 0, 1) := by decide +kernel
theorem dX7_takeReader_102 : decode cX7_takeReader 102 = .ok (.iconst 0, 1) := by decide +kernel
theorem dX7_takeReader_103 : decode cX7_takeReader 103 = .ok (.bipush 15, 2) := by decide +kernel
theorem dX7_takeReader_105 : decode cX7_takeReader 105 = .ok (.invokevirtual 120, 3) := by decide +kernel
theorem dX7_takeReader_108 : decode cX7_takeReader 108 = .ok (.ifCond .ne 5, 3) := by decide +kernel
theorem dX7_takeReader_111 : decode cX7_takeReader 111 = .ok (.iconst 0, 1) := by decide +kernel
theorem dX7_takeReader_112 : decode cX7_takeReader 112 = .ok (.ireturn, 1) := by decide +kernel
theorem dX7_takeReader_113 : decode cX7_takeReader 113 = .ok (.aload_n 0, 1) := by decide +kernel
theorem dX7_takeReader_114 : decode cX7_takeReader 114 = .ok (.getfield 42, 3) := by decide +kernel
theorem dX7_takeReader_117 : decode cX7_takeReader 117 = .ok (.getfield 145, 3) := by decide +kernel
theorem dX7_takeReader_120 : decode cX7_takeReader 120 = .ok (.iload_n 1, 1) := by decide +kernel
theorem dX7_takeReader_121 : decode cX7_takeReader 121 = .ok (.aload_n 0, 1) := by decide +kernel
theorem dX7_takeReader_122 : decode cX7_takeReader 122 = .ok (.getfield 127, 3) := by decide +kernel
theorem dX7_takeReader_125 : decode cX7_takeReader 125 = .ok (.iastore, 1) := by decide +kernel
theorem dX7_takeReader_126 : decode cX7_takeReader 126 = .ok (.aload_n 0, 1) := by decide +kernel
theorem dX7_takeReader_127 : decode cX7_takeReader 127 = .ok (.getfield 42, 3) := by decide +kernel
theorem dX7_takeReader_130 : decode cX7_takeReader 130 = .ok (.dup, 1) := by decide +kernel
theorem dX7_takeReader_131 : decode cX7_takeReader 131 = .ok (.getfield 133, 3) := by decide +kernel
theorem dX7_takeReader_134 : decode cX7_takeReader 134 = .ok (.iconst 1, 1) := by decide +kernel
theorem dX7_takeReader_135 : decode cX7_takeReader 135 = .ok (.iadd, 1) := by decide +kernel
theorem dX7_takeReader_136 : decode cX7_takeReader 136 = .ok (.putfield 133, 3) := by decide +kernel
theorem dX7_takeReader_139 : decode cX7_takeReader 139 = .ok (.iconst 1, 1) := by decide +kernel
theorem dX7_takeReader_140 : decode cX7_takeReader 140 = .ok (.ireturn, 1) := by decide +kernel
theorem dX7_isNewName_0 : decode cX7_isNewName 0 = .ok (.aload_n 0, 1) := by decide +kernel
theorem dX7_isNewName_1 : decode cX7_isNewName 1 = .ok (.getfield 23, 3) := by decide +kernel
theorem dX7_isNewName_4 : decode cX7_isNewName 4 = .ok (.getfield 58, 3) := by decide +kernel
theorem dX7_isNewName_7 : decode cX7_isNewName 7 = .ok (.iconst 3, 1) := by decide +kernel
theorem dX7_isNewName_8 : decode cX7_isNewName 8 = .ok (.if_icmp .eq 9, 3) := by decide +kernel
theorem dX7_isNewName_11 : decode cX7_isNewName 11 = .ok (.aload_n 0, 1) := by decide +kernel
theorem dX7_isNewName_12 : decode cX7_isNewName 12 = .ok (.iconst 1, 1) := by decide +kernel
theorem dX7_isNewName_13 : decode cX7_isNewName 13 = .ok (.invokevirtual 76, 3) := by decide +kernel
theorem dX7_isNewName_16 : decode cX7_isNewName 16 = .ok (.ireturn, 1) := by decide +kernel
theorem dX7_isNewName_17 : decode cX7_isNewName 17 = .ok (.iload_n 1, 1) := by decide +kernel
theorem dX7_isNewName_18 : decode cX7_isNewName 18 = .ok (.iconst (-1), 1) := by decide +kernel
theorem dX7_isNewName_19 : decode cX7_isNewName 19 = .ok (.if_icmp .eq 11, 3) := by decide +kernel
theorem dX7_isNewName_22 : decode cX7_isNewName 22 = .ok (.aload_n 0, 1) := by decide +kernel
theorem dX7_isNewName_23 : decode cX7_isNewName 23 = .ok (.iconst 3, 1) := by decide +kernel
theorem dX7_isNewName_24 : decode cX7_isNewName 24 = .ok (.invokevirtual 76, 3) := by decide +kernel
theorem dX7_isNewName_27 : decode cX7_isNewName 27 = .ok (.ifCond .eq 7, 3) := by decide +kernel
theorem dX7_isNewName_30 : decode cX7_isNewName 30 = .ok (.iconst 1, 1) := by decide +kernel
theorem dX7_isNewName_31 : decode cX7_isNewName 31 = .ok (.goto 4, 3) := by decide +kernel
theorem dX7_isNewName_34 : decode cX7_isNewName 34 = .ok (.iconst 0, 1) := by decide +kernel
theorem dX7_isNewName_35 : decode cX7_isNewName 35 = .ok (.ireturn, 1) := by decide +kernel
theorem dX7_takeThought_0 : decode cX7_takeThought 0 = .ok (.aload_n 0, 1) := by decide +kernel
theorem dX7_takeThought_1 : decode cX7_takeThought 1 = .ok (.getfield 42, 3) := by decide +kernel
theorem dX7_takeThought_4 : decode cX7_takeThought 4 = .ok (.getfield 148, 3) := by decide +kernel
theorem dX7_takeThought_7 : decode cX7_takeThought 7 = .ok (.istore_n 1, 1) := by decide +kernel
theorem dX7_takeThought_8 : decode cX7_takeThought 8 = .ok (.iload_n 1, 1) := by decide +kernel
theorem dX7_takeThought_9 : decode cX7_takeThought 9 = .ok (.ifCond .lt 9, 3) := by decide +kernel
theorem dX7_takeThought_12 : decode cX7_takeThought 12 = .ok (.iload_n 1, 1) := by decide +kernel
theorem dX7_takeThought_13 : decode cX7_takeThought 13 = .ok (.bipush 12, 2) := by decide +kernel
theorem dX7_takeThought_15 : decode cX7_takeThought 15 = .ok (.if_icmp .lt 9, 3) := by decide +kernel
theorem dX7_takeThought_18 : decode cX7_takeThought 18 = .ok (.aload_n 0, 1) := by decide +kernel
theorem dX7_takeThought_19 : decode cX7_takeThought 19 = .ok (.iconst 2, 1) := by decide +kernel
theorem dX7_takeThought_20 : decode cX7_takeThought 20 = .ok (.invokevirtual 76, 3) := by decide +kernel
theorem dX7_takeThought_23 : decode cX7_takeThought 23 = .ok (.ireturn, 1) := by decide +kernel
theorem dX7_takeThought_24 : decode cX7_takeThought 24 = .ok (.aload_n 0, 1) := by decide +kernel
theorem dX7_takeThought_25 : decode cX7_takeThought 25 = .ok (.getfield 23, 3) := by decide +kernel
theorem dX7_takeThought_28 : decode cX7_takeThought 28 = .ok (.invokevirtual 79, 3) := by decide +kernel
theorem dX7_takeThought_31 : decode cX7_takeThought 31 = .ok (.aload_n 0, 1) := by decide +kernel
theorem dX7_takeThought_32 : decode cX7_takeThought 32 = .ok (.getfield 23, 3) := by decide +kernel
theorem dX7_takeThought_35 : decode cX7_takeThought 35 = .ok (.getfield 58, 3) := by decide +kernel
theorem dX7_takeThought_38 : decode cX7_takeThought 38 = .ok (.iconst 3, 1) := by decide +kernel
theorem dX7_takeThought_39 : decode cX7_takeThought 39 = .ok (.if_icmp .eq 9, 3) := by decide +kernel
theorem dX7_takeThought_42 : decode cX7_takeThought 42 = .ok (.aload_n 0, 1) := by decide +kernel
theorem dX7_takeThought_43 : decode cX7_takeThought 43 = .ok (.iconst 1, 1) := by decide +kernel
theorem dX7_takeThought_44 : decode cX7_takeThought 44 = .ok (.invokevirtual 76, 3) := by decide +kernel
theorem dX7_takeThought_47 : decode cX7_takeThought 47 = .ok (.ireturn, 1) := by decide +kernel
theorem dX7_takeThought_48 : decode cX7_takeThought 48 = .ok (.aload_n 0, 1) := by decide +kernel
theorem dX7_takeThought_49 : decode cX7_takeThought 49 = .ok (.getfield 42, 3) := by decide +kernel
theorem dX7_takeThought_52 : decode cX7_takeThought 52 = .ok (.aload_n 0, 1) := by decide +kernel
theorem dX7_takeThought_53 : decode cX7_takeThought 53 = .ok (.getfield 23, 3) := by decide +kernel
theorem dX7_takeThought_56 : decode cX7_takeThought 56 = .ok (.getfield 82, 3) := by decide +kernel
theorem dX7_takeThought_59 : decode cX7_takeThought 59 = .ok (.invokevirtual 109, 3) := by decide +kernel
theorem dX7_takeThought_62 : decode cX7_takeThought 62 = .ok (.istore_n 2, 1) := by decide +kernel
theorem dX7_takeThought_63 : decode cX7_takeThought 63 = .ok (.iload_n 2, 1) := by decide +kernel
theorem dX7_takeThought_64 : decode cX7_takeThought 64 = .ok (.iconst (-1), 1) := by decide +kernel
theorem dX7_takeThought_65 : decode cX7_takeThought 65 = .ok (.if_icmp .ne 9, 3) := by decide +kernel
theorem dX7_takeThought_68 : decode cX7_takeThought 68 = .ok (.aload_n 0, 1) := by decide +kernel
theorem dX7_takeThought_69 : decode cX7_takeThought 69 = .ok (.iconst 4, 1) := by decide +kernel
theorem dX7_takeThought_70 : decode cX7_takeThought 70 = .ok (.invokevirtual 76, 3) := by decide +kernel
theorem dX7_takeThought_73 : decode cX7_takeThought 73 = .ok (.ireturn, 1) := by decide +kernel
theorem dX7_takeThought_74 : decode cX7_takeThought 74 = .ok (.aload_n 0, 1) := by decide +kernel
theorem dX7_takeThought_75 : decode cX7_takeThought 75 = .ok (.getfield 42, 3) := by decide +kernel
theorem dX7_takeThought_78 : decode cX7_takeThought 78 = .ok (.getfield 151, 3) := by decide +kernel
theorem dX7_takeThought_81 : decode cX7_takeThought 81 = .ok (.iload_n 1, 1) := by decide +kernel
theorem dX7_takeThought_82 : decode cX7_takeThought 82 = .ok (.iload_n 2, 1) := by decide +kernel
theorem dX7_takeThought_83 : decode cX7_takeThought 83 = .ok (.iastore, 1) := by decide +kernel
theorem dX7_takeThought_84 : decode cX7_takeThought 84 = .ok (.aload_n 0, 1) := by decide +kernel
theorem dX7_takeThought_85 : decode cX7_takeThought 85 = .ok (.getfield 23, 3) := by decide +kernel
theorem dX7_takeThought_88 : decode cX7_takeThought 88 = .ok (.invokevirtual 79, 3) := by decide +kernel
theorem dX7_takeThought_91 : decode cX7_takeThought 91 = .ok (.aload_n 0, 1) := by decide +kernel
theorem dX7_takeThought_92 : decode cX7_takeThought 92 = .ok (.iconst 1, 1) := by decide +kernel
theorem dX7_takeThought_93 : decode cX7_takeThought 93 = .ok (.bipush 99, 2) := by decide +kernel
theorem dX7_takeThought_95 : decode cX7_takeThought 95 = .ok (.invokevirtual 120, 3) := by decide +kernel
theorem dX7_takeThought_98 : decode cX7_takeThought 98 = .ok (.ifCond .ne 5, 3) := by decide +kernel
theorem dX7_takeThought_101 : decode cX7_takeThought 101 = .ok (.iconst 0, 1) := by decide +kernel
theorem dX7_takeThought_102 : decode cX7_takeThought 102 = .ok (.ireturn, 1) := by decide +kernel
theorem dX7_takeThought_103 : decode cX7_takeThought 103 = .ok (.aload_n 0, 1) := by decide +kernel
theorem dX7_takeThought_104 : decode cX7_takeThought 104 = .ok (.getfield 42, 3) := by decide +kernel
theorem dX7_takeThought_107 : decode cX7_takeThought 107 = .ok (.getfield 154, 3) := by decide +kernel
theorem dX7_takeThought_110 : decode cX7_takeThought 110 = .ok (.iload_n 1, 1) := by decide +kernel
theorem dX7_takeThought_111 : decode cX7_takeThought 111 = .ok (.aload_n 0, 1) := by decide +kernel
theorem dX7_takeThought_112 : decode cX7_takeThought 112 = .ok (.getfield 127, 3) := by decide +kernel
theorem dX7_takeThought_115 : decode cX7_takeThought 115 = .ok (.iastore, 1) := by decide +kernel
theorem dX7_takeThought_116 : decode cX7_takeThought 116 = .ok (.aload_n 0, 1) := by decide +kernel
theorem dX7_takeThought_117 : decode cX7_takeThought 117 = .ok (.iconst 0, 1) := by decide +kernel
theorem dX7_takeThought_118 : decode cX7_takeThought 118 = .ok (.bipush 99, 2) := by decide +kernel
theorem dX7_takeThought_120 : decode cX7_takeThought 120 = .ok (.invokevirtual 120, 3) := by decide +kernel
theorem dX7_takeThought_123 : decode cX7_takeThought 123 = .ok (.ifCond .ne 5, 3) := by decide +kernel
theorem dX7_takeThought_126 : decode cX7_takeThought 126 = .ok (.iconst 0, 1) := by decide +kernel
theorem dX7_takeThought_127 : decode cX7_takeThought 127 = .ok (.ireturn, 1) := by decide +kernel
theorem dX7_takeThought_128 : decode cX7_takeThought 128 = .ok (.aload_n 0, 1) := by decide +kernel
theorem dX7_takeThought_129 : decode cX7_takeThought 129 = .ok (.getfield 42, 3) := by decide +kernel
theorem dX7_takeThought_132 : decode cX7_takeThought 132 = .ok (.getfield 157, 3) := by decide +kernel
theorem dX7_takeThought_135 : decode cX7_takeThought 135 = .ok (.iload_n 1, 1) := by decide +kernel
theorem dX7_takeThought_136 : decode cX7_takeThought 136 = .ok (.aload_n 0, 1) := by decide +kernel
theorem dX7_takeThought_137 : decode cX7_takeThought 137 = .ok (.getfield 127, 3) := by decide +kernel
theorem dX7_takeThought_140 : decode cX7_takeThought 140 = .ok (.iastore, 1) := by decide +kernel
theorem dX7_takeThought_141 : decode cX7_takeThought 141 = .ok (.aload_n 0, 1) := by decide +kernel
theorem dX7_takeThought_142 : decode cX7_takeThought 142 = .ok (.iconst 0, 1) := by decide +kernel
theorem dX7_takeThought_143 : decode cX7_takeThought 143 = .ok (.iconst 3, 1) := by decide +kernel
theorem dX7_takeThought_144 : decode cX7_takeThought 144 = .ok (.invokevirtual 120, 3) := by decide +kernel
theorem dX7_takeThought_147 : decode cX7_takeThought 147 = .ok (.ifCond .ne 5, 3) := by decide +kernel
theorem dX7_takeThought_150 : decode cX7_takeThought 150 = .ok (.iconst 0, 1) := by decide +kernel
theorem dX7_takeThought_151 : decode cX7_takeThought 151 = .ok (.ireturn, 1) := by decide +kernel
theorem dX7_takeThought_152 : decode cX7_takeThought 152 = .ok (.aload_n 0, 1) := by decide +kernel
theorem dX7_takeThought_153 : decode cX7_takeThought 153 = .ok (.getfield 42, 3) := by decide +kernel
theorem dX7_takeThought_156 : decode cX7_takeThought 156 = .ok (.getfield 160, 3) := by decide +kernel
theorem dX7_takeThought_159 : decode cX7_takeThought 159 = .ok (.iload_n 1, 1) := by decide +kernel
theorem dX7_takeThought_160 : decode cX7_takeThought 160 = .ok (.aload_n 0, 1) := by decide +kernel
theorem dX7_takeThought_161 : decode cX7_takeThought 161 = .ok (.getfield 127, 3) := by decide +kernel
theorem dX7_takeThought_164 : decode cX7_takeThought 164 = .ok (.iastore, 1) := by decide +kernel
theorem dX7_takeThought_165 : decode cX7_takeThought 165 = .ok (.aload_n 0, 1) := by decide +kernel
theorem dX7_takeThought_166 : decode cX7_takeThought 166 = .ok (.getfield 42, 3) := by decide +kernel
theorem dX7_takeThought_169 : decode cX7_takeThought 169 = .ok (.dup, 1) := by decide +kernel
theorem dX7_takeThought_170 : decode cX7_takeThought 170 = .ok (.getfield 148, 3) := by decide +kernel
theorem dX7_takeThought_173 : decode cX7_takeThought 173 = .ok (.iconst 1, 1) := by decide +kernel
theorem dX7_takeThought_174 : decode cX7_takeThought 174 = .ok (.iadd, 1) := by decide +kernel
theorem dX7_takeThought_175 : decode cX7_takeThought 175 = .ok (.putfield 148, 3) := by decide +kernel
theorem dX7_takeThought_178 : decode cX7_takeThought 178 = .ok (.iconst 1, 1) := by decide +kernel
theorem dX7_takeThought_179 : decode cX7_takeThought 179 = .ok (.ireturn, 1) := by decide +kernel
theorem dX7_takeRate_0 : decode cX7_takeRate 0 = .ok (.aload_n 0, 1) := by decide +kernel
theorem dX7_takeRate_1 : decode cX7_takeRate 1 = .ok (.invokevirtual 163, 3) := by decide +kernel
theorem dX7_takeRate_4 : decode cX7_takeRate 4 = .ok (.ifCond .eq 13, 3) := by decide +kernel
theorem dX7_takeRate_7 : decode cX7_takeRate 7 = .ok (.aload_n 0, 1) := by decide +kernel
theorem dX7_takeRate_8 : decode cX7_takeRate 8 = .ok (.iconst 0, 1) := by decide +kernel
theorem dX7_takeRate_9 : decode cX7_takeRate 9 = .ok (.bipush 100, 2) := by decide +kernel
theorem dX7_takeRate_11 : decode cX7_takeRate 11 = .ok (.invokevirtual 120, 3) := by decide +kernel
theorem dX7_takeRate_14 : decode cX7_takeRate 14 = .ok (.ifCond .ne 5, 3) := by decide +kernel
theorem dX7_takeRate_17 : decode cX7_takeRate 17 = .ok (.iconst 0, 1) := by decide +kernel
theorem dX7_takeRate_18 : decode cX7_takeRate 18 = .ok (.ireturn, 1) := by decide +kernel
theorem dX7_takeRate_19 : decode cX7_takeRate 19 = .ok (.aload_n 0, 1) := by decide +kernel
theorem dX7_takeRate_20 : decode cX7_takeRate 20 = .ok (.getfield 42, 3) := by decide +kernel
theorem dX7_takeRate_23 : decode cX7_takeRate 23 = .ok (.aload_n 0, 1) := by decide +kernel
theorem dX7_takeRate_24 : decode cX7_takeRate 24 = .ok (.getfield 127, 3) := by decide +kernel
theorem dX7_takeRate_27 : decode cX7_takeRate 27 = .ok (.putfield 166, 3) := by decide +kernel
theorem dX7_takeRate_30 : decode cX7_takeRate 30 = .ok (.iconst 1, 1) := by decide +kernel
theorem dX7_takeRate_31 : decode cX7_takeRate 31 = .ok (.ireturn, 1) := by decide +kernel
theorem dX7_takeDull_0 : decode cX7_takeDull 0 = .ok (.aload_n 0, 1) := by decide +kernel
theorem dX7_takeDull_1 : decode cX7_takeDull 1 = .ok (.invokevirtual 163, 3) := by decide +kernel
theorem dX7_takeDull_4 : decode cX7_takeDull 4 = .ok (.ifCond .eq 13, 3) := by decide +kernel
theorem dX7_takeDull_7 : decode cX7_takeDull 7 = .ok (.aload_n 0, 1) := by decide +kernel
theorem dX7_takeDull_8 : decode cX7_takeDull 8 = .ok (.iconst 1, 1) := by decide +kernel
theorem dX7_takeDull_9 : decode cX7_takeDull 9 = .ok (.bipush 99, 2) := by decide +kernel
theorem dX7_takeDull_11 : decode cX7_takeDull 11 = .ok (.invokevirtual 120, 3) := by decide +kernel
theorem dX7_takeDull_14 : decode cX7_takeDull 14 = .ok (.ifCond .ne 5, 3) := by decide +kernel
theorem dX7_takeDull_17 : decode cX7_takeDull 17 = .ok (.iconst 0, 1) := by decide +kernel
theorem dX7_takeDull_18 : decode cX7_takeDull 18 = .ok (.ireturn, 1) := by decide +kernel
theorem dX7_takeDull_19 : decode cX7_takeDull 19 = .ok (.aload_n 0, 1) := by decide +kernel
theorem dX7_takeDull_20 : decode cX7_takeDull 20 = .ok (.getfield 42, 3) := by decide +kernel
theorem dX7_takeDull_23 : decode cX7_takeDull 23 = .ok (.aload_n 0, 1) := by decide +kernel
theorem dX7_takeDull_24 : decode cX7_takeDull 24 = .ok (.getfield 127, 3) := by decide +kernel
theorem dX7_takeDull_27 : decode cX7_takeDull 27 = .ok (.putfield 169, 3) := by decide +kernel
theorem dX7_takeDull_30 : decode cX7_takeDull 30 = .ok (.iconst 1, 1) := by decide +kernel
theorem dX7_takeDull_31 : decode cX7_takeDull 31 = .ok (.ireturn, 1) := by decide +kernel
theorem dX7_takeSeed_0 : decode cX7_takeSeed 0 = .ok (.aload_n 0, 1) := by decide +kernel
theorem dX7_takeSeed_1 : decode cX7_takeSeed 1 = .ok (.invokevirtual 163, 3) := by decide +kernel
theorem dX7_takeSeed_4 : decode cX7_takeSeed 4 = .ok (.ifCond .eq 13, 3) := by decide +kernel
theorem dX7_takeSeed_7 : decode cX7_takeSeed 7 = .ok (.aload_n 0, 1) := by decide +kernel
theorem dX7_takeSeed_8 : decode cX7_takeSeed 8 = .ok (.iconst 0, 1) := by decide +kernel
theorem dX7_takeSeed_9 : decode cX7_takeSeed 9 = .ok (.ldc 172, 2) := by decide +kernel
theorem dX7_takeSeed_11 : decode cX7_takeSeed 11 = .ok (.invokevirtual 120, 3) := by decide +kernel
theorem dX7_takeSeed_14 : decode cX7_takeSeed 14 = .ok (.ifCond .ne 5, 3) := by decide +kernel
theorem dX7_takeSeed_17 : decode cX7_takeSeed 17 = .ok (.iconst 0, 1) := by decide +kernel
theorem dX7_takeSeed_18 : decode cX7_takeSeed 18 = .ok (.ireturn, 1) := by decide +kernel
theorem dX7_takeSeed_19 : decode cX7_takeSeed 19 = .ok (.aload_n 0, 1) := by decide +kernel
theorem dX7_takeSeed_20 : decode cX7_takeSeed 20 = .ok (.getfield 42, 3) := by decide +kernel
theorem dX7_takeSeed_23 : decode cX7_takeSeed 23 = .ok (.aload_n 0, 1) := by decide +kernel
theorem dX7_takeSeed_24 : decode cX7_takeSeed 24 = .ok (.getfield 127, 3) := by decide +kernel
theorem dX7_takeSeed_27 : decode cX7_takeSeed 27 = .ok (.putfield 173, 3) := by decide +kernel
theorem dX7_takeSeed_30 : decode cX7_takeSeed 30 = .ok (.iconst 1, 1) := by decide +kernel
theorem dX7_takeSeed_31 : decode cX7_takeSeed 31 = .ok (.ireturn, 1) := by decide +kernel
theorem dX7_takeOnce_0 : decode cX7_takeOnce 0 = .ok (.iconst 1, 1) := by decide +kernel
theorem dX7_takeOnce_1 : decode cX7_takeOnce 1 = .ok (.aload_n 0, 1) := by decide +kernel
theorem dX7_takeOnce_2 : decode cX7_takeOnce 2 = .ok (.getfield 23, 3) := by decide +kernel
theorem dX7_takeOnce_5 : decode cX7_takeOnce 5 = .ok (.getfield 82, 3) := by decide +kernel
theorem dX7_takeOnce_8 : decode cX7_takeOnce 8 = .ok (.ishl, 1) := by decide +kernel
theorem dX7_takeOnce_9 : decode cX7_takeOnce 9 = .ok (.istore_n 1, 1) := by decide +kernel
theorem dX7_takeOnce_10 : decode cX7_takeOnce 10 = .ok (.aload_n 0, 1) := by decide +kernel
theorem dX7_takeOnce_11 : decode cX7_takeOnce 11 = .ok (.getfield 49, 3) := by decide +kernel
theorem dX7_takeOnce_14 : decode cX7_takeOnce 14 = .ok (.iload_n 1, 1) := by decide +kernel
theorem dX7_takeOnce_15 : decode cX7_takeOnce 15 = .ok (.iand, 1) := by decide +kernel
theorem dX7_takeOnce_16 : decode cX7_takeOnce 16 = .ok (.ifCond .eq 9, 3) := by decide +kernel
theorem dX7_takeOnce_19 : decode cX7_takeOnce 19 = .ok (.aload_n 0, 1) := by decide +kernel
theorem dX7_takeOnce_20 : decode cX7_takeOnce 20 = .ok (.iconst 3, 1) := by decide +kernel
theorem dX7_takeOnce_21 : decode cX7_takeOnce 21 = .ok (.invokevirtual 76, 3) := by decide +kernel
theorem dX7_takeOnce_24 : decode cX7_takeOnce 24 = .ok (.ireturn, 1) := by decide +kernel
theorem dX7_takeOnce_25 : decode cX7_takeOnce 25 = .ok (.aload_n 0, 1) := by decide +kernel
theorem dX7_takeOnce_26 : decode cX7_takeOnce 26 = .ok (.dup, 1) := by decide +kernel
theorem dX7_takeOnce_27 : decode cX7_takeOnce 27 = .ok (.getfield 49, 3) := by decide +kernel
theorem dX7_takeOnce_30 : decode cX7_takeOnce 30 = .ok (.iload_n 1, 1) := by decide +kernel
theorem dX7_takeOnce_31 : decode cX7_takeOnce 31 = .ok (.ior, 1) := by decide +kernel
theorem dX7_takeOnce_32 : decode cX7_takeOnce 32 = .ok (.putfield 49, 3) := by decide +kernel
theorem dX7_takeOnce_35 : decode cX7_takeOnce 35 = .ok (.aload_n 0, 1) := by decide +kernel
theorem dX7_takeOnce_36 : decode cX7_takeOnce 36 = .ok (.getfield 23, 3) := by decide +kernel
theorem dX7_takeOnce_39 : decode cX7_takeOnce 39 = .ok (.invokevirtual 79, 3) := by decide +kernel
theorem dX7_takeOnce_42 : decode cX7_takeOnce 42 = .ok (.iconst 1, 1) := by decide +kernel
theorem dX7_takeOnce_43 : decode cX7_takeOnce 43 = .ok (.ireturn, 1) := by decide +kernel
theorem dX7_takeNumber_0 : decode cX7_takeNumber 0 = .ok (.aload_n 0, 1) := by decide +kernel
theorem dX7_takeNumber_1 : decode cX7_takeNumber 1 = .ok (.getfield 23, 3) := by decide +kernel
theorem dX7_takeNumber_4 : decode cX7_takeNumber 4 = .ok (.getfield 58, 3) := by decide +kernel
theorem dX7_takeNumber_7 : decode cX7_takeNumber 7 = .ok (.iconst 2, 1) := by decide +kernel
theorem dX7_takeNumber_8 : decode cX7_takeNumber 8 = .ok (.if_icmp .eq 9, 3) := by decide +kernel
theorem dX7_takeNumber_11 : decode cX7_takeNumber 11 = .ok (.aload_n 0, 1) := by decide +kernel
theorem dX7_takeNumber_12 : decode cX7_takeNumber 12 = .ok (.iconst 1, 1) := by decide +kernel
theorem dX7_takeNumber_13 : decode cX7_takeNumber 13 = .ok (.invokevirtual 76, 3) := by decide +kernel
theorem dX7_takeNumber_16 : decode cX7_takeNumber 16 = .ok (.ireturn, 1) := by decide +kernel
theorem dX7_takeNumber_17 : decode cX7_takeNumber 17 = .ok (.aload_n 0, 1) := by decide +kernel
theorem dX7_takeNumber_18 : decode cX7_takeNumber 18 = .ok (.getfield 23, 3) := by decide +kernel
theorem dX7_takeNumber_21 : decode cX7_takeNumber 21 = .ok (.getfield 82, 3) := by decide +kernel
theorem dX7_takeNumber_24 : decode cX7_takeNumber 24 = .ok (.iload_n 1, 1) := by decide +kernel
theorem dX7_takeNumber_25 : decode cX7_takeNumber 25 = .ok (.if_icmp .lt 14, 3) := by decide +kernel
theorem dX7_takeNumber_28 : decode cX7_takeNumber 28 = .ok (.aload_n 0, 1) := by decide +kernel
theorem dX7_takeNumber_29 : decode cX7_takeNumber 29 = .ok (.getfield 23, 3) := by decide +kernel
theorem dX7_takeNumber_32 : decode cX7_takeNumber 32 = .ok (.getfield 82, 3) := by decide +kernel
theorem dX7_takeNumber_35 : decode cX7_takeNumber 35 = .ok (.iload_n 2, 1) := by decide +kernel
theorem dX7_takeNumber_36 : decode cX7_takeNumber 36 = .ok (.if_icmp .le 9, 3) := by decide +kernel
theorem dX7_takeNumber_39 : decode cX7_takeNumber 39 = .ok (.aload_n 0, 1) := by decide +kernel
theorem dX7_takeNumber_40 : decode cX7_takeNumber 40 = .ok (.iconst 2, 1) := by decide +kernel
theorem dX7_takeNumber_41 : decode cX7_takeNumber 41 = .ok (.invokevirtual 76, 3) := by decide +kernel
theorem dX7_takeNumber_44 : decode cX7_takeNumber 44 = .ok (.ireturn, 1) := by decide +kernel
theorem dX7_takeNumber_45 : decode cX7_takeNumber 45 = .ok (.aload_n 0, 1) := by decide +kernel
theorem dX7_takeNumber_46 : decode cX7_takeNumber 46 = .ok (.aload_n 0, 1) := by decide +kernel
theorem dX7_takeNumber_47 : decode cX7_takeNumber 47 = .ok (.getfield 23, 3) := by decide +kernel
theorem dX7_takeNumber_50 : decode cX7_takeNumber 50 = .ok (.getfield 82, 3) := by decide +kernel
theorem dX7_takeNumber_53 : decode cX7_takeNumber 53 = .ok (.putfield 127, 3) := by decide +kernel
theorem dX7_takeNumber_56 : decode cX7_takeNumber 56 = .ok (.aload_n 0, 1) := by decide +kernel
theorem dX7_takeNumber_57 : decode cX7_takeNumber 57 = .ok (.getfield 23, 3) := by decide +kernel
theorem dX7_takeNumber_60 : decode cX7_takeNumber 60 = .ok (.invokevirtual 79, 3) := by decide +kernel
theorem dX7_takeNumber_63 : decode cX7_takeNumber 63 = .ok (.iconst 1, 1) := by decide +kernel
theorem dX7_takeNumber_64 : decode cX7_takeNumber 64 = .ok (.ireturn, 1) := by decide +kernel
theorem dX7_takeLaw_0 : decode cX7_takeLaw 0 = .ok (.aload_n 0, 1) := by decide +kernel
theorem dX7_takeLaw_1 : decode cX7_takeLaw 1 = .ok (.getfield 23, 3) := by decide +kernel
theorem dX7_takeLaw_4 : decode cX7_takeLaw 4 = .ok (.invokevirtual 79, 3) := by decide +kernel
theorem dX7_takeLaw_7 : decode cX7_takeLaw 7 = .ok (.aload_n 0, 1) := by decide +kernel
theorem dX7_takeLaw_8 : decode cX7_takeLaw 8 = .ok (.getfield 23, 3) := by decide +kernel
theorem dX7_takeLaw_11 : decode cX7_takeLaw 11 = .ok (.getfield 58, 3) := by decide +kernel
theorem dX7_takeLaw_14 : decode cX7_takeLaw 14 = .ok (.iconst 4, 1) := by decide +kernel
theorem dX7_takeLaw_15 : decode cX7_takeLaw 15 = .ok (.if_icmp .ne 27, 3) := by decide +kernel
theorem dX7_takeLaw_18 : decode cX7_takeLaw 18 = .ok (.aload_n 0, 1) := by decide +kernel
theorem dX7_takeLaw_19 : decode cX7_takeLaw 19 = .ok (.getfield 23, 3) := by decide +kernel
theorem dX7_takeLaw_22 : decode cX7_takeLaw 22 = .ok (.getfield 82, 3) := by decide +kernel
theorem dX7_takeLaw_25 : decode cX7_takeLaw 25 = .ok (.bipush 7, 2) := by decide +kernel
theorem dX7_takeLaw_27 : decode cX7_takeLaw 27 = .ok (.if_icmp .lt 15, 3) := by decide +kernel
theorem dX7_takeLaw_30 : decode cX7_takeLaw 30 = .ok (.aload_n 0, 1) := by decide +kernel
theorem dX7_takeLaw_31 : decode cX7_takeLaw 31 = .ok (.getfield 23, 3) := by decide +kernel
theorem dX7_takeLaw_34 : decode cX7_takeLaw 34 = .ok (.getfield 82, 3) := by decide +kernel
theorem dX7_takeLaw_37 : decode cX7_takeLaw 37 = .ok (.bipush 9, 2) := by decide +kernel
theorem dX7_takeLaw_39 : decode cX7_takeLaw 39 = .ok (.if_icmp .le 9, 3) := by decide +kernel
theorem dX7_takeLaw_42 : decode cX7_takeLaw 42 = .ok (.aload_n 0, 1) := by decide +kernel
theorem dX7_takeLaw_43 : decode cX7_takeLaw 43 = .ok (.iconst 1, 1) := by decide +kernel
theorem dX7_takeLaw_44 : decode cX7_takeLaw 44 = .ok (.invokevirtual 76, 3) := by decide +kernel
theorem dX7_takeLaw_47 : decode cX7_takeLaw 47 = .ok (.ireturn, 1) := by decide +kernel
theorem dX7_takeLaw_48 : decode cX7_takeLaw 48 = .ok (.aload_n 0, 1) := by decide +kernel
theorem dX7_takeLaw_49 : decode cX7_takeLaw 49 = .ok (.getfield 23, 3) := by decide +kernel
theorem dX7_takeLaw_52 : decode cX7_takeLaw 52 = .ok (.getfield 82, 3) := by decide +kernel
theorem dX7_takeLaw_55 : decode cX7_takeLaw 55 = .ok (.bipush 7, 2) := by decide +kernel
theorem dX7_takeLaw_57 : decode cX7_takeLaw 57 = .ok (.isub, 1) := by decide +kernel
theorem dX7_takeLaw_58 : decode cX7_takeLaw 58 = .ok (.istore_n 1, 1) := by decide +kernel
theorem dX7_takeLaw_59 : decode cX7_takeLaw 59 = .ok (.aload_n 0, 1) := by decide +kernel
theorem dX7_takeLaw_60 : decode cX7_takeLaw 60 = .ok (.getfield 42, 3) := by decide +kernel
theorem dX7_takeLaw_63 : decode cX7_takeLaw 63 = .ok (.getfield 29, 3) := by decide +kernel
theorem dX7_takeLaw_66 : decode cX7_takeLaw 66 = .ok (.iload_n 1, 1) := by decide +kernel
theorem dX7_takeLaw_67 : decode cX7_takeLaw 67 = .ok (.invokevirtual 176, 3) := by decide +kernel
theorem dX7_takeLaw_70 : decode cX7_takeLaw 70 = .ok (.ifCond .eq 9, 3) := by decide +kernel
theorem dX7_takeLaw_73 : decode cX7_takeLaw 73 = .ok (.aload_n 0, 1) := by decide +kernel
theorem dX7_takeLaw_74 : decode cX7_takeLaw 74 = .ok (.iconst 3, 1) := by decide +kernel
theorem dX7_takeLaw_75 : decode cX7_takeLaw 75 = .ok (.invokevirtual 76, 3) := by decide +kernel
theorem dX7_takeLaw_78 : decode cX7_takeLaw 78 = .ok (.ireturn, 1) := by decide +kernel
theorem dX7_takeLaw_79 : decode cX7_takeLaw 79 = .ok (.aload_n 0, 1) := by decide +kernel
theorem dX7_takeLaw_80 : decode cX7_takeLaw 80 = .ok (.getfield 23, 3) := by decide +kernel
theorem dX7_takeLaw_83 : decode cX7_takeLaw 83 = .ok (.invokevirtual 79, 3) := by decide +kernel
theorem dX7_takeLaw_86 : decode cX7_takeLaw 86 = .ok (.aload_n 0, 1) := by decide +kernel
theorem dX7_takeLaw_87 : decode cX7_takeLaw 87 = .ok (.getfield 38, 3) := by decide +kernel
theorem dX7_takeLaw_90 : decode cX7_takeLaw 90 = .ok (.aload_n 0, 1) := by decide +kernel
theorem dX7_takeLaw_91 : decode cX7_takeLaw 91 = .ok (.getfield 42, 3) := by decide +kernel
theorem dX7_takeLaw_94 : decode cX7_takeLaw 94 = .ok (.getfield 29, 3) := by decide +kernel
theorem dX7_takeLaw_97 : decode cX7_takeLaw 97 = .ok (.iload_n 1, 1) := by decide +kernel
theorem dX7_takeLaw_98 : decode cX7_takeLaw 98 = .ok (.invokevirtual 181, 3) := by decide +kernel
theorem dX7_takeLaw_101 : decode cX7_takeLaw 101 = .ok (.istore_n 2, 1) := by decide +kernel
theorem dX7_takeLaw_102 : decode cX7_takeLaw 102 = .ok (.iload_n 2, 1) := by decide +kernel
theorem dX7_takeLaw_103 : decode cX7_takeLaw 103 = .ok (.ifCond .eq 11, 3) := by decide +kernel
theorem dX7_takeLaw_106 : decode cX7_takeLaw 106 = .ok (.aload_n 0, 1) := by decide +kernel
theorem dX7_takeLaw_107 : decode cX7_takeLaw 107 = .ok (.iload_n 2, 1) := by decide +kernel
theorem dX7_takeLaw_108 : decode cX7_takeLaw 108 = .ok (.invokevirtual 76, 3) := by decide +kernel
theorem dX7_takeLaw_111 : decode cX7_takeLaw 111 = .ok (.ifCond .eq 7, 3) := by decide +kernel
theorem dX7_takeLaw_114 : decode cX7_takeLaw 114 = .ok (.iconst 1, 1) := by decide +kernel
theorem dX7_takeLaw_115 : decode cX7_takeLaw 115 = .ok (.goto 4, 3) := by decide +kernel
theorem dX7_takeLaw_118 : decode cX7_takeLaw 118 = .ok (.iconst 0, 1) := by decide +kernel
theorem dX7_takeLaw_119 : decode cX7_takeLaw 119 = .ok (.ireturn, 1) := by decide +kernel
theorem dX8_init_0 : decode cX8_init 0 = .ok (.aload_n 0, 1) := by decide +kernel
theorem dX8_init_1 : decode cX8_init 1 = .ok (.invokespecial 3, 3) := by decide +kernel
theorem dX8_init_4 : decode cX8_init 4 = .ok (.aload_n 0, 1) := by decide +kernel
theorem dX8_init_5 : decode cX8_init 5 = .ok (.aload_n 1, 1) := by decide +kernel
theorem dX8_init_6 : decode cX8_init 6 = .ok (.putfield 9, 3) := by decide +kernel
theorem dX8_init_9 : decode cX8_init 9 = .ok (.return_, 1) := by decide +kernel
theorem dX8_start_0 : decode cX8_start 0 = .ok (.aload_n 0, 1) := by decide +kernel
theorem dX8_start_1 : decode cX8_start 1 = .ok (.iload_n 1, 1) := by decide +kernel
theorem dX8_start_2 : decode cX8_start 2 = .ok (.putfield 15, 3) := by decide +kernel
theorem dX8_start_5 : decode cX8_start 5 = .ok (.aload_n 0, 1) := by decide +kernel
theorem dX8_start_6 : decode cX8_start 6 = .ok (.iconst 0, 1) := by decide +kernel
theorem dX8_start_7 : decode cX8_start 7 = .ok (.putfield 19, 3) := by decide +kernel
theorem dX8_start_10 : decode cX8_start 10 = .ok (.aload_n 0, 1) := by decide +kernel
theorem dX8_start_11 : decode cX8_start 11 = .ok (.invokevirtual 22, 3) := by decide +kernel
theorem dX8_start_14 : decode cX8_start 14 = .ok (.return_, 1) := by decide +kernel
theorem dX8_isWord_0 : decode cX8_isWord 0 = .ok (.aload_n 0, 1) := by decide +kernel
theorem dX8_isWord_1 : decode cX8_isWord 1 = .ok (.getfield 25, 3) := by decide +kernel
theorem dX8_isWord_4 : decode cX8_isWord 4 = .ok (.iconst 4, 1) := by decide +kernel
theorem dX8_isWord_5 : decode cX8_isWord 5 = .ok (.if_icmp .ne 15, 3) := by decide +kernel
theorem dX8_isWord_8 : decode cX8_isWord 8 = .ok (.aload_n 0, 1) := by decide +kernel
theorem dX8_isWord_9 : decode cX8_isWord 9 = .ok (.getfield 28, 3) := by decide +kernel
theorem dX8_isWord_12 : decode cX8_isWord 12 = .ok (.iload_n 1, 1) := by decide +kernel
theorem dX8_isWord_13 : decode cX8_isWord 13 = .ok (.if_icmp .ne 7, 3) := by decide +kernel
theorem dX8_isWord_16 : decode cX8_isWord 16 = .ok (.iconst 1, 1) := by decide +kernel
theorem dX8_isWord_17 : decode cX8_isWord 17 = .ok (.goto 4, 3) := by decide +kernel
theorem dX8_isWord_20 : decode cX8_isWord 20 = .ok (.iconst 0, 1) := by decide +kernel
theorem dX8_isWord_21 : decode cX8_isWord 21 = .ok (.ireturn, 1) := by decide +kernel
theorem dX8_isSign_0 : decode cX8_isSign 0 = .ok (.aload_n 0, 1) := by decide +kernel
theorem dX8_isSign_1 : decode cX8_isSign 1 = .ok (.getfield 25, 3) := by decide +kernel
theorem dX8_isSign_4 : decode cX8_isSign 4 = .ok (.iconst 5, 1) := by decide +kernel
theorem dX8_isSign_5 : decode cX8_isSign 5 = .ok (.if_icmp .ne 15, 3) := by decide +kernel
theorem dX8_isSign_8 : decode cX8_isSign 8 = .ok (.aload_n 0, 1) := by decide +kernel
theorem dX8_isSign_9 : decode cX8_isSign 9 = .ok (.getfield 28, 3) := by decide +kernel
theorem dX8_isSign_12 : decode cX8_isSign 12 = .ok (.iload_n 1, 1) := by decide +kernel
theorem dX8_isSign_13 : decode cX8_isSign 13 = .ok (.if_icmp .ne 7, 3) := by decide +kernel
theorem dX8_isSign_16 : decode cX8_isSign 16 = .ok (.iconst 1, 1) := by decide +kernel
theorem dX8_isSign_17 : decode cX8_isSign 17 = .ok (.goto 4, 3) := by decide +kernel
theorem dX8_isSign_20 : decode cX8_isSign 20 = .ok (.iconst 0, 1) := by decide +kernel
theorem dX8_isSign_21 : decode cX8_isSign 21 = .ok (.ireturn, 1) := by decide +kernel
theorem dX8_advance_0 : decode cX8_advance 0 = .ok (.aload_n 0, 1) := by decide +kernel
theorem dX8_advance_1 : decode cX8_advance 1 = .ok (.getfield 19, 3) := by decide +kernel
theorem dX8_advance_4 : decode cX8_advance 4 = .ok (.aload_n 0, 1) := by decide +kernel
theorem dX8_advance_5 : decode cX8_advance 5 = .ok (.getfield 15, 3) := by decide +kernel
theorem dX8_advance_8 : decode cX8_advance 8 = .ok (.if_icmp .ge 42, 3) := by decide +kernel
theorem dX8_advance_11 : decode cX8_advance 11 = .ok (.aload_n 0, 1) := by decide +kernel
theorem dX8_advance_12 : decode cX8_advance 12 = .ok (.aload_n 0, 1) := by decide +kernel
theorem dX8_advance_13 : decode cX8_advance 13 = .ok (.getfield 19, 3) := by decide +kernel
theorem dX8_advance_16 : decode cX8_advance 16 = .ok (.invokevirtual 31, 3) := by decide +kernel
theorem dX8_advance_19 : decode cX8_advance 19 = .ok (.bipush 10, 2) := by decide +kernel
theorem dX8_advance_21 : decode cX8_advance 21 = .ok (.if_icmp .eq 16, 3) := by decide +kernel
theorem dX8_advance_24 : decode cX8_advance 24 = .ok (.aload_n 0, 1) := by decide +kernel
theorem dX8_advance_25 : decode cX8_advance 25 = .ok (.aload_n 0, 1) := by decide +kernel
theorem dX8_advance_26 : decode cX8_advance 26 = .ok (.getfield 19, 3) := by decide +kernel
theorem dX8_advance_29 : decode cX8_advance 29 = .ok (.invokevirtual 31, 3) := by decide +kernel
theorem dX8_advance_32 : decode cX8_advance 32 = .ok (.bipush 32, 2) := by decide +kernel
theorem dX8_advance_34 : decode cX8_advance 34 = .ok (.if_icmp .ne 16, 3) := by decide +kernel
theorem dX8_advance_37 : decode cX8_advance 37 = .ok (.aload_n 0, 1) := by decide +kernel
theorem dX8_advance_38 : decode cX8_advance 38 = .ok (.dup, 1) := by decide +kernel
theorem dX8_advance_39 : decode cX8_advance 39 = .ok (.getfield 19, 3) := by decide +kernel
theorem dX8_advance_42 : decode cX8_advance 42 = .ok (.iconst 1, 1) := by decide +kernel
theorem dX8_advance_43 : decode cX8_advance 43 = .ok (.iadd, 1) := by decide +kernel
theorem dX8_advance_44 : decode cX8_advance 44 = .ok (.putfield 19, 3) := by decide +kernel
theorem dX8_advance_47 : decode cX8_advance 47 = .ok (.goto (-47), 3) := by decide +kernel
theorem dX8_advance_50 : decode cX8_advance 50 = .ok (.aload_n 0, 1) := by decide +kernel
theorem dX8_advance_51 : decode cX8_advance 51 = .ok (.aload_n 0, 1) := by decide +kernel
theorem dX8_advance_52 : decode cX8_advance 52 = .ok (.getfield 19, 3) := by decide +kernel
theorem dX8_advance_55 : decode cX8_advance 55 = .ok (.putfield 35, 3) := by decide +kernel
theorem dX8_advance_58 : decode cX8_advance 58 = .ok (.aload_n 0, 1) := by decide +kernel
theorem dX8_advance_59 : decode cX8_advance 59 = .ok (.aload_n 0, 1) := by decide +kernel
theorem dX8_advance_60 : decode cX8_advance 60 = .ok (.getfield 19, 3) := by decide +kernel
theorem dX8_advance_63 : decode cX8_advance 63 = .ok (.invokevirtual 31, 3) := by decide +kernel
theorem dX8_advance_66 : decode cX8_advance 66 = .ok (.istore_n 1, 1) := by decide +kernel
theorem dX8_advance_67 : decode cX8_advance 67 = .ok (.aload_n 0, 1) := by decide +kernel
theorem dX8_advance_68 : decode cX8_advance 68 = .ok (.getfield 19, 3) := by decide +kernel
theorem dX8_advance_71 : decode cX8_advance 71 = .ok (.aload_n 0, 1) := by decide +kernel
theorem dX8_advance_72 : decode cX8_advance 72 = .ok (.getfield 15, 3) := by decide +kernel
theorem dX8_advance_75 : decode cX8_advance 75 = .ok (.if_icmp .lt 11, 3) := by decide +kernel
theorem dX8_advance_78 : decode cX8_advance 78 = .ok (.aload_n 0, 1) := by decide +kernel
theorem dX8_advance_79 : decode cX8_advance 79 = .ok (.iconst 0, 1) := by decide +kernel
theorem dX8_advance_80 : decode cX8_advance 80 = .ok (.putfield 25, 3) := by decide +kernel
theorem dX8_advance_83 : decode cX8_advance 83 = .ok (.goto 36, 3) := by decide +kernel
theorem dX8_advance_86 : decode cX8_advance 86 = .ok (.iload_n 1, 1) := by decide +kernel
theorem dX8_advance_87 : decode cX8_advance 87 = .ok (.invokestatic 38, 3) := by decide +kernel
theorem dX8_advance_90 : decode cX8_advance 90 = .ok (.ifCond .eq 10, 3) := by decide +kernel
theorem dX8_advance_93 : decode cX8_advance 93 = .ok (.aload_n 0, 1) := by decide +kernel
theorem dX8_advance_94 : decode cX8_advance 94 = .ok (.invokevirtual 42, 3) := by decide +kernel
theorem dX8_advance_97 : decode cX8_advance 97 = .ok (.goto 22, 3) := by decide +kernel
theorem dX8_advance_100 : decode cX8_advance 100 = .ok (.iload_n 1, 1) := by decide +kernel
theorem dX8_advance_101 : decode cX8_advance 101 = .ok (.invokestatic 45, 3) := by decide +kernel
theorem dX8_advance_104 : decode cX8_advance 104 = .ok (.ifCond .eq 10, 3) := by decide +kernel
theorem dX8_advance_107 : decode cX8_advance 107 = .ok (.aload_n 0, 1) := by decide +kernel
theorem dX8_advance_108 : decode cX8_advance 108 = .ok (.invokevirtual 48, 3) := by decide +kernel
theorem dX8_advance_111 : decode cX8_advance 111 = .ok (.goto 8, 3) := by decide +kernel
theorem dX8_advance_114 : decode cX8_advance 114 = .ok (.aload_n 0, 1) := by decide +kernel
theorem dX8_advance_115 : decode cX8_advance 115 = .ok (.iload_n 1, 1) := by decide +kernel
theorem dX8_advance_116 : decode cX8_advance 116 = .ok (.invokevirtual 51, 3) := by decide +kernel
theorem dX8_advance_119 : decode cX8_advance 119 = .ok (.return_, 1) := by decide +kernel
theorem dX8_signAt_0 : decode cX8_signAt 0 = .ok (.iload_n 1, 1) := by decide +kernel
theorem dX8_signAt_1 : decode cX8_signAt 1 = .ok (.ifCond .lt 30, 3) := by decide +kernel
theorem dX8_signAt_4 : decode cX8_signAt 4 = .ok (.iload_n 1, 1) := by decide +kernel
theorem dX8_signAt_5 : decode cX8_signAt 5 = .ok (.aload_n 0, 1) := by decide +kernel
theorem dX8_signAt_6 : decode cX8_signAt 6 = .ok (.getfield 15, 3) := by decide +kernel
theorem dX8_signAt_9 : decode cX8_signAt 9 = .ok (.if_icmp .ge 22, 3) := by decide +kernel
theorem dX8_signAt_12 : decode cX8_signAt 12 = .ok (.iload_n 1, 1) := by decide +kernel
theorem dX8_signAt_13 : decode cX8_signAt 13 = .ok (.sipush 700, 3) := by decide +kernel
theorem dX8_signAt_16 : decode cX8_signAt 16 = .ok (.if_icmp .ge 15, 3) := by decide +kernel
theorem dX8_signAt_19 : decode cX8_signAt 19 = .ok (.aload_n 0, 1) := by decide +kernel
theorem dX8_signAt_20 : decode cX8_signAt 20 = .ok (.getfield 9, 3) := by decide +kernel
theorem dX8_signAt_23 : decode cX8_signAt 23 = .ok (.getfield 57, 3) := by decide +kernel
theorem dX8_signAt_26 : decode cX8_signAt 26 = .ok (.iload_n 1, 1) := by decide +kernel
theorem dX8_signAt_27 : decode cX8_signAt 27 = .ok (.baload, 1) := by decide +kernel
theorem dX8_signAt_28 : decode cX8_signAt 28 = .ok (.goto 4, 3) := by decide +kernel
theorem dX8_signAt_31 : decode cX8_signAt 31 = .ok (.iconst 0, 1) := by decide +kernel
theorem dX8_signAt_32 : decode cX8_signAt 32 = .ok (.ireturn, 1) := by decide +kernel
