theorem dX0_init_0 : decode cX0_init 0 = .ok (.aload_n 0, 1) := by decide +kernel
theorem dX0_init_1 : decode cX0_init 1 = .ok (.invokespecial 3, 3) := by decide +kernel
theorem dX0_init_4 : decode cX0_init 4 = .ok (.aload_n 0, 1) := by decide +kernel
theorem dX0_init_5 : decode cX0_init 5 = .ok (.bipush 42, 2) := by decide +kernel
theorem dX0_init_7 : decode cX0_init 7 = .ok (.newarray .boolean, 2) := by decide +kernel
theorem dX0_init_9 : decode cX0_init 9 = .ok (.putfield 9, 3) := by decide +kernel
theorem dX0_init_12 : decode cX0_init 12 = .ok (.aload_n 0, 1) := by decide +kernel
theorem dX0_init_13 : decode cX0_init 13 = .ok (.bipush 42, 2) := by decide +kernel
theorem dX0_init_15 : decode cX0_init 15 = .ok (.newarray .int, 2) := by decide +kernel
theorem dX0_init_17 : decode cX0_init 17 = .ok (.putfield 15, 3) := by decide +kernel
theorem dX0_init_20 : decode cX0_init 20 = .ok (.aload_n 0, 1) := by decide +kernel
theorem dX0_init_21 : decode cX0_init 21 = .ok (.iconst 0, 1) := by decide +kernel
theorem dX0_init_22 : decode cX0_init 22 = .ok (.putfield 19, 3) := by decide +kernel
theorem dX0_init_25 : decode cX0_init 25 = .ok (.return_, 1) := by decide +kernel
theorem dX0_countWithout_0 : decode cX0_countWithout 0 = .ok (.iconst 0, 1) := by decide +kernel
theorem dX0_countWithout_1 : decode cX0_countWithout 1 = .ok (.istore_n 3, 1) := by decide +kernel
theorem dX0_countWithout_2 : decode cX0_countWithout 2 = .ok (.iload_n 3, 1) := by decide +kernel
theorem dX0_countWithout_3 : decode cX0_countWithout 3 = .ok (.bipush 42, 2) := by decide +kernel
theorem dX0_countWithout_5 : decode cX0_countWithout 5 = .ok (.if_icmp .ge 16, 3) := by decide +kernel
theorem dX0_countWithout_8 : decode cX0_countWithout 8 = .ok (.aload_n 0, 1) := by decide +kernel
theorem dX0_countWithout_9 : decode cX0_countWithout 9 = .ok (.getfield 9, 3) := by decide +kernel
theorem dX0_countWithout_12 : decode cX0_countWithout 12 = .ok (.iload_n 3, 1) := by decide +kernel
theorem dX0_countWithout_13 : decode cX0_countWithout 13 = .ok (.iconst 0, 1) := by decide +kernel
theorem dX0_countWithout_14 : decode cX0_countWithout 14 = .ok (.bastore, 1) := by decide +kernel
theorem dX0_countWithout_15 : decode cX0_countWithout 15 = .ok (.iinc 3 1, 3) := by decide +kernel
theorem dX0_countWithout_18 : decode cX0_countWithout 18 = .ok (.goto (-16), 3) := by decide +kernel
theorem dX0_countWithout_21 : decode cX0_countWithout 21 = .ok (.aload_n 0, 1) := by decide +kernel
theorem dX0_countWithout_22 : decode cX0_countWithout 22 = .ok (.iconst 0, 1) := by decide +kernel
theorem dX0_countWithout_23 : decode cX0_countWithout 23 = .ok (.putfield 19, 3) := by decide +kernel
theorem dX0_countWithout_26 : decode cX0_countWithout 26 = .ok (.aload_n 1, 1) := by decide +kernel
theorem dX0_countWithout_27 : decode cX0_countWithout 27 = .ok (.getfield 23, 3) := by decide +kernel
theorem dX0_countWithout_30 : decode cX0_countWithout 30 = .ok (.iload_n 2, 1) := by decide +kernel
theorem dX0_countWithout_31 : decode cX0_countWithout 31 = .ok (.if_icmp .eq 11, 3) := by decide +kernel
theorem dX0_countWithout_34 : decode cX0_countWithout 34 = .ok (.aload_n 0, 1) := by decide +kernel
theorem dX0_countWithout_35 : decode cX0_countWithout 35 = .ok (.aload_n 1, 1) := by decide +kernel
theorem dX0_countWithout_36 : decode cX0_countWithout 36 = .ok (.getfield 23, 3) := by decide +kernel
theorem dX0_countWithout_39 : decode cX0_countWithout 39 = .ok (.invokevirtual 28, 3) := by decide +kernel
theorem dX0_countWithout_42 : decode cX0_countWithout 42 = .ok (.iconst 0, 1) := by decide +kernel
theorem dX0_countWithout_43 : decode cX0_countWithout 43 = .ok (.istore_n 3, 1) := by decide +kernel
theorem dX0_countWithout_44 : decode cX0_countWithout 44 = .ok (.iload_n 3, 1) := by decide +kernel
theorem dX0_countWithout_45 : decode cX0_countWithout 45 = .ok (.aload_n 0, 1) := by decide +kernel
theorem dX0_countWithout_46 : decode cX0_countWithout 46 = .ok (.getfield 19, 3) := by decide +kernel
theorem dX0_countWithout_49 : decode cX0_countWithout 49 = .ok (.if_icmp .ge 70, 3) := by decide +kernel
theorem dX0_countWithout_52 : decode cX0_countWithout 52 = .ok (.iload_n 3, 1) := by decide +kernel
theorem dX0_countWithout_53 : decode cX0_countWithout 53 = .ok (.bipush 42, 2) := by decide +kernel
theorem dX0_countWithout_55 : decode cX0_countWithout 55 = .ok (.if_icmp .ge 64, 3) := by decide +kernel
theorem dX0_countWithout_58 : decode cX0_countWithout 58 = .ok (.aload_n 0, 1) := by decide +kernel
theorem dX0_countWithout_59 : decode cX0_countWithout 59 = .ok (.getfield 15, 3) := by decide +kernel
theorem dX0_countWithout_62 : decode cX0_countWithout 62 = .ok (.iload_n 3, 1) := by decide +kernel
theorem dX0_countWithout_63 : decode cX0_countWithout 63 = .ok (.iaload, 1) := by decide +kernel
theorem dX0_countWithout_64 : decode cX0_countWithout 64 = .ok (.istore 4, 2) := by decide +kernel
theorem dX0_countWithout_66 : decode cX0_countWithout 66 = .ok (.iconst 0, 1) := by decide +kernel
theorem dX0_countWithout_67 : decode cX0_countWithout 67 = .ok (.istore 5, 2) := by decide +kernel
theorem dX0_countWithout_69 : decode cX0_countWithout 69 = .ok (.iload 5, 2) := by decide +kernel
theorem dX0_countWithout_71 : decode cX0_countWithout 71 = .ok (.iconst 4, 1) := by decide +kernel
theorem dX0_countWithout_72 : decode cX0_countWithout 72 = .ok (.if_icmp .ge 41, 3) := by decide +kernel
theorem dX0_countWithout_75 : decode cX0_countWithout 75 = .ok (.iload 4, 2) := by decide +kernel
theorem dX0_countWithout_77 : decode cX0_countWithout 77 = .ok (.iload 5, 2) := by decide +kernel
theorem dX0_countWithout_79 : decode cX0_countWithout 79 = .ok (.invokestatic 32, 3) := by decide +kernel
theorem dX0_countWithout_82 : decode cX0_countWithout 82 = .ok (.istore 6, 2) := by decide +kernel
theorem dX0_countWithout_84 : decode cX0_countWithout 84 = .ok (.iload 6, 2) := by decide +kernel
theorem dX0_countWithout_86 : decode cX0_countWithout 86 = .ok (.iload_n 2, 1) := by decide +kernel
theorem dX0_countWithout_87 : decode cX0_countWithout 87 = .ok (.if_icmp .eq 20, 3) := by decide +kernel
theorem dX0_countWithout_90 : decode cX0_countWithout 90 = .ok (.aload_n 1, 1) := by decide +kernel
theorem dX0_countWithout_91 : decode cX0_countWithout 91 = .ok (.iload 4, 2) := by decide +kernel
theorem dX0_countWithout_93 : decode cX0_countWithout 93 = .ok (.iload 5, 2) := by decide +kernel
theorem dX0_countWithout_95 : decode cX0_countWithout 95 = .ok (.invokevirtual 36, 3) := by decide +kernel
theorem dX0_countWithout_98 : decode cX0_countWithout 98 = .ok (.ifCond .le 9, 3) := by decide +kernel
theorem dX0_countWithout_101 : decode cX0_countWithout 101 = .ok (.aload_n 0, 1) := by decide +kernel
theorem dX0_countWithout_102 : decode cX0_countWithout 102 = .ok (.iload 6, 2) := by decide +kernel
theorem dX0_countWithout_104 : decode cX0_countWithout 104 = .ok (.invokevirtual 28, 3) := by decide +kernel
theorem dX0_countWithout_107 : decode cX0_countWithout 107 = .ok (.iinc 5 1, 3) := by decide +kernel
theorem dX0_countWithout_110 : decode cX0_countWithout 110 = .ok (.goto (-41), 3) := by decide +kernel
theorem dX0_countWithout_113 : decode cX0_countWithout 113 = .ok (.iinc 3 1, 3) := by decide +kernel
theorem dX0_countWithout_116 : decode cX0_countWithout 116 = .ok (.goto (-72), 3) := by decide +kernel
theorem dX0_countWithout_119 : decode cX0_countWithout 119 = .ok (.aload_n 0, 1) := by decide +kernel
theorem dX0_countWithout_120 : decode cX0_countWithout 120 = .ok (.getfield 19, 3) := by decide +kernel
theorem dX0_countWithout_123 : decode cX0_countWithout 123 = .ok (.ireturn, 1) := by decide +kernel
theorem dX0_isReached_0 : decode cX0_isReached 0 = .ok (.iload_n 1, 1) := by decide +kernel
theorem dX0_isReached_1 : decode cX0_isReached 1 = .ok (.invokestatic 39, 3) := by decide +kernel
theorem dX0_isReached_4 : decode cX0_isReached 4 = .ok (.ifCond .eq 16, 3) := by decide +kernel
theorem dX0_isReached_7 : decode cX0_isReached 7 = .ok (.aload_n 0, 1) := by decide +kernel
theorem dX0_isReached_8 : decode cX0_isReached 8 = .ok (.getfield 9, 3) := by decide +kernel
theorem dX0_isReached_11 : decode cX0_isReached 11 = .ok (.iload_n 1, 1) := by decide +kernel
theorem dX0_isReached_12 : decode cX0_isReached 12 = .ok (.baload, 1) := by decide +kernel
theorem dX0_isReached_13 : decode cX0_isReached 13 = .ok (.ifCond .eq 7, 3) := by decide +kernel
theorem dX0_isReached_16 : decode cX0_isReached 16 = .ok (.iconst 1, 1) := by decide +kernel
theorem dX0_isReached_17 : decode cX0_isReached 17 = .ok (.goto 4, 3) := by decide +kernel
theorem dX0_isReached_20 : decode cX0_isReached 20 = .ok (.iconst 0, 1) := by decide +kernel
theorem dX0_isReached_21 : decode cX0_isReached 21 = .ok (.ireturn, 1) := by decide +kernel
theorem dX0_fallingWithout_0 : decode cX0_fallingWithout 0 = .ok (.aload_n 0, 1) := by decide +kernel
theorem dX0_fallingWithout_1 : decode cX0_fallingWithout 1 = .ok (.aload_n 1, 1) := by decide +kernel
theorem dX0_fallingWithout_2 : decode cX0_fallingWithout 2 = .ok (.iconst (-1), 1) := by decide +kernel
theorem dX0_fallingWithout_3 : decode cX0_fallingWithout 3 = .ok (.invokevirtual 43, 3) := by decide +kernel
theorem dX0_fallingWithout_6 : decode cX0_fallingWithout 6 = .ok (.istore_n 3, 1) := by decide +kernel
theorem dX0_fallingWithout_7 : decode cX0_fallingWithout 7 = .ok (.aload_n 0, 1) := by decide +kernel
theorem dX0_fallingWithout_8 : decode cX0_fallingWithout 8 = .ok (.iload_n 2, 1) := by decide +kernel
theorem dX0_fallingWithout_9 : decode cX0_fallingWithout 9 = .ok (.invokevirtual 47, 3) := by decide +kernel
theorem dX0_fallingWithout_12 : decode cX0_fallingWithout 12 = .ok (.ifCond .ne 5, 3) := by decide +kernel
theorem dX0_fallingWithout_15 : decode cX0_fallingWithout 15 = .ok (.iconst 0, 1) := by decide +kernel
theorem dX0_fallingWithout_16 : decode cX0_fallingWithout 16 = .ok (.ireturn, 1) := by decide +kernel
theorem dX0_fallingWithout_17 : decode cX0_fallingWithout 17 = .ok (.iload_n 3, 1) := by decide +kernel
theorem dX0_fallingWithout_18 : decode cX0_fallingWithout 18 = .ok (.iconst 1, 1) := by decide +kernel
theorem dX0_fallingWithout_19 : decode cX0_fallingWithout 19 = .ok (.isub, 1) := by decide +kernel
theorem dX0_fallingWithout_20 : decode cX0_fallingWithout 20 = .ok (.aload_n 0, 1) := by decide +kernel
theorem dX0_fallingWithout_21 : decode cX0_fallingWithout 21 = .ok (.aload_n 1, 1) := by decide +kernel
theorem dX0_fallingWithout_22 : decode cX0_fallingWithout 22 = .ok (.iload_n 2, 1) := by decide +kernel
theorem dX0_fallingWithout_23 : decode cX0_fallingWithout 23 = .ok (.invokevirtual 43, 3) := by decide +kernel
theorem dX0_fallingWithout_26 : decode cX0_fallingWithout 26 = .ok (.isub, 1) := by decide +kernel
theorem dX0_fallingWithout_27 : decode cX0_fallingWithout 27 = .ok (.ireturn, 1) := by decide +kernel
theorem dX0_reach_0 : decode cX0_reach 0 = .ok (.iload_n 1, 1) := by decide +kernel
theorem dX0_reach_1 : decode cX0_reach 1 = .ok (.invokestatic 39, 3) := by decide +kernel
theorem dX0_reach_4 : decode cX0_reach 4 = .ok (.ifCond .eq 48, 3) := by decide +kernel
theorem dX0_reach_7 : decode cX0_reach 7 = .ok (.aload_n 0, 1) := by decide +kernel
theorem dX0_reach_8 : decode cX0_reach 8 = .ok (.getfield 9, 3) := by decide +kernel
theorem dX0_reach_11 : decode cX0_reach 11 = .ok (.iload_n 1, 1) := by decide +kernel
theorem dX0_reach_12 : decode cX0_reach 12 = .ok (.baload, 1) := by decide +kernel
theorem dX0_reach_13 : decode cX0_reach 13 = .ok (.ifCond .ne 39, 3) := by decide +kernel
theorem dX0_reach_16 : decode cX0_reach 16 = .ok (.aload_n 0, 1) := by decide +kernel
theorem dX0_reach_17 : decode cX0_reach 17 = .ok (.getfield 19, 3) := by decide +kernel
theorem dX0_reach_20 : decode cX0_reach 20 = .ok (.bipush 42, 2) := by decide +kernel
theorem dX0_reach_22 : decode cX0_reach 22 = .ok (.if_icmp .ge 30, 3) := by decide +kernel
theorem dX0_reach_25 : decode cX0_reach 25 = .ok (.aload_n 0, 1) := by decide +kernel
theorem dX0_reach_26 : decode cX0_reach 26 = .ok (.getfield 9, 3) := by decide +kernel
theorem dX0_reach_29 : decode cX0_reach 29 = .ok (.iload_n 1, 1) := by decide +kernel
theorem dX0_reach_30 : decode cX0_reach 30 = .ok (.iconst 1, 1) := by decide +kernel
theorem dX0_reach_31 : decode cX0_reach 31 = .ok (.bastore, 1) := by decide +kernel
theorem dX0_reach_32 : decode cX0_reach 32 = .ok (.aload_n 0, 1) := by decide +kernel
theorem dX0_reach_33 : decode cX0_reach 33 = .ok (.getfield 15, 3) := by decide +kernel
theorem dX0_reach_36 : decode cX0_reach 36 = .ok (.aload_n 0, 1) := by decide +kernel
theorem dX0_reach_37 : decode cX0_reach 37 = .ok (.getfield 19, 3) := by decide +kernel
theorem dX0_reach_40 : decode cX0_reach 40 = .ok (.iload_n 1, 1) := by decide +kernel
theorem dX0_reach_41 : decode cX0_reach 41 = .ok (.iastore, 1) := by decide +kernel
theorem dX0_reach_42 : decode cX0_reach 42 = .ok (.aload_n 0, 1) := by decide +kernel
theorem dX0_reach_43 : decode cX0_reach 43 = .ok (.dup, 1) := by decide +kernel
theorem dX0_reach_44 : decode cX0_reach 44 = .ok (.getfield 19, 3) := by decide +kernel
theorem dX0_reach_47 : decode cX0_reach 47 = .ok (.iconst 1, 1) := by decide +kernel
theorem dX0_reach_48 : decode cX0_reach 48 = .ok (.iadd, 1) := by decide +kernel
theorem dX0_reach_49 : decode cX0_reach 49 = .ok (.putfield 19, 3) := by decide +kernel
theorem dX0_reach_52 : decode cX0_reach 52 = .ok (.return_, 1) := by decide +kernel
theorem dX1_init_0 : decode cX1_init 0 = .ok (.aload_n 0, 1) := by decide +kernel
theorem dX1_init_1 : decode cX1_init 1 = .ok (.invokespecial 3, 3) := by decide +kernel
theorem dX1_init_4 : decode cX1_init 4 = .ok (.aload_n 0, 1) := by decide +kernel
theorem dX1_init_5 : decode cX1_init 5 = .ok (.iconst 4, 1) := by decide +kernel
theorem dX1_init_6 : decode cX1_init 6 = .ok (.newarray .int, 2) := by decide +kernel
theorem dX1_init_8 : decode cX1_init 8 = .ok (.putfield 9, 3) := by decide +kernel
theorem dX1_init_11 : decode cX1_init 11 = .ok (.aload_n 0, 1) := by decide +kernel
theorem dX1_init_12 : decode cX1_init 12 = .ok (.iconst (-1), 1) := by decide +kernel
theorem dX1_init_13 : decode cX1_init 13 = .ok (.putfield 15, 3) := by decide +kernel
theorem dX1_init_16 : decode cX1_init 16 = .ok (.aload_n 0, 1) := by decide +kernel
theorem dX1_init_17 : decode cX1_init 17 = .ok (.iconst (-1), 1) := by decide +kernel
theorem dX1_init_18 : decode cX1_init 18 = .ok (.putfield 19, 3) := by decide +kernel
theorem dX1_init_21 : decode cX1_init 21 = .ok (.return_, 1) := by decide +kernel
theorem dX1_findFrom_0 : decode cX1_findFrom 0 = .ok (.iload_n 2, 1) := by decide +kernel
theorem dX1_findFrom_1 : decode cX1_findFrom 1 = .ok (.ifCond .ge 7, 3) := by decide +kernel
theorem dX1_findFrom_4 : decode cX1_findFrom 4 = .ok (.iconst 0, 1) := by decide +kernel
theorem dX1_findFrom_5 : decode cX1_findFrom 5 = .ok (.goto 4, 3) := by decide +kernel
theorem dX1_findFrom_8 : decode cX1_findFrom 8 = .ok (.iload_n 2, 1) := by decide +kernel
theorem dX1_findFrom_9 : decode cX1_findFrom 9 = .ok (.istore_n 3, 1) := by decide +kernel
theorem dX1_findFrom_10 : decode cX1_findFrom 10 = .ok (.iload_n 3, 1) := by decide +kernel
theorem dX1_findFrom_11 : decode cX1_findFrom 11 = .ok (.bipush 42, 2) := by decide +kernel
theorem dX1_findFrom_13 : decode cX1_findFrom 13 = .ok (.if_icmp .ge 36, 3) := by decide +kernel
theorem dX1_findFrom_16 : decode cX1_findFrom 16 = .ok (.aload_n 0, 1) := by decide +kernel
theorem dX1_findFrom_17 : decode cX1_findFrom 17 = .ok (.aload_n 1, 1) := by decide +kernel
theorem dX1_findFrom_18 : decode cX1_findFrom 18 = .ok (.iload_n 3, 1) := by decide +kernel
theorem dX1_findFrom_19 : decode cX1_findFrom 19 = .ok (.invokevirtual 22, 3) := by decide +kernel
theorem dX1_findFrom_22 : decode cX1_findFrom 22 = .ok (.istore 4, 2) := by decide +kernel
theorem dX1_findFrom_24 : decode cX1_findFrom 24 = .ok (.iload 4, 2) := by decide +kernel
theorem dX1_findFrom_26 : decode cX1_findFrom 26 = .ok (.iconst (-1), 1) := by decide +kernel
theorem dX1_findFrom_27 : decode cX1_findFrom 27 = .ok (.if_icmp .eq 16, 3) := by decide +kernel
theorem dX1_findFrom_30 : decode cX1_findFrom 30 = .ok (.aload_n 0, 1) := by decide +kernel
theorem dX1_findFrom_31 : decode cX1_findFrom 31 = .ok (.iload_n 3, 1) := by decide +kernel
theorem dX1_findFrom_32 : decode cX1_findFrom 32 = .ok (.putfield 15, 3) := by decide +kernel
theorem dX1_findFrom_35 : decode cX1_findFrom 35 = .ok (.aload_n 0, 1) := by decide +kernel
theorem dX1_findFrom_36 : decode cX1_findFrom 36 = .ok (.iload 4, 2) := by decide +kernel
theorem dX1_findFrom_38 : decode cX1_findFrom 38 = .ok (.putfield 19, 3) := by decide +kernel
theorem dX1_findFrom_41 : decode cX1_findFrom 41 = .ok (.iconst 1, 1) := by decide +kernel
theorem dX1_findFrom_42 : decode cX1_findFrom 42 = .ok (.ireturn, 1) := by decide +kernel
theorem dX1_findFrom_43 : decode cX1_findFrom 43 = .ok (.iinc 3 1, 3) := by decide +kernel
theorem dX1_findFrom_46 : decode cX1_findFrom 46 = .ok (.goto (-36), 3) := by decide +kernel
theorem dX1_findFrom_49 : decode cX1_findFrom 49 = .ok (.iconst 0, 1) := by decide +kernel
theorem dX1_findFrom_50 : decode cX1_findFrom 50 = .ok (.ireturn, 1) := by decide +kernel
theorem dX1_letGrow_0 : decode cX1_letGrow 0 = .ok (.iconst 0, 1) := by decide +kernel
theorem dX1_letGrow_1 : decode cX1_letGrow 1 = .ok (.istore_n 3, 1) := by decide +kernel
theorem dX1_letGrow_2 : decode cX1_letGrow 2 = .ok (.iconst 0, 1) := by decide +kernel
theorem dX1_letGrow_3 : decode cX1_letGrow 3 = .ok (.istore 4, 2) := by decide +kernel
theorem dX1_letGrow_5 : decode cX1_letGrow 5 = .ok (.iload 4, 2) := by decide +kernel
theorem dX1_letGrow_7 : decode cX1_letGrow 7 = .ok (.iload_n 2, 1) := by decide +kernel
theorem dX1_letGrow_8 : decode cX1_letGrow 8 = .ok (.if_icmp .ge 48, 3) := by decide +kernel
theorem dX1_letGrow_11 : decode cX1_letGrow 11 = .ok (.aload_n 0, 1) := by decide +kernel
theorem dX1_letGrow_12 : decode cX1_letGrow 12 = .ok (.aload_n 1, 1) := by decide +kernel
theorem dX1_letGrow_13 : decode cX1_letGrow 13 = .ok (.iload_n 3, 1) := by decide +kernel
theorem dX1_letGrow_14 : decode cX1_letGrow 14 = .ok (.invokevirtual 26, 3) := by decide +kernel
theorem dX1_letGrow_17 : decode cX1_letGrow 17 = .ok (.ifCond .eq 39, 3) := by decide +kernel
theorem dX1_letGrow_20 : decode cX1_letGrow 20 = .ok (.aload_n 1, 1) := by decide +kernel
theorem dX1_letGrow_21 : decode cX1_letGrow 21 = .ok (.aload_n 0, 1) := by decide +kernel
theorem dX1_letGrow_22 : decode cX1_letGrow 22 = .ok (.getfield 15, 3) := by decide +kernel
theorem dX1_letGrow_25 : decode cX1_letGrow 25 = .ok (.aload_n 0, 1) := by decide +kernel
theorem dX1_letGrow_26 : decode cX1_letGrow 26 = .ok (.getfield 19, 3) := by decide +kernel
theorem dX1_letGrow_29 : decode cX1_letGrow 29 = .ok (.invokevirtual 30, 3) := by decide +kernel
theorem dX1_letGrow_32 : decode cX1_letGrow 32 = .ok (.aload_n 1, 1) := by decide +kernel
theorem dX1_letGrow_33 : decode cX1_letGrow 33 = .ok (.dup, 1) := by decide +kernel
theorem dX1_letGrow_34 : decode cX1_letGrow 34 = .ok (.getfield 36, 3) := by decide +kernel
theorem dX1_letGrow_37 : decode cX1_letGrow 37 = .ok (.iconst 1, 1) := by decide +kernel
theorem dX1_letGrow_38 : decode cX1_letGrow 38 = .ok (.iadd, 1) := by decide +kernel
theorem dX1_letGrow_39 : decode cX1_letGrow 39 = .ok (.putfield 36, 3) := by decide +kernel
theorem dX1_letGrow_42 : decode cX1_letGrow 42 = .ok (.iinc 4 1, 3) := by decide +kernel
theorem dX1_letGrow_45 : decode cX1_letGrow 45 = .ok (.aload_n 0, 1) := by decide +kernel
theorem dX1_letGrow_46 : decode cX1_letGrow 46 = .ok (.getfield 15, 3) := by decide +kernel
theorem dX1_letGrow_49 : decode cX1_letGrow 49 = .ok (.bipush 7, 2) := by decide +kernel
theorem dX1_letGrow_51 : decode cX1_letGrow 51 = .ok (.isub, 1) := by decide +kernel
theorem dX1_letGrow_52 : decode cX1_letGrow 52 = .ok (.istore_n 3, 1) := by decide +kernel
theorem dX1_letGrow_53 : decode cX1_letGrow 53 = .ok (.goto (-48), 3) := by decide +kernel
theorem dX1_letGrow_56 : decode cX1_letGrow 56 = .ok (.iload 4, 2) := by decide +kernel
theorem dX1_letGrow_58 : decode cX1_letGrow 58 = .ok (.ireturn, 1) := by decide +kernel
theorem dX1_choicesFor_0 : decode cX1_choicesFor 0 = .ok (.aload_n 0, 1) := by decide +kernel
theorem dX1_choicesFor_1 : decode cX1_choicesFor 1 = .ok (.aload_n 1, 1) := by decide +kernel
theorem dX1_choicesFor_2 : decode cX1_choicesFor 2 = .ok (.iload_n 2, 1) := by decide +kernel
theorem dX1_choicesFor_3 : decode cX1_choicesFor 3 = .ok (.invokevirtual 39, 3) := by decide +kernel
theorem dX1_choicesFor_6 : decode cX1_choicesFor 6 = .ok (.pop, 1) := by decide +kernel
theorem dX1_choicesFor_7 : decode cX1_choicesFor 7 = .ok (.iconst 0, 1) := by decide +kernel
theorem dX1_choicesFor_8 : decode cX1_choicesFor 8 = .ok (.istore_n 3, 1) := by decide +kernel
theorem dX1_choicesFor_9 : decode cX1_choicesFor 9 = .ok (.iconst 0, 1) := by decide +kernel
theorem dX1_choicesFor_10 : decode cX1_choicesFor 10 = .ok (.istore 4, 2) := by decide +kernel
theorem dX1_choicesFor_12 : decode cX1_choicesFor 12 = .ok (.iload 4, 2) := by decide +kernel
theorem dX1_choicesFor_14 : decode cX1_choicesFor 14 = .ok (.aload_n 1, 1) := by decide +kernel
theorem dX1_choicesFor_15 : decode cX1_choicesFor 15 = .ok (.getfield 42, 3) := by decide +kernel
theorem dX1_choicesFor_18 : decode cX1_choicesFor 18 = .ok (.iconst 4, 1) := by decide +kernel
theorem dX1_choicesFor_19 : decode cX1_choicesFor 19 = .ok (.imul, 1) := by decide +kernel
theorem dX1_choicesFor_20 : decode cX1_choicesFor 20 = .ok (.if_icmp .ge 26, 3) := by decide +kernel
theorem dX1_choicesFor_23 : decode cX1_choicesFor 23 = .ok (.aload_n 0, 1) := by decide +kernel
theorem dX1_choicesFor_24 : decode cX1_choicesFor 24 = .ok (.aload_n 1, 1) := by decide +kernel
theorem dX1_choicesFor_25 : decode cX1_choicesFor 25 = .ok (.iload 4, 2) := by decide +kernel
theorem dX1_choicesFor_27 : decode cX1_choicesFor 27 = .ok (.invokevirtual 45, 3) := by decide +kernel
theorem dX1_choicesFor_30 : decode cX1_choicesFor 30 = .ok (.aload_n 1, 1) := by decide +kernel
theorem dX1_choicesFor_31 : decode cX1_choicesFor 31 = .ok (.getfield 48, 3) := by decide +kernel
theorem dX1_choicesFor_34 : decode cX1_choicesFor 34 = .ok (.if_icmp .lt 6, 3) := by decide +kernel
theorem dX1_choicesFor_37 : decode cX1_choicesFor 37 = .ok (.iinc 3 1, 3) := by decide +kernel
theorem dX1_choicesFor_40 : decode cX1_choicesFor 40 = .ok (.iinc 4 1, 3) := by decide +kernel
theorem dX1_choicesFor_43 : decode cX1_choicesFor 43 = .ok (.goto (-31), 3) := by decide +kernel
theorem dX1_choicesFor_46 : decode cX1_choicesFor 46 = .ok (.iload_n 3, 1) := by decide +kernel
theorem dX1_choicesFor_47 : decode cX1_choicesFor 47 = .ok (.ireturn, 1) := by decide +kernel
theorem dX1_stuckPlaces_0 : decode cX1_stuckPlaces 0 = .ok (.iconst 0, 1) := by decide +kernel
theorem dX1_stuckPlaces_1 : decode cX1_stuckPlaces 1 = .ok (.istore_n 2, 1) := by decide +kernel
theorem dX1_stuckPlaces_2 : decode cX1_stuckPlaces 2 = .ok (.iconst 0, 1) := by decide +kernel
theorem dX1_stuckPlaces_3 : decode cX1_stuckPlaces 3 = .ok (.istore_n 3, 1) := by decide +kernel
theorem dX1_stuckPlaces_4 : decode cX1_stuckPlaces 4 = .ok (.iload_n 3, 1) := by decide +kernel
theorem dX1_stuckPlaces_5 : decode cX1_stuckPlaces 5 = .ok (.bipush 42, 2) := by decide +kernel
theorem dX1_stuckPlaces_7 : decode cX1_stuckPlaces 7 = .ok (.if_icmp .ge 39, 3) := by decide +kernel
theorem dX1_stuckPlaces_10 : decode cX1_stuckPlaces 10 = .ok (.aload_n 1, 1) := by decide +kernel
theorem dX1_stuckPlaces_11 : decode cX1_stuckPlaces 11 = .ok (.iload_n 3, 1) := by decide +kernel
theorem dX1_stuckPlaces_12 : decode cX1_stuckPlaces 12 = .ok (.invokevirtual 51, 3) := by decide +kernel
theorem dX1_stuckPlaces_15 : decode cX1_stuckPlaces 15 = .ok (.ifCond .eq 25, 3) := by decide +kernel
theorem dX1_stuckPlaces_18 : decode cX1_stuckPlaces 18 = .ok (.aload_n 0, 1) := by decide +kernel
theorem dX1_stuckPlaces_19 : decode cX1_stuckPlaces 19 = .ok (.aload_n 1, 1) := by decide +kernel
theorem dX1_stuckPlaces_20 : decode cX1_stuckPlaces 20 = .ok (.iload_n 3, 1) := by decide +kernel
theorem dX1_stuckPlaces_21 : decode cX1_stuckPlaces 21 = .ok (.invokevirtual 39, 3) := by decide +kernel
theorem dX1_stuckPlaces_24 : decode cX1_stuckPlaces 24 = .ok (.ifCond .eq 16, 3) := by decide +kernel
theorem dX1_stuckPlaces_27 : decode cX1_stuckPlaces 27 = .ok (.aload_n 0, 1) := by decide +kernel
theorem dX1_stuckPlaces_28 : decode cX1_stuckPlaces 28 = .ok (.aload_n 1, 1) := by decide +kernel
theorem dX1_stuckPlaces_29 : decode cX1_stuckPlaces 29 = .ok (.iload_n 3, 1) := by decide +kernel
theorem dX1_stuckPlaces_30 : decode cX1_stuckPlaces 30 = .ok (.invokevirtual 22, 3) := by decide +kernel
theorem dX1_stuckPlaces_33 : decode cX1_stuckPlaces 33 = .ok (.iconst (-1), 1) := by decide +kernel
theorem dX1_stuckPlaces_34 : decode cX1_stuckPlaces 34 = .ok (.if_icmp .ne 6, 3) := by decide +kernel
theorem dX1_stuckPlaces_37 : decode cX1_stuckPlaces 37 = .ok (.iinc 2 1, 3) := by decide +kernel
theorem dX1_stuckPlaces_40 : decode cX1_stuckPlaces 40 = .ok (.iinc 3 1, 3) := by decide +kernel
theorem dX1_stuckPlaces_43 : decode cX1_stuckPlaces 43 = .ok (.goto (-39), 3) := by decide +kernel
theorem dX1_stuckPlaces_46 : decode cX1_stuckPlaces 46 = .ok (.iload_n 2, 1) := by decide +kernel
theorem dX1_stuckPlaces_47 : decode cX1_stuckPlaces 47 = .ok (.ireturn, 1) := by decide +kernel
theorem dX1_bestFor_0 : decode cX1_bestFor 0 = .ok (.aload_n 1, 1) := by decide +kernel
theorem dX1_bestFor_1 : decode cX1_bestFor 1 = .ok (.iload_n 2, 1) := by decide +kernel
theorem dX1_bestFor_2 : decode cX1_bestFor 2 = .ok (.invokevirtual 51, 3) := by decide +kernel
theorem dX1_bestFor_5 : decode cX1_bestFor 5 = .ok (.ifCond .eq 12, 3) := by decide +kernel
theorem dX1_bestFor_8 : decode cX1_bestFor 8 = .ok (.aload_n 0, 1) := by decide +kernel
theorem dX1_bestFor_9 : decode cX1_bestFor 9 = .ok (.aload_n 1, 1) := by decide +kernel
theorem dX1_bestFor_10 : decode cX1_bestFor 10 = .ok (.iload_n 2, 1) := by decide +kernel
theorem dX1_bestFor_11 : decode cX1_bestFor 11 = .ok (.invokevirtual 39, 3) := by decide +kernel
theorem dX1_bestFor_14 : decode cX1_bestFor 14 = .ok (.ifCond .ne 5, 3) := by decide +kernel
theorem dX1_bestFor_17 : decode cX1_bestFor 17 = .ok (.iconst (-1), 1) := by decide +kernel
theorem dX1_bestFor_18 : decode cX1_bestFor 18 = .ok (.ireturn, 1) := by decide +kernel
theorem dX1_bestFor_19 : decode cX1_bestFor 19 = .ok (.iconst (-1), 1) := by decide +kernel
theorem dX1_bestFor_20 : decode cX1_bestFor 20 = .ok (.istore_n 3, 1) := by decide +kernel
theorem dX1_bestFor_21 : decode cX1_bestFor 21 = .ok (.aload_n 1, 1) := by decide +kernel
theorem dX1_bestFor_22 : decode cX1_bestFor 22 = .ok (.getfield 48, 3) := by decide +kernel
theorem dX1_bestFor_25 : decode cX1_bestFor 25 = .ok (.iconst 1, 1) := by decide +kernel
theorem dX1_bestFor_26 : decode cX1_bestFor 26 = .ok (.isub, 1) := by decide +kernel
theorem dX1_bestFor_27 : decode cX1_bestFor 27 = .ok (.istore 4, 2) := by decide +kernel
theorem dX1_bestFor_29 : decode cX1_bestFor 29 = .ok (.iconst 0, 1) := by decide +kernel
theorem dX1_bestFor_30 : decode cX1_bestFor 30 = .ok (.istore 5, 2) := by decide +kernel
theorem dX1_bestFor_32 : decode cX1_bestFor 32 = .ok (.iload 5, 2) := by decide +kernel
theorem dX1_bestFor_34 : decode cX1_bestFor 34 = .ok (.aload_n 1, 1) := by decide +kernel
theorem dX1_bestFor_35 : decode cX1_bestFor 35 = .ok (.getfield 42, 3) := by decide +kernel
theorem dX1_bestFor_38 : decode cX1_bestFor 38 = .ok (.iconst 4, 1) := by decide +kernel
theorem dX1_bestFor_39 : decode cX1_bestFor 39 = .ok (.imul, 1) := by decide +kernel
theorem dX1_bestFor_40 : decode cX1_bestFor 40 = .ok (.if_icmp .ge 32, 3) := by decide +kernel
theorem dX1_bestFor_43 : decode cX1_bestFor 43 = .ok (.aload_n 0, 1) := by decide +kernel
theorem dX1_bestFor_44 : decode cX1_bestFor 44 = .ok (.aload_n 1, 1) := by decide +kernel
theorem dX1_bestFor_45 : decode cX1_bestFor 45 = .ok (.iload 5, 2) := by decide +kernel
theorem dX1_bestFor_47 : decode cX1_bestFor 47 = .ok (.invokevirtual 45, 3) := by decide +kernel
theorem dX1_bestFor_50 : decode cX1_bestFor 50 = .ok (.istore 6, 2) := by decide +kernel
theorem dX1_bestFor_52 : decode cX1_bestFor 52 = .ok (.iload 6, 2) := by decide +kernel
theorem dX1_bestFor_54 : decode cX1_bestFor 54 = .ok (.iload 4, 2) := by decide +kernel
theorem dX1_bestFor_56 : decode cX1_bestFor 56 = .ok (.if_icmp .le 10, 3) := by decide +kernel
theorem dX1_bestFor_59 : decode cX1_bestFor 59 = .ok (.iload 5, 2) := by decide +kernel
theorem dX1_bestFor_61 : decode cX1_bestFor 61 = .ok (.istore_n 3, 1) := by decide +kernel
theorem dX1_bestFor_62 : decode cX1_bestFor 62 = .ok (.iload 6, 2) := by decide +kernel
theorem dX1_bestFor_64 : decode cX1_bestFor 64 = .ok (.istore 4, 2) := by decide +kernel
theorem dX1_bestFor_66 : decode cX1_bestFor 66 = .ok (.iinc 5 1, 3) := by decide +kernel
theorem dX1_bestFor_69 : decode cX1_bestFor 69 = .ok (.goto (-37), 3) := by decide +kernel
theorem dX1_bestFor_72 : decode cX1_bestFor 72 = .ok (.iload_n 3, 1) := by decide +kernel
theorem dX1_bestFor_73 : decode cX1_bestFor 73 = .ok (.ireturn, 1) := by decide +kernel
theorem dX1_lookAround_0 : decode cX1_lookAround 0 = .ok (.iconst 0, 1) := by decide +kernel
theorem dX1_lookAround_1 : decode cX1_lookAround 1 = .ok (.istore_n 3, 1) := by decide +kernel
theorem dX1_lookAround_2 : decode cX1_lookAround 2 = .ok (.iconst 0, 1) := by decide +kernel
theorem dX1_lookAround_3 : decode cX1_lookAround 3 = .ok (.istore 4, 2) := by decide +kernel
theorem dX1_lookAround_5 : decode cX1_lookAround 5 = .ok (.iload 4, 2) := by decide +kernel
theorem dX1_lookAround_7 : decode cX1_lookAround 7 = .ok (.iconst 4, 1) := by decide +kernel
theorem dX1_lookAround_8 : decode cX1_lookAround 8 = .ok (.if_icmp .ge 55, 3) := by decide +kernel
theorem dX1_lookAround_11 : decode cX1_lookAround 11 = .ok (.aload_n 1, 1) := by decide +kernel
theorem dX1_lookAround_12 : decode cX1_lookAround 12 = .ok (.iload_n 2, 1) := by decide +kernel
theorem dX1_lookAround_13 : decode cX1_lookAround 13 = .ok (.iload 4, 2) := by decide +kernel
theorem dX1_lookAround_15 : decode cX1_lookAround 15 = .ok (.invokestatic 55, 3) := by decide +kernel
theorem dX1_lookAround_18 : decode cX1_lookAround 18 = .ok (.invokevirtual 59, 3) := by decide +kernel
theorem dX1_lookAround_21 : decode cX1_lookAround 21 = .ok (.istore 5, 2) := by decide +kernel
theorem dX1_lookAround_23 : decode cX1_lookAround 23 = .ok (.aload_n 0, 1) := by decide +kernel
theorem dX1_lookAround_24 : decode cX1_lookAround 24 = .ok (.getfield 9, 3) := by decide +kernel
theorem dX1_lookAround_27 : decode cX1_lookAround 27 = .ok (.iload 4, 2) := by decide +kernel
theorem dX1_lookAround_29 : decode cX1_lookAround 29 = .ok (.aload_n 1, 1) := by decide +kernel
theorem dX1_lookAround_30 : decode cX1_lookAround 30 = .ok (.iload 5, 2) := by decide +kernel
theorem dX1_lookAround_32 : decode cX1_lookAround 32 = .ok (.iload 4, 2) := by decide +kernel
theorem dX1_lookAround_34 : decode cX1_lookAround 34 = .ok (.invokestatic 63, 3) := by decide +kernel
theorem dX1_lookAround_37 : decode cX1_lookAround 37 = .ok (.invokevirtual 66, 3) := by decide +kernel
theorem dX1_lookAround_40 : decode cX1_lookAround 40 = .ok (.iastore, 1) := by decide +kernel
theorem dX1_lookAround_41 : decode cX1_lookAround 41 = .ok (.iload_n 3, 1) := by decide +kernel
theorem dX1_lookAround_42 : decode cX1_lookAround 42 = .ok (.ifCond .ne 9, 3) := by decide +kernel
theorem dX1_lookAround_45 : decode cX1_lookAround 45 = .ok (.iload 5, 2) := by decide +kernel
theorem dX1_lookAround_47 : decode cX1_lookAround 47 = .ok (.iconst (-1), 1) := by decide +kernel
theorem dX1_lookAround_48 : decode cX1_lookAround 48 = .ok (.if_icmp .eq 7, 3) := by decide +kernel
theorem dX1_lookAround_51 : decode cX1_lookAround 51 = .ok (.iconst 1, 1) := by decide +kernel
theorem dX1_lookAround_52 : decode cX1_lookAround 52 = .ok (.goto 4, 3) := by decide +kernel
theorem dX1_lookAround_55 : decode cX1_lookAround 55 = .ok (.iconst 0, 1) := by decide +kernel
theorem dX1_lookAround_56 : decode cX1_lookAround 56 = .ok (.istore_n 3, 1) := by decide +kernel
theorem dX1_lookAround_57 : decode cX1_lookAround 57 = .ok (.iinc 4 1, 3) := by decide +kernel
theorem dX1_lookAround_60 : decode cX1_lookAround 60 = .ok (.goto (-55), 3) := by decide +kernel
theorem dX1_lookAround_63 : decode cX1_lookAround 63 = .ok (.iload_n 3, 1) := by decide +kernel
theorem dX1_lookAround_64 : decode cX1_lookAround 64 = .ok (.ireturn, 1) := by decide +kernel
theorem dX1_holdIfFit_0 : decode cX1_holdIfFit 0 = .ok (.iconst 0, 1) := by decide +kernel
theorem dX1_holdIfFit_1 : decode cX1_holdIfFit 1 = .ok (.istore_n 3, 1) := by decide +kernel
theorem dX1_holdIfFit_2 : decode cX1_holdIfFit 2 = .ok (.iconst 0, 1) := by decide +kernel
theorem dX1_holdIfFit_3 : decode cX1_holdIfFit 3 = .ok (.istore 4, 2) := by decide +kernel
theorem dX1_holdIfFit_5 : decode cX1_holdIfFit 5 = .ok (.iload 4, 2) := by decide +kernel
theorem dX1_holdIfFit_7 : decode cX1_holdIfFit 7 = .ok (.iconst 4, 1) := by decide +kernel
theorem dX1_holdIfFit_8 : decode cX1_holdIfFit 8 = .ok (.if_icmp .ge 62, 3) := by decide +kernel
theorem dX1_holdIfFit_11 : decode cX1_holdIfFit 11 = .ok (.aload_n 0, 1) := by decide +kernel
theorem dX1_holdIfFit_12 : decode cX1_holdIfFit 12 = .ok (.getfield 9, 3) := by decide +kernel
theorem dX1_holdIfFit_15 : decode cX1_holdIfFit 15 = .ok (.iload 4, 2) := by decide +kernel
theorem dX1_holdIfFit_17 : decode cX1_holdIfFit 17 = .ok (.iaload, 1) := by decide +kernel
theorem dX1_holdIfFit_18 : decode cX1_holdIfFit 18 = .ok (.iconst (-1), 1) := by decide +kernel
theorem dX1_holdIfFit_19 : decode cX1_holdIfFit 19 = .ok (.if_icmp .eq 45, 3) := by decide +kernel
theorem dX1_holdIfFit_22 : decode cX1_holdIfFit 22 = .ok (.aload_n 1, 1) := by decide +kernel
theorem dX1_holdIfFit_23 : decode cX1_holdIfFit 23 = .ok (.iload_n 2, 1) := by decide +kernel
theorem dX1_holdIfFit_24 : decode cX1_holdIfFit 24 = .ok (.iload 4, 2) := by decide +kernel
theorem dX1_holdIfFit_26 : decode cX1_holdIfFit 26 = .ok (.invokevirtual 66, 3) := by decide +kernel
theorem dX1_holdIfFit_29 : decode cX1_holdIfFit 29 = .ok (.istore 5, 2) := by decide +kernel
theorem dX1_holdIfFit_31 : decode cX1_holdIfFit 31 = .ok (.iload 5, 2) := by decide +kernel
theorem dX1_holdIfFit_33 : decode cX1_holdIfFit 33 = .ok (.aload_n 0, 1) := by decide +kernel
theorem dX1_holdIfFit_34 : decode cX1_holdIfFit 34 = .ok (.getfield 9, 3) := by decide +kernel
theorem dX1_holdIfFit_37 : decode cX1_holdIfFit 37 = .ok (.iload 4, 2) := by decide +kernel
theorem dX1_holdIfFit_39 : decode cX1_holdIfFit 39 = .ok (.iaload, 1) := by decide +kernel
theorem dX1_holdIfFit_40 : decode cX1_holdIfFit 40 = .ok (.invokestatic 69, 3) := by decide +kernel
theorem dX1_holdIfFit_43 : decode cX1_holdIfFit 43 = .ok (.ifCond .eq 5, 3) := by decide +kernel
theorem dX1_holdIfFit_46 : decode cX1_holdIfFit 46 = .ok (.iconst (-1), 1) := by decide +kernel
theorem dX1_holdIfFit_47 : decode cX1_holdIfFit 47 = .ok (.ireturn, 1) := by decide +kernel
theorem dX1_holdIfFit_48 : decode cX1_holdIfFit 48 = .ok (.iload_n 3, 1) := by decide +kernel
theorem dX1_holdIfFit_49 : decode cX1_holdIfFit 49 = .ok (.aload_n 1, 1) := by decide +kernel
theorem dX1_holdIfFit_50 : decode cX1_holdIfFit 50 = .ok (.iload 5, 2) := by decide +kernel
theorem dX1_holdIfFit_52 : decode cX1_holdIfFit 52 = .ok (.aload_n 0, 1) := by decide +kernel
theorem dX1_holdIfFit_53 : decode cX1_holdIfFit 53 = .ok (.getfield 9, 3) := by decide +kernel
theorem dX1_holdIfFit_56 : decode cX1_holdIfFit 56 = .ok (.iload 4, 2) := by decide +kernel
theorem dX1_holdIfFit_58 : decode cX1_holdIfFit 58 = .ok (.iaload, 1) := by decide +kernel
theorem dX1_holdIfFit_59 : decode cX1_holdIfFit 59 = .ok (.invokevirtual 73, 3) := by decide +kernel
theorem dX1_holdIfFit_62 : decode cX1_holdIfFit 62 = .ok (.iadd, 1) := by decide +kernel
theorem dX1_holdIfFit_63 : decode cX1_holdIfFit 63 = .ok (.istore_n 3, 1) := by decide +kernel
theorem dX1_holdIfFit_64 : decode cX1_holdIfFit 64 = .ok (.iinc 4 1, 3) := by decide +kernel
theorem dX1_holdIfFit_67 : decode cX1_holdIfFit 67 = .ok (.goto (-62), 3) := by decide +kernel
theorem dX1_holdIfFit_70 : decode cX1_holdIfFit 70 = .ok (.iload_n 3, 1) := by decide +kernel
theorem dX1_holdIfFit_71 : decode cX1_holdIfFit 71 = .ok (.ireturn, 1) := by decide +kernel
theorem dX2_init_0 : decode cX2_init 0 = .ok (.aload_n 0, 1) := by decide +kernel
theorem dX2_init_1 : decode cX2_init 1 = .ok (.invokespecial 3, 3) := by decide +kernel
theorem dX2_init_4 : decode cX2_init 4 = .ok (.aload_n 0, 1) := by decide +kernel
theorem dX2_init_5 : decode cX2_init 5 = .ok (.bipush 8, 2) := by decide +kernel
theorem dX2_init_7 : decode cX2_init 7 = .ok (.anewarray 9, 3) := by decide +kernel
theorem dX2_init_10 : decode cX2_init 10 = .ok (.putfield 11, 3) := by decide +kernel
theorem dX2_init_13 : decode cX2_init 13 = .ok (.aload_n 0, 1) := by decide +kernel
theorem dX2_init_14 : decode cX2_init 14 = .ok (.iconst 0, 1) := by decide +kernel
theorem dX2_init_15 : decode cX2_init 15 = .ok (.putfield 17, 3) := by decide +kernel
theorem dX2_init_18 : decode cX2_init 18 = .ok (.aload_n 0, 1) := by decide +kernel
theorem dX2_init_19 : decode cX2_init 19 = .ok (.iconst 0, 1) := by decide +kernel
theorem dX2_init_20 : decode cX2_init 20 = .ok (.putfield 21, 3) := by decide +kernel
theorem dX2_init_23 : decode cX2_init 23 = .ok (.iconst 0, 1) := by decide +kernel
theorem dX2_init_24 : decode cX2_init 24 = .ok (.istore_n 1, 1) := by decide +kernel
theorem dX2_init_25 : decode cX2_init 25 = .ok (.iload_n 1, 1) := by decide +kernel
theorem dX2_init_26 : decode cX2_init 26 = .ok (.bipush 8, 2) := by decide +kernel
theorem dX2_init_28 : decode cX2_init 28 = .ok (.if_icmp .ge 22, 3) := by decide +kernel
theorem dX2_init_31 : decode cX2_init 31 = .ok (.aload_n 0, 1) := by decide +kernel
theorem dX2_init_32 : decode cX2_init 32 = .ok (.getfield 11, 3) := by decide +kernel
theorem dX2_init_35 : decode cX2_init 35 = .ok (.iload_n 1, 1) := by decide +kernel
theorem dX2_init_36 : decode cX2_init 36 = .ok (.new 9, 3) := by decide +kernel
theorem dX2_init_39 : decode cX2_init 39 = .ok (.dup, 1) := by decide +kernel
theorem dX2_init_40 : decode cX2_init 40 = .ok (.invokespecial 24, 3) := by decide +kernel
theorem dX2_init_43 : decode cX2_init 43 = .ok (.aastore, 1) := by decide +kernel
theorem dX2_init_44 : decode cX2_init 44 = .ok (.iinc 1 1, 3) := by decide +kernel
theorem dX2_init_47 : decode cX2_init 47 = .ok (.goto (-22), 3) := by decide +kernel
theorem dX2_init_50 : decode cX2_init 50 = .ok (.return_, 1) := by decide +kernel
theorem dX2_push_0 : decode cX2_push 0 = .ok (.aload_n 0, 1) := by decide +kernel
theorem dX2_push_1 : decode cX2_push 1 = .ok (.getfield 11, 3) := by decide +kernel
theorem dX2_push_4 : decode cX2_push 4 = .ok (.aload_n 0, 1) := by decide +kernel
theorem dX2_push_5 : decode cX2_push 5 = .ok (.getfield 17, 3) := by decide +kernel
theorem dX2_push_8 : decode cX2_push 8 = .ok (.aaload, 1) := by decide +kernel
theorem dX2_push_9 : decode cX2_push 9 = .ok (.aload_n 1, 1) := by decide +kernel
theorem dX2_push_10 : decode cX2_push 10 = .ok (.invokevirtual 25, 3) := by decide +kernel
theorem dX2_push_13 : decode cX2_push 13 = .ok (.aload_n 0, 1) := by decide +kernel
theorem dX2_push_14 : decode cX2_push 14 = .ok (.aload_n 0, 1) := by decide +kernel
theorem dX2_push_15 : decode cX2_push 15 = .ok (.getfield 17, 3) := by decide +kernel
theorem dX2_push_18 : decode cX2_push 18 = .ok (.iconst 1, 1) := by decide +kernel
theorem dX2_push_19 : decode cX2_push 19 = .ok (.iadd, 1) := by decide +kernel
theorem dX2_push_20 : decode cX2_push 20 = .ok (.bipush 8, 2) := by decide +kernel
theorem dX2_push_22 : decode cX2_push 22 = .ok (.irem, 1) := by decide +kernel
theorem dX2_push_23 : decode cX2_push 23 = .ok (.putfield 17, 3) := by decide +kernel
theorem dX2_push_26 : decode cX2_push 26 = .ok (.aload_n 0, 1) := by decide +kernel
theorem dX2_push_27 : decode cX2_push 27 = .ok (.aload_n 0, 1) := by decide +kernel
theorem dX2_push_28 : decode cX2_push 28 = .ok (.getfield 21, 3) := by decide +kernel
theorem dX2_push_31 : decode cX2_push 31 = .ok (.iconst 1, 1) := by decide +kernel
theorem dX2_push_32 : decode cX2_push 32 = .ok (.iadd, 1) := by decide +kernel
theorem dX2_push_33 : decode cX2_push 33 = .ok (.bipush 8, 2) := by decide +kernel
theorem dX2_push_35 : decode cX2_push 35 = .ok (.invokestatic 29, 3) := by decide +kernel
theorem dX2_push_38 : decode cX2_push 38 = .ok (.putfield 21, 3) := by decide +kernel
theorem dX2_push_41 : decode cX2_push 41 = .ok (.return_, 1) := by decide +kernel
theorem dX2_popInto_0 : decode cX2_popInto 0 = .ok (.aload_n 0, 1) := by decide +kernel
theorem dX2_popInto_1 : decode cX2_popInto 1 = .ok (.getfield 21, 3) := by decide +kernel
theorem dX2_popInto_4 : decode cX2_popInto 4 = .ok (.ifCond .le 42, 3) := by decide +kernel
theorem dX2_popInto_7 : decode cX2_popInto 7 = .ok (.aload_n 0, 1) := by decide +kernel
theorem dX2_popInto_8 : decode cX2_popInto 8 = .ok (.aload_n 0, 1) := by decide +kernel
theorem dX2_popInto_9 : decode cX2_popInto 9 = .ok (.getfield 17, 3) := by decide +kernel
theorem dX2_popInto_12 : decode cX2_popInto 12 = .ok (.bipush 8, 2) := by decide +kernel
theorem dX2_popInto_14 : decode cX2_popInto 14 = .ok (.iadd, 1) := by decide +kernel
theorem dX2_popInto_15 : decode cX2_popInto 15 = .ok (.iconst 1, 1) := by decide +kernel
theorem dX2_popInto_16 : decode cX2_popInto 16 = .ok (.isub, 1) := by decide +kernel
theorem dX2_popInto_17 : decode cX2_popInto 17 = .ok (.bipush 8, 2) := by decide +kernel
theorem dX2_popInto_19 : decode cX2_popInto 19 = .ok (.irem, 1) := by decide +kernel
theorem dX2_popInto_20 : decode cX2_popInto 20 = .ok (.putfield 17, 3) := by decide +kernel
theorem dX2_popInto_23 : decode cX2_popInto 23 = .ok (.aload_n 0, 1) := by decide +kernel
theorem dX2_popInto_24 : decode cX2_popInto 24 = .ok (.dup, 1) := by decide +kernel
theorem dX2_popInto_25 : decode cX2_popInto 25 = .ok (.getfield 21, 3) := by decide +kernel
theorem dX2_popInto_28 : decode cX2_popInto 28 = .ok (.iconst 1, 1) := by decide +kernel
theorem dX2_popInto_29 : decode cX2_popInto 29 = .ok (.isub, 1) := by decide +kernel
theorem dX2_popInto_30 : decode cX2_popInto 30 = .ok (.putfield 21, 3) := by decide +kernel
theorem dX2_popInto_33 : decode cX2_popInto 33 = .ok (.aload_n 1, 1) := by decide +kernel
theorem dX2_popInto_34 : decode cX2_popInto 34 = .ok (.aload_n 0, 1) := by decide +kernel
theorem dX2_popInto_35 : decode cX2_popInto 35 = .ok (.getfield 11, 3) := by decide +kernel
theorem dX2_popInto_38 : decode cX2_popInto 38 = .ok (.aload_n 0, 1) := by decide +kernel
theorem dX2_popInto_39 : decode cX2_popInto 39 = .ok (.getfield 17, 3) := by decide +kernel
theorem dX2_popInto_42 : decode cX2_popInto 42 = .ok (.aaload, 1) := by decide +kernel
theorem dX2_popInto_43 : decode cX2_popInto 43 = .ok (.invokevirtual 25, 3) := by decide +kernel
theorem dX2_popInto_46 : decode cX2_popInto 46 = .ok (.return_, 1) := by decide +kernel
theorem dX2_forget_0 : decode cX2_forget 0 = .ok (.aload_n 0, 1) := by decide +kernel
theorem dX2_forget_1 : decode cX2_forget 1 = .ok (.iconst 0, 1) := by decide +kernel
theorem dX2_forget_2 : decode cX2_forget 2 = .ok (.putfield 21, 3) := by decide +kernel
theorem dX2_forget_5 : decode cX2_forget 5 = .ok (.return_, 1) := by decide +kernel
theorem dX3_init_0 : decode cX3_init 0 = .ok (.aload_n 0, 1) := by decide +kernel
theorem dX3_init_1 : decode cX3_init 1 = .ok (.invokespecial 3, 3) := by decide +kernel
theorem dX3_init_4 : decode cX3_init 4 = .ok (.aload_n 0, 1) := by decide +kernel
theorem dX3_init_5 : decode cX3_init 5 = .ok (.iconst 0, 1) := by decide +kernel
theorem dX3_init_6 : decode cX3_init 6 = .ok (.putfield 9, 3) := by decide +kernel
theorem dX3_init_9 : decode cX3_init 9 = .ok (.aload_n 0, 1) := by decide +kernel
theorem dX3_init_10 : decode cX3_init 10 = .ok (.iconst 0, 1) := by decide +kernel
theorem dX3_init_11 : decode cX3_init 11 = .ok (.putfield 15, 3) := by decide +kernel
theorem dX3_init_14 : decode cX3_init 14 = .ok (.aload_n 0, 1) := by decide +kernel
theorem dX3_init_15 : decode cX3_init 15 = .ok (.aload_n 1, 1) := by decide +kernel
theorem dX3_init_16 : decode cX3_init 16 = .ok (.putfield 18, 3) := by decide +kernel
theorem dX3_init_19 : decode cX3_init 19 = .ok (.aload_n 0, 1) := by decide +kernel
theorem dX3_init_20 : decode cX3_init 20 = .ok (.aload_n 2, 1) := by decide +kernel
theorem dX3_init_21 : decode cX3_init 21 = .ok (.putfield 22, 3) := by decide +kernel
theorem dX3_init_24 : decode cX3_init 24 = .ok (.return_, 1) := by decide +kernel
theorem dX3_tellKind_0 : decode cX3_tellKind 0 = .ok (.iload_n 2, 1) := by decide +kernel
theorem dX3_tellKind_1 : decode cX3_tellKind 1 = .ok (.invokestatic 26, 3) := by decide +kernel
theorem dX3_tellKind_4 : decode cX3_tellKind 4 = .ok (.ifCond .eq 26, 3) := by decide +kernel
theorem dX3_tellKind_7 : decode cX3_tellKind 7 = .ok (.iload_n 3, 1) := by decide +kernel
theorem dX3_tellKind_8 : decode cX3_tellKind 8 = .ok (.invokestatic 26, 3) := by decide +kernel
theorem dX3_tellKind_11 : decode cX3_tellKind 11 = .ok (.ifCond .eq 19, 3) := by decide +kernel
theorem dX3_tellKind_14 : decode cX3_tellKind 14 = .ok (.iload 4, 2) := by decide +kernel
theorem dX3_tellKind_16 : decode cX3_tellKind 16 = .ok (.invokestatic 26, 3) := by decide +kernel
theorem dX3_tellKind_19 : decode cX3_tellKind 19 = .ok (.ifCond .eq 11, 3) := by decide +kernel
theorem dX3_tellKind_22 : decode cX3_tellKind 22 = .ok (.iload 5, 2) := by decide +kernel
theorem dX3_tellKind_24 : decode cX3_tellKind 24 = .ok (.invokestatic 26, 3) := by decide +kernel
theorem dX3_tellKind_27 : decode cX3_tellKind 27 = .ok (.ifCond .ne 10, 3) := by decide +kernel
theorem dX3_tellKind_30 : decode cX3_tellKind 30 = .ok (.aload_n 0, 1) := by decide +kernel
theorem dX3_tellKind_31 : decode cX3_tellKind 31 = .ok (.iconst 1, 1) := by decide +kernel
theorem dX3_tellKind_32 : decode cX3_tellKind 32 = .ok (.iconst 0, 1) := by decide +kernel
theorem dX3_tellKind_33 : decode cX3_tellKind 33 = .ok (.invokevirtual 30, 3) := by decide +kernel
theorem dX3_tellKind_36 : decode cX3_tellKind 36 = .ok (.ireturn, 1) := by decide +kernel
theorem dX3_tellKind_37 : decode cX3_tellKind 37 = .ok (.aload_n 1, 1) := by decide +kernel
theorem dX3_tellKind_38 : decode cX3_tellKind 38 = .ok (.getfield 34, 3) := by decide +kernel
theorem dX3_tellKind_41 : decode cX3_tellKind 41 = .ok (.bipush 8, 2) := by decide +kernel
theorem dX3_tellKind_43 : decode cX3_tellKind 43 = .ok (.if_icmp .lt 11, 3) := by decide +kernel
theorem dX3_tellKind_46 : decode cX3_tellKind 46 = .ok (.aload_n 0, 1) := by decide +kernel
theorem dX3_tellKind_47 : decode cX3_tellKind 47 = .ok (.iconst 2, 1) := by decide +kernel
theorem dX3_tellKind_48 : decode cX3_tellKind 48 = .ok (.bipush 8, 2) := by decide +kernel
theorem dX3_tellKind_50 : decode cX3_tellKind 50 = .ok (.invokevirtual 30, 3) := by decide +kernel
theorem dX3_tellKind_53 : decode cX3_tellKind 53 = .ok (.ireturn, 1) := by decide +kernel
theorem dX3_tellKind_54 : decode cX3_tellKind 54 = .ok (.aload_n 1, 1) := by decide +kernel
theorem dX3_tellKind_55 : decode cX3_tellKind 55 = .ok (.getfield 34, 3) := by decide +kernel
theorem dX3_tellKind_58 : decode cX3_tellKind 58 = .ok (.iconst 4, 1) := by decide +kernel
theorem dX3_tellKind_59 : decode cX3_tellKind 59 = .ok (.imul, 1) := by decide +kernel
theorem dX3_tellKind_60 : decode cX3_tellKind 60 = .ok (.istore 6, 2) := by decide +kernel
theorem dX3_tellKind_62 : decode cX3_tellKind 62 = .ok (.aload_n 1, 1) := by decide +kernel
theorem dX3_tellKind_63 : decode cX3_tellKind 63 = .ok (.getfield 39, 3) := by decide +kernel
theorem dX3_tellKind_66 : decode cX3_tellKind 66 = .ok (.iload 6, 2) := by decide +kernel
theorem dX3_tellKind_68 : decode cX3_tellKind 68 = .ok (.iload_n 2, 1) := by decide +kernel
theorem dX3_tellKind_69 : decode cX3_tellKind 69 = .ok (.iastore, 1) := by decide +kernel
theorem dX3_tellKind_70 : decode cX3_tellKind 70 = .ok (.aload_n 1, 1) := by decide +kernel
theorem dX3_tellKind_71 : decode cX3_tellKind 71 = .ok (.getfield 39, 3) := by decide +kernel
theorem dX3_tellKind_74 : decode cX3_tellKind 74 = .ok (.iload 6, 2) := by decide +kernel
theorem dX3_tellKind_76 : decode cX3_tellKind 76 = .ok (.iconst 1, 1) := by decide +kernel
theorem dX3_tellKind_77 : decode cX3_tellKind 77 = .ok (.iadd, 1) := by decide +kernel
theorem dX3_tellKind_78 : decode cX3_tellKind 78 = .ok (.iload_n 3, 1) := by decide +kernel
theorem dX3_tellKind_79 : decode cX3_tellKind 79 = .ok (.iastore, 1) := by decide +kernel
theorem dX3_tellKind_80 : decode cX3_tellKind 80 = .ok (.aload_n 1, 1) := by decide +kernel
theorem dX3_tellKind_81 : decode cX3_tellKind 81 = .ok (.getfield 39, 3) := by decide +kernel
theorem dX3_tellKind_84 : decode cX3_tellKind 84 = .ok (.iload 6, 2) := by decide +kernel
theorem dX3_tellKind_86 : decode cX3_tellKind 86 = .ok (.iconst 2, 1) := by decide +kernel
theorem dX3_tellKind_87 : decode cX3_tellKind 87 = .ok (.iadd, 1) := by decide +kernel
theorem dX3_tellKind_88 : decode cX3_tellKind 88 = .ok (.iload 4, 2) := by decide +kernel
theorem dX3_tellKind_90 : decode cX3_tellKind 90 = .ok (.iastore, 1) := by decide +kernel
theorem dX3_tellKind_91 : decode cX3_tellKind 91 = .ok (.aload_n 1, 1) := by decide +kernel
theorem dX3_tellKind_92 : decode cX3_tellKind 92 = .ok (.getfield 39, 3) := by decide +kernel
theorem dX3_tellKind_95 : decode cX3_tellKind 95 = .ok (.iload 6, 2) := by decide +kernel
theorem dX3_tellKind_97 : decode cX3_tellKind 97 = .ok (.iconst 3, 1) := by decide +kernel
theorem dX3_tellKind_98 : decode cX3_tellKind 98 = .ok (.iadd, 1) := by decide +kernel
theorem dX3_tellKind_99 : decode cX3_tellKind 99 = .ok (.iload 5, 2) := by decide +kernel
theorem dX3_tellKind_101 : decode cX3_tellKind 101 = .ok (.iastore, 1) := by decide +kernel
theorem dX3_tellKind_102 : decode cX3_tellKind 102 = .ok (.aload_n 1, 1) := by decide +kernel
theorem dX3_tellKind_103 : decode cX3_tellKind 103 = .ok (.dup, 1) := by decide +kernel
theorem dX3_tellKind_104 : decode cX3_tellKind 104 = .ok (.getfield 34, 3) := by decide +kernel
theorem dX3_tellKind_107 : decode cX3_tellKind 107 = .ok (.iconst 1, 1) := by decide +kernel
theorem dX3_tellKind_108 : decode cX3_tellKind 108 = .ok (.iadd, 1) := by decide +kernel
theorem dX3_tellKind_109 : decode cX3_tellKind 109 = .ok (.putfield 34, 3) := by decide +kernel
theorem dX3_tellKind_112 : decode cX3_tellKind 112 = .ok (.aload_n 1, 1) := by decide +kernel
theorem dX3_tellKind_113 : decode cX3_tellKind 113 = .ok (.getfield 34, 3) := by decide +kernel
theorem dX3_tellKind_116 : decode cX3_tellKind 116 = .ok (.iconst 1, 1) := by decide +kernel
theorem dX3_tellKind_117 : decode cX3_tellKind 117 = .ok (.isub, 1) := by decide +kernel
theorem dX3_tellKind_118 : decode cX3_tellKind 118 = .ok (.ireturn, 1) := by decide +kernel
theorem dX3_layBrick_0 : decode cX3_layBrick 0 = .ok (.iload_n 2, 1) := by decide +kernel
theorem dX3_layBrick_1 : decode cX3_layBrick 1 = .ok (.invokestatic 43, 3) := by decide +kernel
theorem dX3_layBrick_4 : decode cX3_layBrick 4 = .ok (.ifCond .eq 11, 3) := by decide +kernel
theorem dX3_layBrick_7 : decode cX3_layBrick 7 = .ok (.iload 4, 2) := by decide +kernel
theorem dX3_layBrick_9 : decode cX3_layBrick 9 = .ok (.invokestatic 46, 3) := by decide +kernel
theorem dX3_layBrick_12 : decode cX3_layBrick 12 = .ok (.ifCond .ne 10, 3) := by decide +kernel
theorem dX3_layBrick_15 : decode cX3_layBrick 15 = .ok (.aload_n 0, 1) := by decide +kernel
theorem dX3_layBrick_16 : decode cX3_layBrick 16 = .ok (.iconst 1, 1) := by decide +kernel
theorem dX3_layBrick_17 : decode cX3_layBrick 17 = .ok (.iconst 0, 1) := by decide +kernel
theorem dX3_layBrick_18 : decode cX3_layBrick 18 = .ok (.invokevirtual 30, 3) := by decide +kernel
theorem dX3_layBrick_21 : decode cX3_layBrick 21 = .ok (.ireturn, 1) := by decide +kernel
theorem dX3_layBrick_22 : decode cX3_layBrick 22 = .ok (.aload_n 1, 1) := by decide +kernel
theorem dX3_layBrick_23 : decode cX3_layBrick 23 = .ok (.iload_n 3, 1) := by decide +kernel
theorem dX3_layBrick_24 : decode cX3_layBrick 24 = .ok (.invokevirtual 49, 3) := by decide +kernel
theorem dX3_layBrick_27 : decode cX3_layBrick 27 = .ok (.ifCond .ne 10, 3) := by decide +kernel
theorem dX3_layBrick_30 : decode cX3_layBrick 30 = .ok (.aload_n 0, 1) := by decide +kernel
theorem dX3_layBrick_31 : decode cX3_layBrick 31 = .ok (.iconst 3, 1) := by decide +kernel
theorem dX3_layBrick_32 : decode cX3_layBrick 32 = .ok (.iload_n 3, 1) := by decide +kernel
theorem dX3_layBrick_33 : decode cX3_layBrick 33 = .ok (.invokevirtual 30, 3) := by decide +kernel
theorem dX3_layBrick_36 : decode cX3_layBrick 36 = .ok (.ireturn, 1) := by decide +kernel
theorem dX3_layBrick_37 : decode cX3_layBrick 37 = .ok (.aload_n 1, 1) := by decide +kernel
theorem dX3_layBrick_38 : decode cX3_layBrick 38 = .ok (.iload_n 2, 1) := by decide +kernel
theorem dX3_layBrick_39 : decode cX3_layBrick 39 = .ok (.invokevirtual 52, 3) := by decide +kernel
theorem dX3_layBrick_42 : decode cX3_layBrick 42 = .ok (.ifCond .ne 17, 3) := by decide +kernel
theorem dX3_layBrick_45 : decode cX3_layBrick 45 = .ok (.aload_n 0, 1) := by decide +kernel
theorem dX3_layBrick_46 : decode cX3_layBrick 46 = .ok (.iconst 4, 1) := by decide +kernel
theorem dX3_layBrick_47 : decode cX3_layBrick 47 = .ok (.aload_n 1, 1) := by decide +kernel
theorem dX3_layBrick_48 : decode cX3_layBrick 48 = .ok (.iload_n 2, 1) := by decide +kernel
theorem dX3_layBrick_49 : decode cX3_layBrick 49 = .ok (.invokevirtual 55, 3) := by decide +kernel
theorem dX3_layBrick_52 : decode cX3_layBrick 52 = .ok (.invokestatic 59, 3) := by decide +kernel
theorem dX3_layBrick_55 : decode cX3_layBrick 55 = .ok (.invokevirtual 30, 3) := by decide +kernel
theorem dX3_layBrick_58 : decode cX3_layBrick 58 = .ok (.ireturn, 1) := by decide +kernel
theorem dX3_layBrick_59 : decode cX3_layBrick 59 = .ok (.iload_n 3, 1) := by decide +kernel
theorem dX3_layBrick_60 : decode cX3_layBrick 60 = .ok (.iload 4, 2) := by decide +kernel
theorem dX3_layBrick_62 : decode cX3_layBrick 62 = .ok (.invokestatic 62, 3) := by decide +kernel
theorem dX3_layBrick_65 : decode cX3_layBrick 65 = .ok (.istore 5, 2) := by decide +kernel
theorem dX3_layBrick_67 : decode cX3_layBrick 67 = .ok (.aload_n 1, 1) := by decide +kernel
theorem dX3_layBrick_68 : decode cX3_layBrick 68 = .ok (.getfield 65, 3) := by decide +kernel
theorem dX3_layBrick_71 : decode cX3_layBrick 71 = .ok (.iconst (-1), 1) := by decide +kernel
theorem dX3_layBrick_72 : decode cX3_layBrick 72 = .ok (.if_icmp .ne 17, 3) := by decide +kernel
theorem dX3_layBrick_75 : decode cX3_layBrick 75 = .ok (.aload_n 1, 1) := by decide +kernel
theorem dX3_layBrick_76 : decode cX3_layBrick 76 = .ok (.iload_n 2, 1) := by decide +kernel
theorem dX3_layBrick_77 : decode cX3_layBrick 77 = .ok (.iload 5, 2) := by decide +kernel
theorem dX3_layBrick_79 : decode cX3_layBrick 79 = .ok (.invokevirtual 68, 3) := by decide +kernel
theorem dX3_layBrick_82 : decode cX3_layBrick 82 = .ok (.aload_n 1, 1) := by decide +kernel
theorem dX3_layBrick_83 : decode cX3_layBrick 83 = .ok (.iload_n 2, 1) := by decide +kernel
theorem dX3_layBrick_84 : decode cX3_layBrick 84 = .ok (.putfield 65, 3) := by decide +kernel
theorem dX3_layBrick_87 : decode cX3_layBrick 87 = .ok (.iconst 0, 1) := by decide +kernel
theorem dX3_layBrick_88 : decode cX3_layBrick 88 = .ok (.ireturn, 1) := by decide +kernel
theorem dX3_layBrick_89 : decode cX3_layBrick 89 = .ok (.aload_n 1, 1) := by decide +kernel
theorem dX3_layBrick_90 : decode cX3_layBrick 90 = .ok (.iload 5, 2) := by decide +kernel
theorem dX3_layBrick_92 : decode cX3_layBrick 92 = .ok (.iload_n 2, 1) := by decide +kernel
theorem dX3_layBrick_93 : decode cX3_layBrick 93 = .ok (.invokevirtual 72, 3) := by decide +kernel
theorem dX3_layBrick_96 : decode cX3_layBrick 96 = .ok (.istore 6, 2) := by decide +kernel
theorem dX3_layBrick_98 : decode cX3_layBrick 98 = .ok (.iload 6, 2) := by decide +kernel
theorem dX3_layBrick_100 : decode cX3_layBrick 100 = .ok (.aload_n 1, 1) := by decide +kernel
theorem dX3_layBrick_101 : decode cX3_layBrick 101 = .ok (.getfield 75, 3) := by decide +kernel
theorem dX3_layBrick_104 : decode cX3_layBrick 104 = .ok (.if_icmp .ge 16, 3) := by decide +kernel
theorem dX3_layBrick_107 : decode cX3_layBrick 107 = .ok (.aload_n 0, 1) := by decide +kernel
theorem dX3_layBrick_108 : decode cX3_layBrick 108 = .ok (.iconst 5, 1) := by decide +kernel
theorem dX3_layBrick_109 : decode cX3_layBrick 109 = .ok (.aload_n 1, 1) := by decide +kernel
theorem dX3_layBrick_110 : decode cX3_layBrick 110 = .ok (.getfield 75, 3) := by decide +kernel
theorem dX3_layBrick_113 : decode cX3_layBrick 113 = .ok (.iload 6, 2) := by decide +kernel
theorem dX3_layBrick_115 : decode cX3_layBrick 115 = .ok (.isub, 1) := by decide +kernel
theorem dX3_layBrick_116 : decode cX3_layBrick 116 = .ok (.invokevirtual 30, 3) := by decide +kernel
theorem dX3_layBrick_119 : decode cX3_layBrick 119 = .ok (.ireturn, 1) := by decide +kernel
theorem dX3_layBrick_120 : decode cX3_layBrick 120 = .ok (.aload_n 1, 1) := by decide +kernel
theorem dX3_layBrick_121 : decode cX3_layBrick 121 = .ok (.iload_n 2, 1) := by decide +kernel
theorem dX3_layBrick_122 : decode cX3_layBrick 122 = .ok (.iload 5, 2) := by decide +kernel
theorem dX3_layBrick_124 : decode cX3_layBrick 124 = .ok (.invokevirtual 68, 3) := by decide +kernel
theorem dX3_layBrick_127 : decode cX3_layBrick 127 = .ok (.iload 6, 2) := by decide +kernel
theorem dX3_layBrick_129 : decode cX3_layBrick 129 = .ok (.ireturn, 1) := by decide +kernel
theorem dX3_takeBrick_0 : decode cX3_takeBrick 0 = .ok (.iload_n 2, 1) := by decide +kernel
theorem dX3_takeBrick_1 : decode cX3_takeBrick 1 = .ok (.invokestatic 43, 3) := by decide +kernel
theorem dX3_takeBrick_4 : decode cX3_takeBrick 4 = .ok (.ifCond .ne 10, 3) := by decide +kernel
theorem dX3_takeBrick_7 : decode cX3_takeBrick 7 = .ok (.aload_n 0, 1) := by decide +kernel
theorem dX3_takeBrick_8 : decode cX3_takeBrick 8 = .ok (.iconst 1, 1) := by decide +kernel
theorem dX3_takeBrick_9 : decode cX3_takeBrick 9 = .ok (.iconst 0, 1) := by decide +kernel
theorem dX3_takeBrick_10 : decode cX3_takeBrick 10 = .ok (.invokevirtual 30, 3) := by decide +kernel
theorem dX3_takeBrick_13 : decode cX3_takeBrick 13 = .ok (.ireturn, 1) := by decide +kernel
theorem dX3_takeBrick_14 : decode cX3_takeBrick 14 = .ok (.aload_n 1, 1) := by decide +kernel
theorem dX3_takeBrick_15 : decode cX3_takeBrick 15 = .ok (.iload_n 2, 1) := by decide +kernel
theorem dX3_takeBrick_16 : decode cX3_takeBrick 16 = .ok (.invokevirtual 52, 3) := by decide +kernel
theorem dX3_takeBrick_19 : decode cX3_takeBrick 19 = .ok (.ifCond .eq 11, 3) := by decide +kernel
theorem dX3_takeBrick_22 : decode cX3_takeBrick 22 = .ok (.aload_n 0, 1) := by decide +kernel
theorem dX3_takeBrick_23 : decode cX3_takeBrick 23 = .ok (.bipush 6, 2) := by decide +kernel
theorem dX3_takeBrick_25 : decode cX3_takeBrick 25 = .ok (.iload_n 2, 1) := by decide +kernel
theorem dX3_takeBrick_26 : decode cX3_takeBrick 26 = .ok (.invokevirtual 30, 3) := by decide +kernel
theorem dX3_takeBrick_29 : decode cX3_takeBrick 29 = .ok (.ireturn, 1) := by decide +kernel
theorem dX3_takeBrick_30 : decode cX3_takeBrick 30 = .ok (.aload_n 0, 1) := by decide +kernel
theorem dX3_takeBrick_31 : decode cX3_takeBrick 31 = .ok (.getfield 18, 3) := by decide +kernel
theorem dX3_takeBrick_34 : decode cX3_takeBrick 34 = .ok (.aload_n 1, 1) := by decide +kernel
theorem dX3_takeBrick_35 : decode cX3_takeBrick 35 = .ok (.iload_n 2, 1) := by decide +kernel
theorem dX3_takeBrick_36 : decode cX3_takeBrick 36 = .ok (.invokevirtual 78, 3) := by decide +kernel
theorem dX3_takeBrick_39 : decode cX3_takeBrick 39 = .ok (.istore_n 3, 1) := by decide +kernel
theorem dX3_takeBrick_40 : decode cX3_takeBrick 40 = .ok (.iload_n 3, 1) := by decide +kernel
theorem dX3_takeBrick_41 : decode cX3_takeBrick 41 = .ok (.ifCond .le 11, 3) := by decide +kernel
theorem dX3_takeBrick_44 : decode cX3_takeBrick 44 = .ok (.aload_n 0, 1) := by decide +kernel
theorem dX3_takeBrick_45 : decode cX3_takeBrick 45 = .ok (.bipush 7, 2) := by decide +kernel
theorem dX3_takeBrick_47 : decode cX3_takeBrick 47 = .ok (.iload_n 3, 1) := by decide +kernel
theorem dX3_takeBrick_48 : decode cX3_takeBrick 48 = .ok (.invokevirtual 30, 3) := by decide +kernel
theorem dX3_takeBrick_51 : decode cX3_takeBrick 51 = .ok (.ireturn, 1) := by decide +kernel
theorem dX3_takeBrick_52 : decode cX3_takeBrick 52 = .ok (.aload_n 1, 1) := by decide +kernel
theorem dX3_takeBrick_53 : decode cX3_takeBrick 53 = .ok (.iload_n 2, 1) := by decide +kernel
theorem dX3_takeBrick_54 : decode cX3_takeBrick 54 = .ok (.invokevirtual 55, 3) := by decide +kernel
theorem dX3_takeBrick_57 : decode cX3_takeBrick 57 = .ok (.invokestatic 59, 3) := by decide +kernel
theorem dX3_takeBrick_60 : decode cX3_takeBrick 60 = .ok (.istore 4, 2) := by decide +kernel
theorem dX3_takeBrick_62 : decode cX3_takeBrick 62 = .ok (.aload_n 1, 1) := by decide +kernel
theorem dX3_takeBrick_63 : decode cX3_takeBrick 63 = .ok (.iload_n 2, 1) := by decide +kernel
theorem dX3_takeBrick_64 : decode cX3_takeBrick 64 = .ok (.invokevirtual 84, 3) := by decide +kernel
theorem dX3_takeBrick_67 : decode cX3_takeBrick 67 = .ok (.iload 4, 2) := by decide +kernel
theorem dX3_takeBrick_69 : decode cX3_takeBrick 69 = .ok (.ireturn, 1) := by decide +kernel
theorem dX3_growBricks_0 : decode cX3_growBricks 0 = .ok (.iload_n 2, 1) := by decide +kernel
theorem dX3_growBricks_1 : decode cX3_growBricks 1 = .ok (.iconst 1, 1) := by decide +kernel
theorem dX3_growBricks_2 : decode cX3_growBricks 2 = .ok (.if_icmp .lt 9, 3) := by decide +kernel
theorem dX3_growBricks_5 : decode cX3_growBricks 5 = .ok (.iload_n 2, 1) := by decide +kernel
theorem dX3_growBricks_6 : decode cX3_growBricks 6 = .ok (.bipush 42, 2) := by decide +kernel
theorem dX3_growBricks_8 : decode cX3_growBricks 8 = .ok (.if_icmp .le 10, 3) := by decide +kernel
theorem dX3_growBricks_11 : decode cX3_growBricks 11 = .ok (.aload_n 0, 1) := by decide +kernel
theorem dX3_growBricks_12 : decode cX3_growBricks 12 = .ok (.iconst 1, 1) := by decide +kernel
theorem dX3_growBricks_13 : decode cX3_growBricks 13 = .ok (.iconst 0, 1) := by decide +kernel
theorem dX3_growBricks_14 : decode cX3_growBricks 14 = .ok (.invokevirtual 30, 3) := by decide +kernel
theorem dX3_growBricks_17 : decode cX3_growBricks 17 = .ok (.ireturn, 1) := by decide +kernel
theorem dX3_growBricks_18 : decode cX3_growBricks 18 = .ok (.aload_n 0, 1) := by decide +kernel
theorem dX3_growBricks_19 : decode cX3_growBricks 19 = .ok (.getfield 22, 3) := by decide +kernel
theorem dX3_growBricks_22 : decode cX3_growBricks 22 = .ok (.aload_n 1, 1) := by decide +kernel
theorem dX3_growBricks_23 : decode cX3_growBricks 23 = .ok (.iload_n 2, 1) := by decide +kernel
theorem dX3_growBricks_24 : decode cX3_growBricks 24 = .ok (.invokevirtual 88, 3) := by decide +kernel
theorem dX3_growBricks_27 : decode cX3_growBricks 27 = .ok (.istore_n 3, 1) := by decide +kernel
theorem dX3_growBricks_28 : decode cX3_growBricks 28 = .ok (.iload_n 3, 1) := by decide +kernel
theorem dX3_growBricks_29 : decode cX3_growBricks 29 = .ok (.ifCond .ne 18, 3) := by decide +kernel
theorem dX3_growBricks_32 : decode cX3_growBricks 32 = .ok (.aload_n 0, 1) := by decide +kernel
theorem dX3_growBricks_33 : decode cX3_growBricks 33 = .ok (.bipush 8, 2) := by decide +kernel
theorem dX3_growBricks_35 : decode cX3_growBricks 35 = .ok (.aload_n 0, 1) := by decide +kernel
theorem dX3_growBricks_36 : decode cX3_growBricks 36 = .ok (.getfield 22, 3) := by decide +kernel
theorem dX3_growBricks_39 : decode cX3_growBricks 39 = .ok (.aload_n 1, 1) := by decide +kernel
theorem dX3_growBricks_40 : decode cX3_growBricks 40 = .ok (.invokevirtual 93, 3) := by decide +kernel
theorem dX3_growBricks_43 : decode cX3_growBricks 43 = .ok (.invokevirtual 30, 3) := by decide +kernel
theorem dX3_growBricks_46 : decode cX3_growBricks 46 = .ok (.ireturn, 1) := by decide +kernel
theorem dX3_growBricks_47 : decode cX3_growBricks 47 = .ok (.iload_n 3, 1) := by decide +kernel
theorem dX3_growBricks_48 : decode cX3_growBricks 48 = .ok (.ireturn, 1) := by decide +kernel
theorem dX3_setStrength_0 : decode cX3_setStrength 0 = .ok (.iload_n 2, 1) := by decide +kernel
theorem dX3_setStrength_1 : decode cX3_setStrength 1 = .ok (.iconst 1, 1) := by decide +kernel
theorem dX3_setStrength_2 : decode cX3_setStrength 2 = .ok (.if_icmp .lt 18, 3) := by decide +kernel
theorem dX3_setStrength_5 : decode cX3_setStrength 5 = .ok (.iload_n 2, 1) := by decide +kernel
theorem dX3_setStrength_6 : decode cX3_setStrength 6 = .ok (.bipush 6, 2) := by decide +kernel
theorem dX3_setStrength_8 : decode cX3_setStrength 8 = .ok (.if_icmp .gt 12, 3) := by decide +kernel
theorem dX3_setStrength_11 : decode cX3_setStrength 11 = .ok (.iload_n 3, 1) := by decide +kernel
theorem dX3_setStrength_12 : decode cX3_setStrength 12 = .ok (.ifCond .lt 8, 3) := by decide +kernel
theorem dX3_setStrength_15 : decode cX3_setStrength 15 = .ok (.iload_n 3, 1) := by decide +kernel
theorem dX3_setStrength_16 : decode cX3_setStrength 16 = .ok (.iconst 3, 1) := by decide +kernel
theorem dX3_setStrength_17 : decode cX3_setStrength 17 = .ok (.if_icmp .le 10, 3) := by decide +kernel
theorem dX3_setStrength_20 : decode cX3_setStrength 20 = .ok (.aload_n 0, 1) := by decide +kernel
theorem dX3_setStrength_21 : decode cX3_setStrength 21 = .ok (.iconst 1, 1) := by decide +kernel
theorem dX3_setStrength_22 : decode cX3_setStrength 22 = .ok (.iconst 0, 1) := by decide +kernel
theorem dX3_setStrength_23 : decode cX3_setStrength 23 = .ok (.invokevirtual 30, 3) := by decide +kernel
theorem dX3_setStrength_26 : decode cX3_setStrength 26 = .ok (.ireturn, 1) := by decide +kernel
theorem dX3_setStrength_27 : decode cX3_setStrength 27 = .ok (.aload_n 1, 1) := by decide +kernel
theorem dX3_setStrength_28 : decode cX3_setStrength 28 = .ok (.getfield 97, 3) := by decide +kernel
theorem dX3_setStrength_31 : decode cX3_setStrength 31 = .ok (.iload_n 2, 1) := by decide +kernel
theorem dX3_setStrength_32 : decode cX3_setStrength 32 = .ok (.iaload, 1) := by decide +kernel
theorem dX3_setStrength_33 : decode cX3_setStrength 33 = .ok (.istore 4, 2) := by decide +kernel
theorem dX3_setStrength_35 : decode cX3_setStrength 35 = .ok (.iload 4, 2) := by decide +kernel
theorem dX3_setStrength_37 : decode cX3_setStrength 37 = .ok (.iload_n 3, 1) := by decide +kernel
theorem dX3_setStrength_38 : decode cX3_setStrength 38 = .ok (.if_icmp .ne 11, 3) := by decide +kernel
theorem dX3_setStrength_41 : decode cX3_setStrength 41 = .ok (.aload_n 0, 1) := by decide +kernel
theorem dX3_setStrength_42 : decode cX3_setStrength 42 = .ok (.bipush 9, 2) := by decide +kernel
theorem dX3_setStrength_44 : decode cX3_setStrength 44 = .ok (.iconst 0, 1) := by decide +kernel
theorem dX3_setStrength_45 : decode cX3_setStrength 45 = .ok (.invokevirtual 30, 3) := by decide +kernel
theorem dX3_setStrength_48 : decode cX3_setStrength 48 = .ok (.ireturn, 1) := by decide +kernel
theorem dX3_setStrength_49 : decode cX3_setStrength 49 = .ok (.aload_n 1, 1) := by decide +kernel
theorem dX3_setStrength_50 : decode cX3_setStrength 50 = .ok (.getfield 97, 3) := by decide +kernel
theorem dX3_setStrength_53 : decode cX3_setStrength 53 = .ok (.iload_n 2, 1) := by decide +kernel
theorem dX3_setStrength_54 : decode cX3_setStrength 54 = .ok (.iload_n 3, 1) := by decide +kernel
theorem dX3_setStrength_55 : decode cX3_setStrength 55 = .ok (.iastore, 1) := by decide +kernel
theorem dX3_setStrength_56 : decode cX3_setStrength 56 = .ok (.iload 4, 2) := by decide +kernel
theorem dX3_setStrength_58 : decode cX3_setStrength 58 = .ok (.ireturn, 1) := by decide +kernel
theorem dX3_setNeed_0 : decode cX3_setNeed 0 = .ok (.iload_n 2, 1) := by decide +kernel
theorem dX3_setNeed_1 : decode cX3_setNeed 1 = .ok (.iconst 1, 1) := by decide +kernel
theorem dX3_setNeed_2 : decode cX3_setNeed 2 = .ok (.if_icmp .lt 9, 3) := by decide +kernel
theorem dX3_setNeed_5 : decode cX3_setNeed 5 = .ok (.iload_n 2, 1) := by decide +kernel
theorem dX3_setNeed_6 : decode cX3_setNeed 6 = .ok (.bipush 6, 2) := by decide +kernel
theorem dX3_setNeed_8 : decode cX3_setNeed 8 = .ok (.if_icmp .le 10, 3) := by decide +kernel
theorem dX3_setNeed_11 : decode cX3_setNeed 11 = .ok (.aload_n 0, 1) := by decide +kernel
theorem dX3_setNeed_12 : decode cX3_setNeed 12 = .ok (.iconst 1, 1) := by decide +kernel
theorem dX3_setNeed_13 : decode cX3_setNeed 13 = .ok (.iconst 0, 1) := by decide +kernel
theorem dX3_setNeed_14 : decode cX3_setNeed 14 = .ok (.invokevirtual 30, 3) := by decide +kernel
theorem dX3_setNeed_17 : decode cX3_setNeed 17 = .ok (.ireturn, 1) := by decide +kernel
theorem dX3_setNeed_18 : decode cX3_setNeed 18 = .ok (.aload_n 1, 1) := by decide +kernel
theorem dX3_setNeed_19 : decode cX3_setNeed 19 = .ok (.getfield 75, 3) := by decide +kernel
theorem dX3_setNeed_22 : decode cX3_setNeed 22 = .ok (.istore_n 3, 1) := by decide +kernel
theorem dX3_setNeed_23 : decode cX3_setNeed 23 = .ok (.iload_n 3, 1) := by decide +kernel
theorem dX3_setNeed_24 : decode cX3_setNeed 24 = .ok (.iload_n 2, 1) := by decide +kernel
theorem dX3_setNeed_25 : decode cX3_setNeed 25 = .ok (.if_icmp .ne 11, 3) := by decide +kernel
theorem dX3_setNeed_28 : decode cX3_setNeed 28 = .ok (.aload_n 0, 1) := by decide +kernel
theorem dX3_setNeed_29 : decode cX3_setNeed 29 = .ok (.bipush 9, 2) := by decide +kernel
theorem dX3_setNeed_31 : decode cX3_setNeed 31 = .ok (.iconst 0, 1) := by decide +kernel
theorem dX3_setNeed_32 : decode cX3_setNeed 32 = .ok (.invokevirtual 30, 3) := by decide +kernel
theorem dX3_setNeed_35 : decode cX3_setNeed 35 = .ok (.ireturn, 1) := by decide +kernel
theorem dX3_setNeed_36 : decode cX3_setNeed 36 = .ok (.aload_n 1, 1) := by decide +kernel
theorem dX3_setNeed_37 : decode cX3_setNeed 37 = .ok (.iload_n 2, 1) := by decide +kernel
theorem dX3_setNeed_38 : decode cX3_setNeed 38 = .ok (.putfield 75, 3) := by decide +kernel
theorem dX3_setNeed_41 : decode cX3_setNeed 41 = .ok (.iload_n 3, 1) := by decide +kernel
theorem dX3_setNeed_42 : decode cX3_setNeed 42 = .ok (.ireturn, 1) := by decide +kernel
theorem dX3_refuse_0 : decode cX3_refuse 0 = .ok (.aload_n 0, 1) := by decide +kernel
theorem dX3_refuse_1 : decode cX3_refuse 1 = .ok (.iload_n 1, 1) := by decide +kernel
theorem dX3_refuse_2 : decode cX3_refuse 2 = .ok (.putfield 9, 3) := by decide +kernel
theorem dX3_refuse_5 : decode cX3_refuse 5 = .ok (.aload_n 0, 1) := by decide +kernel
theorem dX3_refuse_6 : decode cX3_refuse 6 = .ok (.iload_n 2, 1) := by decide +kernel
theorem dX3_refuse_7 : decode cX3_refuse 7 = .ok (.putfield 15, 3) := by decide +kernel
theorem dX3_refuse_10 : decode cX3_refuse 10 = .ok (.iconst (-1), 1) := by decide +kernel
theorem dX3_refuse_11 : decode cX3_refuse 11 = .ok (.ireturn, 1) := by decide +kernel
theorem dX3_isGlue_0 : decode cX3_isGlue 0 = .ok (.iload_n 0, 1) := by decide +kernel
theorem dX3_isGlue_1 : decode cX3_isGlue 1 = .ok (.ifCond .lt 13, 3) := by decide +kernel
theorem dX3_isGlue_4 : decode cX3_isGlue 4 = .ok (.iload_n 0, 1) := by decide +kernel
theorem dX3_isGlue_5 : decode cX3_isGlue 5 = .ok (.bipush 6, 2) := by decide +kernel
theorem dX3_isGlue_7 : decode cX3_isGlue 7 = .ok (.if_icmp .gt 7, 3) := by decide +kernel
theorem dX3_isGlue_10 : decode cX3_isGlue 10 = .ok (.iconst 1, 1) := by decide +kernel
theorem dX3_isGlue_11 : decode cX3_isGlue 11 = .ok (.goto 4, 3) := by decide +kernel
theorem dX3_isGlue_14 : decode cX3_isGlue 14 = .ok (.iconst 0, 1) := by decide +kernel
theorem dX3_isGlue_15 : decode cX3_isGlue 15 = .ok (.ireturn, 1) := by decide +kernel
theorem dX4_init_0 : decode cX4_init 0 = .ok (.aload_n 0, 1) := by decide +kernel
theorem dX4_init_1 : decode cX4_init 1 = .ok (.invokespecial 3, 3) := by decide +kernel
theorem dX4_init_4 : decode cX4_init 4 = .ok (.aload_n 0, 1) := by decide +kernel
theorem dX4_init_5 : decode cX4_init 5 = .ok (.bipush 60, 2) := by decide +kernel
theorem dX4_init_7 : decode cX4_init 7 = .ok (.newarray .char, 2) := by decide +kernel
theorem dX4_init_9 : decode cX4_init 9 = .ok (.putfield 9, 3) := by decide +kernel
theorem dX4_init_12 : decode cX4_init 12 = .ok (.aload_n 0, 1) := by decide +kernel
theorem dX4_init_13 : decode cX4_init 13 = .ok (.bipush 30, 2) := by decide +kernel
theorem dX4_init_15 : decode cX4_init 15 = .ok (.newarray .char, 2) := by decide +kernel
theorem dX4_init_17 : decode cX4_init 17 = .ok (.putfield 15, 3) := by decide +kernel
theorem dX4_init_20 : decode cX4_init 20 = .ok (.aload_n 0, 1) := by decide +kernel
theorem dX4_init_21 : decode cX4_init 21 = .ok (.bipush 120, 2) := by decide +kernel
theorem dX4_init_23 : decode cX4_init 23 = .ok (.newarray .int, 2) := by decide +kernel
theorem dX4_init_25 : decode cX4_init 25 = .ok (.putfield 18, 3) := by decide +kernel
theorem dX4_init_28 : decode cX4_init 28 = .ok (.aload_n 0, 1) := by decide +kernel
theorem dX4_init_29 : decode cX4_init 29 = .ok (.iconst 0, 1) := by decide +kernel
theorem dX4_init_30 : decode cX4_init 30 = .ok (.putfield 22, 3) := by decide +kernel
theorem dX4_init_33 : decode cX4_init 33 = .ok (.aload_n 0, 1) := by decide +kernel
theorem dX4_init_34 : decode cX4_init 34 = .ok (.iconst 0, 1) := by decide +kernel
theorem dX4_init_35 : decode cX4_init 35 = .ok (.putfield 26, 3) := by decide +kernel
theorem dX4_init_38 : decode cX4_init 38 = .ok (.aload_n 0, 1) := by decide +kernel
theorem dX4_init_39 : decode cX4_init 39 = .ok (.iconst 0, 1) := by decide +kernel
theorem dX4_init_40 : decode cX4_init 40 = .ok (.putfield 29, 3) := by decide +kernel
theorem dX4_init_43 : decode cX4_init 43 = .ok (.return_, 1) := by decide +kernel
theorem dX4_isFull_0 : decode cX4_isFull 0 = .ok (.aload_n 0, 1) := by decide +kernel
theorem dX4_isFull_1 : decode cX4_isFull 1 = .ok (.getfield 26, 3) := by decide +kernel
theorem dX4_isFull_4 : decode cX4_isFull 4 = .ok (.bipush 60, 2) := by decide +kernel
theorem dX4_isFull_6 : decode cX4_isFull 6 = .ok (.if_icmp .lt 7, 3) := by decide +kernel
theorem dX4_isFull_9 : decode cX4_isFull 9 = .ok (.iconst 1, 1) := by decide +kernel
theorem dX4_isFull_10 : decode cX4_isFull 10 = .ok (.goto 4, 3) := by decide +kernel
theorem dX4_isFull_13 : decode cX4_isFull 13 = .ok (.iconst 0, 1) := by decide +kernel
theorem dX4_isFull_14 : decode cX4_isFull 14 = .ok (.ireturn, 1) := by decide +kernel
theorem dX4_add_0 : decode cX4_add 0 = .ok (.aload_n 0, 1) := by decide +kernel
theorem dX4_add_1 : decode cX4_add 1 = .ok (.invokevirtual 32, 3) := by decide +kernel
theorem dX4_add_4 : decode cX4_add 4 = .ok (.ifCond .ne 23, 3) := by decide +kernel
theorem dX4_add_7 : decode cX4_add 7 = .ok (.aload_n 0, 1) := by decide +kernel
theorem dX4_add_8 : decode cX4_add 8 = .ok (.getfield 9, 3) := by decide +kernel
theorem dX4_add_11 : decode cX4_add 11 = .ok (.aload_n 0, 1) := by decide +kernel
theorem dX4_add_12 : decode cX4_add 12 = .ok (.getfield 26, 3) := by decide +kernel
theorem dX4_add_15 : decode cX4_add 15 = .ok (.iload_n 1, 1) := by decide +kernel
theorem dX4_add_16 : decode cX4_add 16 = .ok (.castore, 1) := by decide +kernel
theorem dX4_add_17 : decode cX4_add 17 = .ok (.aload_n 0, 1) := by decide +kernel
theorem dX4_add_18 : decode cX4_add 18 = .ok (.dup, 1) := by decide +kernel
theorem dX4_add_19 : decode cX4_add 19 = .ok (.getfield 26, 3) := by decide +kernel
theorem dX4_add_22 : decode cX4_add 22 = .ok (.iconst 1, 1) := by decide +kernel
theorem dX4_add_23 : decode cX4_add 23 = .ok (.iadd, 1) := by decide +kernel
theorem dX4_add_24 : decode cX4_add 24 = .ok (.putfield 26, 3) := by decide +kernel
theorem dX4_add_27 : decode cX4_add 27 = .ok (.aload_n 0, 1) := by decide +kernel
theorem dX4_add_28 : decode cX4_add 28 = .ok (.getfield 26, 3) := by decide +kernel
theorem dX4_add_31 : decode cX4_add 31 = .ok (.ireturn, 1) := by decide +kernel
theorem dX4_clear_0 : decode cX4_clear 0 = .ok (.aload_n 0, 1) := by decide +kernel
theorem dX4_clear_1 : decode cX4_clear 1 = .ok (.iconst 0, 1) := by decide +kernel
theorem dX4_clear_2 : decode cX4_clear 2 = .ok (.putfield 26, 3) := by decide +kernel
theorem dX4_clear_5 : decode cX4_clear 5 = .ok (.return_, 1) := by decide +kernel
theorem dX4_deedOf_0 : decode cX4_deedOf 0 = .ok (.iload_n 1, 1) := by decide +kernel
theorem dX4_deedOf_1 : decode cX4_deedOf 1 = .ok (.ifCond .lt 18, 3) := by decide +kernel
theorem dX4_deedOf_4 : decode cX4_deedOf 4 = .ok (.iload_n 1, 1) := by decide +kernel
theorem dX4_deedOf_5 : decode cX4_deedOf 5 = .ok (.bipush 30, 2) := by decide +kernel
theorem dX4_deedOf_7 : decode cX4_deedOf 7 = .ok (.if_icmp .ge 12, 3) := by decide +kernel
theorem dX4_deedOf_10 : decode cX4_deedOf 10 = .ok (.aload_n 0, 1) := by decide +kernel
theorem dX4_deedOf_11 : decode cX4_deedOf 11 = .ok (.getfield 15, 3) := by decide +kernel
theorem dX4_deedOf_14 : decode cX4_deedOf 14 = .ok (.iload_n 1, 1) := by decide +kernel
theorem dX4_deedOf_15 : decode cX4_deedOf 15 = .ok (.caload, 1) := by decide +kernel
theorem dX4_deedOf_16 : decode cX4_deedOf 16 = .ok (.goto 5, 3) := by decide +kernel
theorem dX4_deedOf_19 : decode cX4_deedOf 19 = .ok (.bipush 32, 2) := by decide +kernel
theorem dX4_deedOf_21 : decode cX4_deedOf 21 = .ok (.ireturn, 1) := by decide +kernel
theorem dX4_numberOf_0 : decode cX4_numberOf 0 = .ok (.iload_n 1, 1) := by decide +kernel
theorem dX4_numberOf_1 : decode cX4_numberOf 1 = .ok (.iconst 4, 1) := by decide +kernel
theorem dX4_numberOf_2 : decode cX4_numberOf 2 = .ok (.imul, 1) := by decide +kernel
theorem dX4_numberOf_3 : decode cX4_numberOf 3 = .ok (.iload_n 2, 1) := by decide +kernel
theorem dX4_numberOf_4 : decode cX4_numberOf 4 = .ok (.iadd, 1) := by decide +kernel
theorem dX4_numberOf_5 : decode cX4_numberOf 5 = .ok (.istore_n 3, 1) := by decide +kernel
theorem dX4_numberOf_6 : decode cX4_numberOf 6 = .ok (.iload_n 3, 1) := by decide +kernel
theorem dX4_numberOf_7 : decode cX4_numberOf 7 = .ok (.ifCond .lt 18, 3) := by decide +kernel
theorem dX4_numberOf_10 : decode cX4_numberOf 10 = .ok (.iload_n 3, 1) := by decide +kernel
theorem dX4_numberOf_11 : decode cX4_numberOf 11 = .ok (.bipush 120, 2) := by decide +kernel
theorem dX4_numberOf_13 : decode cX4_numberOf 13 = .ok (.if_icmp .ge 12, 3) := by decide +kernel
theorem dX4_numberOf_16 : decode cX4_numberOf 16 = .ok (.aload_n 0, 1) := by decide +kernel
theorem dX4_numberOf_17 : decode cX4_numberOf 17 = .ok (.getfield 18, 3) := by decide +kernel
theorem dX4_numberOf_20 : decode cX4_numberOf 20 = .ok (.iload_n 3, 1) := by decide +kernel
theorem dX4_numberOf_21 : decode cX4_numberOf 21 = .ok (.iaload, 1) := by decide +kernel
theorem dX4_numberOf_22 : decode cX4_numberOf 22 = .ok (.goto 4, 3) := by decide +kernel
theorem dX4_numberOf_25 : decode cX4_numberOf 25 = .ok (.iconst 0, 1) := by decide +kernel
theorem dX4_numberOf_26 : decode cX4_numberOf 26 = .ok (.ireturn, 1) := by decide +kernel
theorem dX4_read_0 : decode cX4_read 0 = .ok (.aload_n 0, 1) := by decide +kernel
theorem dX4_read_1 : decode cX4_read 1 = .ok (.iconst 0, 1) := by decide +kernel
theorem dX4_read_2 : decode cX4_read 2 = .ok (.putfield 22, 3) := by decide +kernel
theorem dX4_read_5 : decode cX4_read 5 = .ok (.aload_n 0, 1) := by decide +kernel
theorem dX4_read_6 : decode cX4_read 6 = .ok (.iconst 0, 1) := by decide +kernel
theorem dX4_read_7 : decode cX4_read 7 = .ok (.putfield 29, 3) := by decide +kernel
theorem dX4_read_10 : decode cX4_read 10 = .ok (.aload_n 0, 1) := by decide +kernel
theorem dX4_read_11 : decode cX4_read 11 = .ok (.getfield 29, 3) := by decide +kernel
theorem dX4_read_14 : decode cX4_read 14 = .ok (.bipush 30, 2) := by decide +kernel
theorem dX4_read_16 : decode cX4_read 16 = .ok (.if_icmp .ge 52, 3) := by decide +kernel
theorem dX4_read_19 : decode cX4_read 19 = .ok (.aload_n 0, 1) := by decide +kernel
theorem dX4_read_20 : decode cX4_read 20 = .ok (.invokevirtual 36, 3) := by decide +kernel
theorem dX4_read_23 : decode cX4_read 23 = .ok (.ifCond .ne 8, 3) := by decide +kernel
theorem dX4_read_26 : decode cX4_read 26 = .ok (.aload_n 0, 1) := by decide +kernel
theorem dX4_read_27 : decode cX4_read 27 = .ok (.getfield 22, 3) := by decide +kernel
theorem dX4_read_30 : decode cX4_read 30 = .ok (.ireturn, 1) := by decide +kernel
theorem dX4_read_31 : decode cX4_read 31 = .ok (.aload_n 0, 1) := by decide +kernel
theorem dX4_read_32 : decode cX4_read 32 = .ok (.dup, 1) := by decide +kernel
theorem dX4_read_33 : decode cX4_read 33 = .ok (.getfield 29, 3) := by decide +kernel
theorem dX4_read_36 : decode cX4_read 36 = .ok (.iconst 1, 1) := by decide +kernel
theorem dX4_read_37 : decode cX4_read 37 = .ok (.iadd, 1) := by decide +kernel
theorem dX4_read_38 : decode cX4_read 38 = .ok (.putfield 29, 3) := by decide +kernel
theorem dX4_read_41 : decode cX4_read 41 = .ok (.aload_n 0, 1) := by decide +kernel
theorem dX4_read_42 : decode cX4_read 42 = .ok (.getfield 22, 3) := by decide +kernel
theorem dX4_read_45 : decode cX4_read 45 = .ok (.aload_n 0, 1) := by decide +kernel
theorem dX4_read_46 : decode cX4_read 46 = .ok (.getfield 26, 3) := by decide +kernel
theorem dX4_read_49 : decode cX4_read 49 = .ok (.if_icmp .ne 5, 3) := by decide +kernel
theorem dX4_read_52 : decode cX4_read 52 = .ok (.iconst (-1), 1) := by decide +kernel
theorem dX4_read_53 : decode cX4_read 53 = .ok (.ireturn, 1) := by decide +kernel
theorem dX4_read_54 : decode cX4_read 54 = .ok (.aload_n 0, 1) := by decide +kernel
theorem dX4_read_55 : decode cX4_read 55 = .ok (.bipush 59, 2) := by decide +kernel
theorem dX4_read_57 : decode cX4_read 57 = .ok (.invokevirtual 39, 3) := by decide +kernel
theorem dX4_read_60 : decode cX4_read 60 = .ok (.ifCond .ne (-50), 3) := by decide +kernel
theorem dX4_read_63 : decode cX4_read 63 = .ok (.aload_n 0, 1) := by decide +kernel
theorem dX4_read_64 : decode cX4_read 64 = .ok (.getfield 22, 3) := by decide +kernel
theorem dX4_read_67 : decode cX4_read 67 = .ok (.ireturn, 1) := by decide +kernel
theorem dX4_read_68 : decode cX4_read 68 = .ok (.aload_n 0, 1) := by decide +kernel
theorem dX4_read_69 : decode cX4_read 69 = .ok (.getfield 22, 3) := by decide +kernel
theorem dX4_read_72 : decode cX4_read 72 = .ok (.ireturn, 1) := by decide +kernel
theorem dX4_readCommand_0 : decode cX4_readCommand 0 = .ok (.aload_n 0, 1) := by decide +kernel
theorem dX4_readCommand_1 : decode cX4_readCommand 1 = .ok (.invokevirtual 43, 3) := by decide +kernel
theorem dX4_readCommand_4 : decode cX4_readCommand 4 = .ok (.istore_n 1, 1) := by decide +kernel
theorem dX4_readCommand_5 : decode cX4_readCommand 5 = .ok (.aload_n 0, 1) := by decide +kernel
theorem dX4_readCommand_6 : decode cX4_readCommand 6 = .ok (.getfield 15, 3) := by decide +kernel
theorem dX4_readCommand_9 : decode cX4_readCommand 9 = .ok (.aload_n 0, 1) := by decide +kernel
theorem dX4_readCommand_10 : decode cX4_readCommand 10 = .ok (.getfield 29, 3) := by decide +kernel
theorem dX4_readCommand_13 : decode cX4_readCommand 13 = .ok (.iload_n 1, 1) := by decide +kernel
theorem dX4_readCommand_14 : decode cX4_readCommand 14 = .ok (.castore, 1) := by decide +kernel
theorem dX4_readCommand_15 : decode cX4_readCommand 15 = .ok (.iload_n 1, 1) := by decide +kernel
theorem dX4_readCommand_16 : decode cX4_readCommand 16 = .ok (.tableswitch 151 103 116 #[103, 151, 151, 151, 72, 88, 151, 135, 151, 151, 151, 151, 119, 103], 72) := by decide +kernel
theorem dX4_readCommand_88 : decode cX4_readCommand 88 = .ok (.aload_n 0, 1) := by decide +kernel
theorem dX4_readCommand_89 : decode cX4_readCommand 89 = .ok (.dup, 1) := by decide +kernel
theorem dX4_readCommand_90 : decode cX4_readCommand 90 = .ok (.getfield 22, 3) := by decide +kernel
theorem dX4_readCommand_93 : decode cX4_readCommand 93 = .ok (.iconst 1, 1) := by decide +kernel
theorem dX4_readCommand_94 : decode cX4_readCommand 94 = .ok (.iadd, 1) := by decide +kernel
theorem dX4_readCommand_95 : decode cX4_readCommand 95 = .ok (.putfield 22, 3) := by decide +kernel
theorem dX4_readCommand_98 : decode cX4_readCommand 98 = .ok (.aload_n 0, 1) := by decide +kernel
theorem dX4_readCommand_99 : decode cX4_readCommand 99 = .ok (.iconst 4, 1) := by decide +kernel
theorem dX4_readCommand_100 : decode cX4_readCommand 100 = .ok (.invokevirtual 47, 3) := by decide +kernel
theorem dX4_readCommand_103 : decode cX4_readCommand 103 = .ok (.ireturn, 1) := by decide +kernel
theorem dX4_readCommand_104 : decode cX4_readCommand 104 = .ok (.aload_n 0, 1) := by decide +kernel
theorem dX4_readCommand_105 : decode cX4_readCommand 105 = .ok (.dup, 1) := by decide +kernel
theorem dX4_readCommand_106 : decode cX4_readCommand 106 = .ok (.getfield 22, 3) := by decide +kernel
theorem dX4_readCommand_109 : decode cX4_readCommand 109 = .ok (.iconst 1, 1) := by decide +kernel
theorem dX4_readCommand_110 : decode cX4_readCommand 110 = .ok (.iadd, 1) := by decide +kernel
theorem dX4_readCommand_111 : decode cX4_readCommand 111 = .ok (.putfield 22, 3) := by decide +kernel
theorem dX4_readCommand_114 : decode cX4_readCommand 114 = .ok (.aload_n 0, 1) := by decide +kernel
theorem dX4_readCommand_115 : decode cX4_readCommand 115 = .ok (.invokevirtual 51, 3) := by decide +kernel
theorem dX4_readCommand_118 : decode cX4_readCommand 118 = .ok (.ireturn, 1) := by decide +kernel
theorem dX4_readCommand_119 : decode cX4_readCommand 119 = .ok (.aload_n 0, 1) := by decide +kernel
theorem dX4_readCommand_120 : decode cX4_readCommand 120 = .ok (.dup, 1) := by decide +kernel
theorem dX4_readCommand_121 : decode cX4_readCommand 121 = .ok (.getfield 22, 3) := by decide +kernel
theorem dX4_readCommand_124 : decode cX4_readCommand 124 = .ok (.iconst 1, 1) := by decide +kernel
theorem dX4_readCommand_125 : decode cX4_readCommand 125 = .ok (.iadd, 1) := by decide +kernel
theorem dX4_readCommand_126 : decode cX4_readCommand 126 = .ok (.putfield 22, 3) := by decide +kernel
theorem dX4_readCommand_129 : decode cX4_readCommand 129 = .ok (.aload_n 0, 1) := by decide +kernel
theorem dX4_readCommand_130 : decode cX4_readCommand 130 = .ok (.iconst 0, 1) := by decide +kernel
theorem dX4_readCommand_131 : decode cX4_readCommand 131 = .ok (.invokevirtual 54, 3) := by decide +kernel
theorem dX4_readCommand_134 : decode cX4_readCommand 134 = .ok (.ireturn, 1) := by decide +kernel
theorem dX4_readCommand_135 : decode cX4_readCommand 135 = .ok (.aload_n 0, 1) := by decide +kernel
theorem dX4_readCommand_136 : decode cX4_readCommand 136 = .ok (.dup, 1) := by decide +kernel
theorem dX4_readCommand_137 : decode cX4_readCommand 137 = .ok (.getfield 22, 3) := by decide +kernel
theorem dX4_readCommand_140 : decode cX4_readCommand 140 = .ok (.iconst 1, 1) := by decide +kernel
theorem dX4_readCommand_141 : decode cX4_readCommand 141 = .ok (.iadd, 1) := by decide +kernel
theorem dX4_readCommand_142 : decode cX4_readCommand 142 = .ok (.putfield 22, 3) := by decide +kernel
theorem dX4_readCommand_145 : decode cX4_readCommand 145 = .ok (.aload_n 0, 1) := by decide +kernel
theorem dX4_readCommand_146 : decode cX4_readCommand 146 = .ok (.iconst 2, 1) := by decide +kernel
theorem dX4_readCommand_147 : decode cX4_readCommand 147 = .ok (.invokevirtual 47, 3) := by decide +kernel
theorem dX4_readCommand_150 : decode cX4_readCommand 150 = .ok (.ireturn, 1) := by decide +kernel
theorem dX4_readCommand_151 : decode cX4_readCommand 151 = .ok (.aload_n 0, 1) := by decide +kernel
theorem dX4_readCommand_152 : decode cX4_readCommand 152 = .ok (.dup, 1) := by decide +kernel
theorem dX4_readCommand_153 : decode cX4_readCommand 153 = .ok (.getfield 22, 3) := by decide +kernel
theorem dX4_readCommand_156 : decode cX4_readCommand 156 = .ok (.iconst 1, 1) := by decide +kernel
theorem dX4_readCommand_157 : decode cX4_readCommand 157 = .ok (.iadd, 1) := by decide +kernel
theorem dX4_readCommand_158 : decode cX4_readCommand 158 = .ok (.putfield 22, 3) := by decide +kernel
theorem dX4_readCommand_161 : decode cX4_readCommand 161 = .ok (.aload_n 0, 1) := by decide +kernel
theorem dX4_readCommand_162 : decode cX4_readCommand 162 = .ok (.iconst 1, 1) := by decide +kernel
theorem dX4_readCommand_163 : decode cX4_readCommand 163 = .ok (.invokevirtual 47, 3) := by decide +kernel
theorem dX4_readCommand_166 : decode cX4_readCommand 166 = .ok (.ireturn, 1) := by decide +kernel
theorem dX4_readCommand_167 : decode cX4_readCommand 167 = .ok (.iconst 0, 1) := by decide +kernel
theorem dX4_readCommand_168 : decode cX4_readCommand 168 = .ok (.ireturn, 1) := by decide +kernel
theorem dX4_readPlaceAndBrick_0 : decode cX4_readPlaceAndBrick 0 = .ok (.aload_n 0, 1) := by decide +kernel
theorem dX4_readPlaceAndBrick_1 : decode cX4_readPlaceAndBrick 1 = .ok (.iconst 0, 1) := by decide +kernel
theorem dX4_readPlaceAndBrick_2 : decode cX4_readPlaceAndBrick 2 = .ok (.invokevirtual 54, 3) := by decide +kernel
theorem dX4_readPlaceAndBrick_5 : decode cX4_readPlaceAndBrick 5 = .ok (.ifCond .eq 20, 3) := by decide +kernel
theorem dX4_readPlaceAndBrick_8 : decode cX4_readPlaceAndBrick 8 = .ok (.aload_n 0, 1) := by decide +kernel
theorem dX4_readPlaceAndBrick_9 : decode cX4_readPlaceAndBrick 9 = .ok (.bipush 58, 2) := by decide +kernel
theorem dX4_readPlaceAndBrick_11 : decode cX4_readPlaceAndBrick 11 = .ok (.invokevirtual 39, 3) := by decide +kernel
theorem dX4_readPlaceAndBrick_14 : decode cX4_readPlaceAndBrick 14 = .ok (.ifCond .eq 11, 3) := by decide +kernel
theorem dX4_readPlaceAndBrick_17 : decode cX4_readPlaceAndBrick 17 = .ok (.aload_n 0, 1) := by decide +kernel
theorem dX4_readPlaceAndBrick_18 : decode cX4_readPlaceAndBrick 18 = .ok (.iconst 1, 1) := by decide +kernel
theorem dX4_readPlaceAndBrick_19 : decode cX4_readPlaceAndBrick 19 = .ok (.invokevirtual 57, 3) := by decide +kernel
theorem dX4_readPlaceAndBrick_22 : decode cX4_readPlaceAndBrick 22 = .ok (.ifCond .ne 5, 3) := by decide +kernel
theorem dX4_readPlaceAndBrick_25 : decode cX4_readPlaceAndBrick 25 = .ok (.iconst 0, 1) := by decide +kernel
theorem dX4_readPlaceAndBrick_26 : decode cX4_readPlaceAndBrick 26 = .ok (.ireturn, 1) := by decide +kernel
theorem dX4_readPlaceAndBrick_27 : decode cX4_readPlaceAndBrick 27 = .ok (.iconst 0, 1) := by decide +kernel
theorem dX4_readPlaceAndBrick_28 : decode cX4_readPlaceAndBrick 28 = .ok (.istore_n 1, 1) := by decide +kernel
theorem dX4_readPlaceAndBrick_29 : decode cX4_readPlaceAndBrick 29 = .ok (.iload_n 1, 1) := by decide +kernel
theorem dX4_readPlaceAndBrick_30 : decode cX4_readPlaceAndBrick 30 = .ok (.iconst 3, 1) := by decide +kernel
theorem dX4_readPlaceAndBrick_31 : decode cX4_readPlaceAndBrick 31 = .ok (.if_icmp .ge 18, 3) := by decide +kernel
theorem dX4_readPlaceAndBrick_34 : decode cX4_readPlaceAndBrick 34 = .ok (.aload_n 0, 1) := by decide +kernel
theorem dX4_readPlaceAndBrick_35 : decode cX4_readPlaceAndBrick 35 = .ok (.bipush 42, 2) := by decide +kernel
theorem dX4_readPlaceAndBrick_37 : decode cX4_readPlaceAndBrick 37 = .ok (.invokevirtual 39, 3) := by decide +kernel
theorem dX4_readPlaceAndBrick_40 : decode cX4_readPlaceAndBrick 40 = .ok (.ifCond .eq 9, 3) := by decide +kernel
theorem dX4_readPlaceAndBrick_43 : decode cX4_readPlaceAndBrick 43 = .ok (.iinc 1 1, 3) := by decide +kernel
theorem dX4_readPlaceAndBrick_46 : decode cX4_readPlaceAndBrick 46 = .ok (.goto (-17), 3) := by decide +kernel
theorem dX4_readPlaceAndBrick_49 : decode cX4_readPlaceAndBrick 49 = .ok (.aload_n 0, 1) := by decide +kernel
theorem dX4_readPlaceAndBrick_50 : decode cX4_readPlaceAndBrick 50 = .ok (.iconst 2, 1) := by decide +kernel
theorem dX4_readPlaceAndBrick_51 : decode cX4_readPlaceAndBrick 51 = .ok (.iload_n 1, 1) := by decide +kernel
theorem dX4_readPlaceAndBrick_52 : decode cX4_readPlaceAndBrick 52 = .ok (.invokevirtual 60, 3) := by decide +kernel
theorem dX4_readPlaceAndBrick_55 : decode cX4_readPlaceAndBrick 55 = .ok (.iconst 1, 1) := by decide +kernel
theorem dX4_readPlaceAndBrick_56 : decode cX4_readPlaceAndBrick 56 = .ok (.ireturn, 1) := by decide +kernel
theorem dX4_readDigits_0 : decode cX4_readDigits 0 = .ok (.iconst 0, 1) := by decide +kernel
theorem dX4_readDigits_1 : decode cX4_readDigits 1 = .ok (.istore_n 2, 1) := by decide +kernel
theorem dX4_readDigits_2 : decode cX4_readDigits 2 = .ok (.iload_n 2, 1) := by decide +kernel
theorem dX4_readDigits_3 : decode cX4_readDigits 3 = .ok (.iload_n 1, 1) := by decide +kernel
theorem dX4_readDigits_4 : decode cX4_readDigits 4 = .ok (.if_icmp .ge 19, 3) := by decide +kernel
theorem dX4_readDigits_7 : decode cX4_readDigits 7 = .ok (.aload_n 0, 1) := by decide +kernel
theorem dX4_readDigits_8 : decode cX4_readDigits 8 = .ok (.iload_n 2, 1) := by decide +kernel
theorem dX4_readDigits_9 : decode cX4_readDigits 9 = .ok (.invokevirtual 57, 3) := by decide +kernel
theorem dX4_readDigits_12 : decode cX4_readDigits 12 = .ok (.ifCond .ne 5, 3) := by decide +kernel
theorem dX4_readDigits_15 : decode cX4_readDigits 15 = .ok (.iconst 0, 1) := by decide +kernel
theorem dX4_readDigits_16 : decode cX4_readDigits 16 = .ok (.ireturn, 1) := by decide +kernel
theorem dX4_readDigits_17 : decode cX4_readDigits 17 = .ok (.iinc 2 1, 3) := by decide +kernel
theorem dX4_readDigits_20 : decode cX4_readDigits 20 = .ok (.goto (-18), 3) := by decide +kernel
theorem dX4_readDigits_23 : decode cX4_readDigits 23 = .ok (.iconst 1, 1) := by decide +kernel
theorem dX4_readDigits_24 : decode cX4_readDigits 24 = .ok (.ireturn, 1) := by decide +kernel
theorem dX4_readNumber_0 : decode cX4_readNumber 0 = .ok (.aload_n 0, 1) := by decide +kernel
theorem dX4_readNumber_1 : decode cX4_readNumber 1 = .ok (.iload_n 1, 1) := by decide +kernel
theorem dX4_readNumber_2 : decode cX4_readNumber 2 = .ok (.invokevirtual 57, 3) := by decide +kernel
theorem dX4_readNumber_5 : decode cX4_readNumber 5 = .ok (.ifCond .ne 5, 3) := by decide +kernel
theorem dX4_readNumber_8 : decode cX4_readNumber 8 = .ok (.iconst 0, 1) := by decide +kernel
theorem dX4_readNumber_9 : decode cX4_readNumber 9 = .ok (.ireturn, 1) := by decide +kernel
theorem dX4_readNumber_10 : decode cX4_readNumber 10 = .ok (.aload_n 0, 1) := by decide +kernel
theorem dX4_readNumber_11 : decode cX4_readNumber 11 = .ok (.aload_n 0, 1) := by decide +kernel
theorem dX4_readNumber_12 : decode cX4_readNumber 12 = .ok (.getfield 29, 3) := by decide +kernel
theorem dX4_readNumber_15 : decode cX4_readNumber 15 = .ok (.iload_n 1, 1) := by decide +kernel
theorem dX4_readNumber_16 : decode cX4_readNumber 16 = .ok (.invokevirtual 64, 3) := by decide +kernel
theorem dX4_readNumber_19 : decode cX4_readNumber 19 = .ok (.istore_n 2, 1) := by decide +kernel
theorem dX4_readNumber_20 : decode cX4_readNumber 20 = .ok (.aload_n 0, 1) := by decide +kernel
theorem dX4_readNumber_21 : decode cX4_readNumber 21 = .ok (.iload_n 1, 1) := by decide +kernel
theorem dX4_readNumber_22 : decode cX4_readNumber 22 = .ok (.invokevirtual 57, 3) := by decide +kernel
theorem dX4_readNumber_25 : decode cX4_readNumber 25 = .ok (.ifCond .eq 22, 3) := by decide +kernel
theorem dX4_readNumber_28 : decode cX4_readNumber 28 = .ok (.aload_n 0, 1) := by decide +kernel
theorem dX4_readNumber_29 : decode cX4_readNumber 29 = .ok (.iload_n 1, 1) := by decide +kernel
theorem dX4_readNumber_30 : decode cX4_readNumber 30 = .ok (.bipush 10, 2) := by decide +kernel
theorem dX4_readNumber_32 : decode cX4_readNumber 32 = .ok (.iload_n 2, 1) := by decide +kernel
theorem dX4_readNumber_33 : decode cX4_readNumber 33 = .ok (.imul, 1) := by decide +kernel
theorem dX4_readNumber_34 : decode cX4_readNumber 34 = .ok (.aload_n 0, 1) := by decide +kernel
theorem dX4_readNumber_35 : decode cX4_readNumber 35 = .ok (.aload_n 0, 1) := by decide +kernel
theorem dX4_readNumber_36 : decode cX4_readNumber 36 = .ok (.getfield 29, 3) := by decide +kernel
theorem dX4_readNumber_39 : decode cX4_readNumber 39 = .ok (.iload_n 1, 1) := by decide +kernel
theorem dX4_readNumber_40 : decode cX4_readNumber 40 = .ok (.invokevirtual 64, 3) := by decide +kernel
theorem dX4_readNumber_43 : decode cX4_readNumber 43 = .ok (.iadd, 1) := by decide +kernel
theorem dX4_readNumber_44 : decode cX4_readNumber 44 = .ok (.invokevirtual 60, 3) := by decide +kernel
theorem dX4_readNumber_47 : decode cX4_readNumber 47 = .ok (.iconst 1, 1) := by decide +kernel
theorem dX4_readNumber_48 : decode cX4_readNumber 48 = .ok (.ireturn, 1) := by decide +kernel
theorem dX4_readDigit_0 : decode cX4_readDigit 0 = .ok (.aload_n 0, 1) := by decide +kernel
theorem dX4_readDigit_1 : decode cX4_readDigit 1 = .ok (.invokevirtual 43, 3) := by decide +kernel
theorem dX4_readDigit_4 : decode cX4_readDigit 4 = .ok (.istore_n 2, 1) := by decide +kernel
theorem dX4_readDigit_5 : decode cX4_readDigit 5 = .ok (.iload_n 2, 1) := by decide +kernel
theorem dX4_readDigit_6 : decode cX4_readDigit 6 = .ok (.bipush 48, 2) := by decide +kernel
theorem dX4_readDigit_8 : decode cX4_readDigit 8 = .ok (.if_icmp .lt 9, 3) := by decide +kernel
theorem dX4_readDigit_11 : decode cX4_readDigit 11 = .ok (.iload_n 2, 1) := by decide +kernel
theorem dX4_readDigit_12 : decode cX4_readDigit 12 = .ok (.bipush 57, 2) := by decide +kernel
theorem dX4_readDigit_14 : decode cX4_readDigit 14 = .ok (.if_icmp .le 5, 3) := by decide +kernel
theorem dX4_readDigit_17 : decode cX4_readDigit 17 = .ok (.iconst 0, 1) := by decide +kernel
theorem dX4_readDigit_18 : decode cX4_readDigit 18 = .ok (.ireturn, 1) := by decide +kernel
theorem dX4_readDigit_19 : decode cX4_readDigit 19 = .ok (.aload_n 0, 1) := by decide +kernel
theorem dX4_readDigit_20 : decode cX4_readDigit 20 = .ok (.iload_n 1, 1) := by decide +kernel
theorem dX4_readDigit_21 : decode cX4_readDigit 21 = .ok (.iload_n 2, 1) := by decide +kernel
theorem dX4_readDigit_22 : decode cX4_readDigit 22 = .ok (.bipush 48, 2) := by decide +kernel
theorem dX4_readDigit_24 : decode cX4_readDigit 24 = .ok (.isub, 1) := by decide +kernel
theorem dX4_readDigit_25 : decode cX4_readDigit 25 = .ok (.invokevirtual 60, 3) := by decide +kernel
theorem dX4_readDigit_28 : decode cX4_readDigit 28 = .ok (.aload_n 0, 1) := by decide +kernel
theorem dX4_readDigit_29 : decode cX4_readDigit 29 = .ok (.dup, 1) := by decide +kernel
theorem dX4_readDigit_30 : decode cX4_readDigit 30 = .ok (.getfield 22, 3) := by decide +kernel
theorem dX4_readDigit_33 : decode cX4_readDigit 33 = .ok (.iconst 1, 1) := by decide +kernel
theorem dX4_readDigit_34 : decode cX4_readDigit 34 = .ok (.iadd, 1) := by decide +kernel
theorem dX4_readDigit_35 : decode cX4_readDigit 35 = .ok (.putfield 22, 3) := by decide +kernel
theorem dX4_readDigit_38 : decode cX4_readDigit 38 = .ok (.iconst 1, 1) := by decide +kernel
theorem dX4_readDigit_39 : decode cX4_readDigit 39 = .ok (.ireturn, 1) := by decide +kernel
theorem dX4_skip_0 : decode cX4_skip 0 = .ok (.aload_n 0, 1) := by decide +kernel
theorem dX4_skip_1 : decode cX4_skip 1 = .ok (.invokevirtual 43, 3) := by decide +kernel
theorem dX4_skip_4 : decode cX4_skip 4 = .ok (.iload_n 1, 1) := by decide +kernel
theorem dX4_skip_5 : decode cX4_skip 5 = .ok (.if_icmp .eq 5, 3) := by decide +kernel
theorem dX4_skip_8 : decode cX4_skip 8 = .ok (.iconst 0, 1) := by decide +kernel
theorem dX4_skip_9 : decode cX4_skip 9 = .ok (.ireturn, 1) := by decide +kernel
theorem dX4_skip_10 : decode cX4_skip 10 = .ok (.aload_n 0, 1) := by decide +kernel
theorem dX4_skip_11 : decode cX4_skip 11 = .ok (.dup, 1) := by decide +kernel
theorem dX4_skip_12 : decode cX4_skip 12 = .ok (.getfield 22, 3) := by decide +kernel
theorem dX4_skip_15 : decode cX4_skip 15 = .ok (.iconst 1, 1) := by decide +kernel
theorem dX4_skip_16 : decode cX4_skip 16 = .ok (.iadd, 1) := by decide +kernel
theorem dX4_skip_17 : decode cX4_skip 17 = .ok (.putfield 22, 3) := by decide +kernel
theorem dX4_skip_20 : decode cX4_skip 20 = .ok (.iconst 1, 1) := by decide +kernel
theorem dX4_skip_21 : decode cX4_skip 21 = .ok (.ireturn, 1) := by decide +kernel
theorem dX4_here_0 : decode cX4_here 0 = .ok (.aload_n 0, 1) := by decide +kernel
theorem dX4_here_1 : decode cX4_here 1 = .ok (.getfield 22, 3) := by decide +kernel
theorem dX4_here_4 : decode cX4_here 4 = .ok (.aload_n 0, 1) := by decide +kernel
theorem dX4_here_5 : decode cX4_here 5 = .ok (.getfield 26, 3) := by decide +kernel
theorem dX4_here_8 : decode cX4_here 8 = .ok (.if_icmp .ge 24, 3) := by decide +kernel
theorem dX4_here_11 : decode cX4_here 11 = .ok (.aload_n 0, 1) := by decide +kernel
theorem dX4_here_12 : decode cX4_here 12 = .ok (.getfield 22, 3) := by decide +kernel
theorem dX4_here_15 : decode cX4_here 15 = .ok (.bipush 60, 2) := by decide +kernel
theorem dX4_here_17 : decode cX4_here 17 = .ok (.if_icmp .ge 15, 3) := by decide +kernel
theorem dX4_here_20 : decode cX4_here 20 = .ok (.aload_n 0, 1) := by decide +kernel
theorem dX4_here_21 : decode cX4_here 21 = .ok (.getfield 9, 3) := by decide +kernel
theorem dX4_here_24 : decode cX4_here 24 = .ok (.aload_n 0, 1) := by decide +kernel
theorem dX4_here_25 : decode cX4_here 25 = .ok (.getfield 22, 3) := by decide +kernel
theorem dX4_here_28 : decode cX4_here 28 = .ok (.caload, 1) := by decide +kernel
theorem dX4_here_29 : decode cX4_here 29 = .ok (.goto 5, 3) := by decide +kernel
theorem dX4_here_32 : decode cX4_here 32 = .ok (.bipush 32, 2) := by decide +kernel
theorem dX4_here_34 : decode cX4_here 34 = .ok (.ireturn, 1) := by decide +kernel
theorem dX4_note_0 : decode cX4_note 0 = .ok (.aload_n 0, 1) := by decide +kernel
theorem dX4_note_1 : decode cX4_note 1 = .ok (.getfield 29, 3) := by decide +kernel
theorem dX4_note_4 : decode cX4_note 4 = .ok (.iconst 4, 1) := by decide +kernel
theorem dX4_note_5 : decode cX4_note 5 = .ok (.imul, 1) := by decide +kernel
theorem dX4_note_6 : decode cX4_note 6 = .ok (.iload_n 1, 1) := by decide +kernel
theorem dX4_note_7 : decode cX4_note 7 = .ok (.iadd, 1) := by decide +kernel
theorem dX4_note_8 : decode cX4_note 8 = .ok (.istore_n 3, 1) := by decide +kernel
theorem dX4_note_9 : decode cX4_note 9 = .ok (.iload_n 3, 1) := by decide +kernel
theorem dX4_note_10 : decode cX4_note 10 = .ok (.ifCond .lt 16, 3) := by decide +kernel
theorem dX4_note_13 : decode cX4_note 13 = .ok (.iload_n 3, 1) := by decide +kernel
