theorem dX4_note_14 : decode cX4_note 14 = .ok (.bipush 120, 2) := by decide +kernel
theorem dX4_note_16 : decode cX4_note 16 = .ok (.if_icmp .ge 10, 3) := by decide +kernel
theorem dX4_note_19 : decode cX4_note 19 = .ok (.aload_n 0, 1) := by decide +kernel
theorem dX4_note_20 : decode cX4_note 20 = .ok (.getfield 18, 3) := by decide +kernel
theorem dX4_note_23 : decode cX4_note 23 = .ok (.iload_n 3, 1) := by decide +kernel
theorem dX4_note_24 : decode cX4_note 24 = .ok (.iload_n 2, 1) := by decide +kernel
theorem dX4_note_25 : decode cX4_note 25 = .ok (.iastore, 1) := by decide +kernel
theorem dX4_note_26 : decode cX4_note 26 = .ok (.return_, 1) := by decide +kernel
theorem dX5_init_0 : decode cX5_init 0 = .ok (.aload_n 0, 1) := by decide +kernel
theorem dX5_init_1 : decode cX5_init 1 = .ok (.invokespecial 3, 3) := by decide +kernel
theorem dX5_init_4 : decode cX5_init 4 = .ok (.aload_n 0, 1) := by decide +kernel
theorem dX5_init_5 : decode cX5_init 5 = .ok (.bipush 32, 2) := by decide +kernel
theorem dX5_init_7 : decode cX5_init 7 = .ok (.newarray .int, 2) := by decide +kernel
theorem dX5_init_9 : decode cX5_init 9 = .ok (.putfield 9, 3) := by decide +kernel
theorem dX5_init_12 : decode cX5_init 12 = .ok (.aload_n 0, 1) := by decide +kernel
theorem dX5_init_13 : decode cX5_init 13 = .ok (.bipush 7, 2) := by decide +kernel
theorem dX5_init_15 : decode cX5_init 15 = .ok (.newarray .int, 2) := by decide +kernel
theorem dX5_init_17 : decode cX5_init 17 = .ok (.dup, 1) := by decide +kernel
theorem dX5_init_18 : decode cX5_init 18 = .ok (.iconst 0, 1) := by decide +kernel
theorem dX5_init_19 : decode cX5_init 19 = .ok (.iconst 0, 1) := by decide +kernel
theorem dX5_init_20 : decode cX5_init 20 = .ok (.iastore, 1) := by decide +kernel
theorem dX5_init_21 : decode cX5_init 21 = .ok (.dup, 1) := by decide +kernel
theorem dX5_init_22 : decode cX5_init 22 = .ok (.iconst 1, 1) := by decide +kernel
theorem dX5_init_23 : decode cX5_init 23 = .ok (.iconst 1, 1) := by decide +kernel
theorem dX5_init_24 : decode cX5_init 24 = .ok (.iastore, 1) := by decide +kernel
theorem dX5_init_25 : decode cX5_init 25 = .ok (.dup, 1) := by decide +kernel
theorem dX5_init_26 : decode cX5_init 26 = .ok (.iconst 2, 1) := by decide +kernel
theorem dX5_init_27 : decode cX5_init 27 = .ok (.iconst 1, 1) := by decide +kernel
theorem dX5_init_28 : decode cX5_init 28 = .ok (.iastore, 1) := by decide +kernel
theorem dX5_init_29 : decode cX5_init 29 = .ok (.dup, 1) := by decide +kernel
theorem dX5_init_30 : decode cX5_init 30 = .ok (.iconst 3, 1) := by decide +kernel
theorem dX5_init_31 : decode cX5_init 31 = .ok (.iconst 1, 1) := by decide +kernel
theorem dX5_init_32 : decode cX5_init 32 = .ok (.iastore, 1) := by decide +kernel
theorem dX5_init_33 : decode cX5_init 33 = .ok (.dup, 1) := by decide +kernel
theorem dX5_init_34 : decode cX5_init 34 = .ok (.iconst 4, 1) := by decide +kernel
theorem dX5_init_35 : decode cX5_init 35 = .ok (.iconst 1, 1) := by decide +kernel
theorem dX5_init_36 : decode cX5_init 36 = .ok (.iastore, 1) := by decide +kernel
theorem dX5_init_37 : decode cX5_init 37 = .ok (.dup, 1) := by decide +kernel
theorem dX5_init_38 : decode cX5_init 38 = .ok (.iconst 5, 1) := by decide +kernel
theorem dX5_init_39 : decode cX5_init 39 = .ok (.iconst 1, 1) := by decide +kernel
theorem dX5_init_40 : decode cX5_init 40 = .ok (.iastore, 1) := by decide +kernel
theorem dX5_init_41 : decode cX5_init 41 = .ok (.dup, 1) := by decide +kernel
theorem dX5_init_42 : decode cX5_init 42 = .ok (.bipush 6, 2) := by decide +kernel
theorem dX5_init_44 : decode cX5_init 44 = .ok (.iconst 1, 1) := by decide +kernel
theorem dX5_init_45 : decode cX5_init 45 = .ok (.iastore, 1) := by decide +kernel
theorem dX5_init_46 : decode cX5_init 46 = .ok (.putfield 15, 3) := by decide +kernel
theorem dX5_init_49 : decode cX5_init 49 = .ok (.aload_n 0, 1) := by decide +kernel
theorem dX5_init_50 : decode cX5_init 50 = .ok (.bipush 42, 2) := by decide +kernel
theorem dX5_init_52 : decode cX5_init 52 = .ok (.newarray .int, 2) := by decide +kernel
theorem dX5_init_54 : decode cX5_init 54 = .ok (.putfield 18, 3) := by decide +kernel
theorem dX5_init_57 : decode cX5_init 57 = .ok (.aload_n 0, 1) := by decide +kernel
theorem dX5_init_58 : decode cX5_init 58 = .ok (.iconst 0, 1) := by decide +kernel
theorem dX5_init_59 : decode cX5_init 59 = .ok (.putfield 21, 3) := by decide +kernel
theorem dX5_init_62 : decode cX5_init 62 = .ok (.aload_n 0, 1) := by decide +kernel
theorem dX5_init_63 : decode cX5_init 63 = .ok (.iconst 2, 1) := by decide +kernel
theorem dX5_init_64 : decode cX5_init 64 = .ok (.putfield 25, 3) := by decide +kernel
theorem dX5_init_67 : decode cX5_init 67 = .ok (.aload_n 0, 1) := by decide +kernel
theorem dX5_init_68 : decode cX5_init 68 = .ok (.iconst (-1), 1) := by decide +kernel
theorem dX5_init_69 : decode cX5_init 69 = .ok (.putfield 28, 3) := by decide +kernel
theorem dX5_init_72 : decode cX5_init 72 = .ok (.aload_n 0, 1) := by decide +kernel
theorem dX5_init_73 : decode cX5_init 73 = .ok (.iconst 0, 1) := by decide +kernel
theorem dX5_init_74 : decode cX5_init 74 = .ok (.putfield 31, 3) := by decide +kernel
theorem dX5_init_77 : decode cX5_init 77 = .ok (.aload_n 0, 1) := by decide +kernel
theorem dX5_init_78 : decode cX5_init 78 = .ok (.iconst 0, 1) := by decide +kernel
theorem dX5_init_79 : decode cX5_init 79 = .ok (.putfield 34, 3) := by decide +kernel
theorem dX5_init_82 : decode cX5_init 82 = .ok (.aload_n 0, 1) := by decide +kernel
theorem dX5_init_83 : decode cX5_init 83 = .ok (.iconst 0, 1) := by decide +kernel
theorem dX5_init_84 : decode cX5_init 84 = .ok (.putfield 37, 3) := by decide +kernel
theorem dX5_init_87 : decode cX5_init 87 = .ok (.iconst 0, 1) := by decide +kernel
theorem dX5_init_88 : decode cX5_init 88 = .ok (.istore_n 1, 1) := by decide +kernel
theorem dX5_init_89 : decode cX5_init 89 = .ok (.iload_n 1, 1) := by decide +kernel
theorem dX5_init_90 : decode cX5_init 90 = .ok (.bipush 42, 2) := by decide +kernel
theorem dX5_init_92 : decode cX5_init 92 = .ok (.if_icmp .ge 16, 3) := by decide +kernel
theorem dX5_init_95 : decode cX5_init 95 = .ok (.aload_n 0, 1) := by decide +kernel
theorem dX5_init_96 : decode cX5_init 96 = .ok (.getfield 18, 3) := by decide +kernel
theorem dX5_init_99 : decode cX5_init 99 = .ok (.iload_n 1, 1) := by decide +kernel
theorem dX5_init_100 : decode cX5_init 100 = .ok (.iconst (-1), 1) := by decide +kernel
theorem dX5_init_101 : decode cX5_init 101 = .ok (.iastore, 1) := by decide +kernel
theorem dX5_init_102 : decode cX5_init 102 = .ok (.iinc 1 1, 3) := by decide +kernel
theorem dX5_init_105 : decode cX5_init 105 = .ok (.goto (-16), 3) := by decide +kernel
theorem dX5_init_108 : decode cX5_init 108 = .ok (.return_, 1) := by decide +kernel
theorem dX5_copyFrom_0 : decode cX5_copyFrom 0 = .ok (.aload_n 1, 1) := by decide +kernel
theorem dX5_copyFrom_1 : decode cX5_copyFrom 1 = .ok (.getfield 9, 3) := by decide +kernel
theorem dX5_copyFrom_4 : decode cX5_copyFrom 4 = .ok (.iconst 0, 1) := by decide +kernel
theorem dX5_copyFrom_5 : decode cX5_copyFrom 5 = .ok (.aload_n 0, 1) := by decide +kernel
theorem dX5_copyFrom_6 : decode cX5_copyFrom 6 = .ok (.getfield 9, 3) := by decide +kernel
theorem dX5_copyFrom_9 : decode cX5_copyFrom 9 = .ok (.iconst 0, 1) := by decide +kernel
theorem dX5_copyFrom_10 : decode cX5_copyFrom 10 = .ok (.bipush 32, 2) := by decide +kernel
theorem dX5_copyFrom_12 : decode cX5_copyFrom 12 = .ok (.invokestatic 40, 3) := by decide +kernel
theorem dX5_copyFrom_15 : decode cX5_copyFrom 15 = .ok (.aload_n 1, 1) := by decide +kernel
theorem dX5_copyFrom_16 : decode cX5_copyFrom 16 = .ok (.getfield 15, 3) := by decide +kernel
theorem dX5_copyFrom_19 : decode cX5_copyFrom 19 = .ok (.iconst 0, 1) := by decide +kernel
theorem dX5_copyFrom_20 : decode cX5_copyFrom 20 = .ok (.aload_n 0, 1) := by decide +kernel
theorem dX5_copyFrom_21 : decode cX5_copyFrom 21 = .ok (.getfield 15, 3) := by decide +kernel
theorem dX5_copyFrom_24 : decode cX5_copyFrom 24 = .ok (.iconst 0, 1) := by decide +kernel
theorem dX5_copyFrom_25 : decode cX5_copyFrom 25 = .ok (.bipush 7, 2) := by decide +kernel
theorem dX5_copyFrom_27 : decode cX5_copyFrom 27 = .ok (.invokestatic 40, 3) := by decide +kernel
theorem dX5_copyFrom_30 : decode cX5_copyFrom 30 = .ok (.aload_n 1, 1) := by decide +kernel
theorem dX5_copyFrom_31 : decode cX5_copyFrom 31 = .ok (.getfield 18, 3) := by decide +kernel
theorem dX5_copyFrom_34 : decode cX5_copyFrom 34 = .ok (.iconst 0, 1) := by decide +kernel
theorem dX5_copyFrom_35 : decode cX5_copyFrom 35 = .ok (.aload_n 0, 1) := by decide +kernel
theorem dX5_copyFrom_36 : decode cX5_copyFrom 36 = .ok (.getfield 18, 3) := by decide +kernel
theorem dX5_copyFrom_39 : decode cX5_copyFrom 39 = .ok (.iconst 0, 1) := by decide +kernel
theorem dX5_copyFrom_40 : decode cX5_copyFrom 40 = .ok (.bipush 42, 2) := by decide +kernel
theorem dX5_copyFrom_42 : decode cX5_copyFrom 42 = .ok (.invokestatic 40, 3) := by decide +kernel
theorem dX5_copyFrom_45 : decode cX5_copyFrom 45 = .ok (.aload_n 0, 1) := by decide +kernel
theorem dX5_copyFrom_46 : decode cX5_copyFrom 46 = .ok (.aload_n 1, 1) := by decide +kernel
theorem dX5_copyFrom_47 : decode cX5_copyFrom 47 = .ok (.getfield 21, 3) := by decide +kernel
theorem dX5_copyFrom_50 : decode cX5_copyFrom 50 = .ok (.putfield 21, 3) := by decide +kernel
theorem dX5_copyFrom_53 : decode cX5_copyFrom 53 = .ok (.aload_n 0, 1) := by decide +kernel
theorem dX5_copyFrom_54 : decode cX5_copyFrom 54 = .ok (.aload_n 1, 1) := by decide +kernel
theorem dX5_copyFrom_55 : decode cX5_copyFrom 55 = .ok (.getfield 25, 3) := by decide +kernel
theorem dX5_copyFrom_58 : decode cX5_copyFrom 58 = .ok (.putfield 25, 3) := by decide +kernel
theorem dX5_copyFrom_61 : decode cX5_copyFrom 61 = .ok (.aload_n 0, 1) := by decide +kernel
theorem dX5_copyFrom_62 : decode cX5_copyFrom 62 = .ok (.aload_n 1, 1) := by decide +kernel
theorem dX5_copyFrom_63 : decode cX5_copyFrom 63 = .ok (.getfield 28, 3) := by decide +kernel
theorem dX5_copyFrom_66 : decode cX5_copyFrom 66 = .ok (.putfield 28, 3) := by decide +kernel
theorem dX5_copyFrom_69 : decode cX5_copyFrom 69 = .ok (.aload_n 0, 1) := by decide +kernel
theorem dX5_copyFrom_70 : decode cX5_copyFrom 70 = .ok (.aload_n 1, 1) := by decide +kernel
theorem dX5_copyFrom_71 : decode cX5_copyFrom 71 = .ok (.getfield 31, 3) := by decide +kernel
theorem dX5_copyFrom_74 : decode cX5_copyFrom 74 = .ok (.putfield 31, 3) := by decide +kernel
theorem dX5_copyFrom_77 : decode cX5_copyFrom 77 = .ok (.aload_n 0, 1) := by decide +kernel
theorem dX5_copyFrom_78 : decode cX5_copyFrom 78 = .ok (.aload_n 1, 1) := by decide +kernel
theorem dX5_copyFrom_79 : decode cX5_copyFrom 79 = .ok (.getfield 34, 3) := by decide +kernel
theorem dX5_copyFrom_82 : decode cX5_copyFrom 82 = .ok (.putfield 34, 3) := by decide +kernel
theorem dX5_copyFrom_85 : decode cX5_copyFrom 85 = .ok (.aload_n 0, 1) := by decide +kernel
theorem dX5_copyFrom_86 : decode cX5_copyFrom 86 = .ok (.aload_n 1, 1) := by decide +kernel
theorem dX5_copyFrom_87 : decode cX5_copyFrom 87 = .ok (.getfield 37, 3) := by decide +kernel
theorem dX5_copyFrom_90 : decode cX5_copyFrom 90 = .ok (.putfield 37, 3) := by decide +kernel
theorem dX5_copyFrom_93 : decode cX5_copyFrom 93 = .ok (.return_, 1) := by decide +kernel
theorem dX5_hasKind_0 : decode cX5_hasKind 0 = .ok (.iload_n 1, 1) := by decide +kernel
theorem dX5_hasKind_1 : decode cX5_hasKind 1 = .ok (.ifCond .lt 15, 3) := by decide +kernel
theorem dX5_hasKind_4 : decode cX5_hasKind 4 = .ok (.iload_n 1, 1) := by decide +kernel
theorem dX5_hasKind_5 : decode cX5_hasKind 5 = .ok (.aload_n 0, 1) := by decide +kernel
theorem dX5_hasKind_6 : decode cX5_hasKind 6 = .ok (.getfield 21, 3) := by decide +kernel
theorem dX5_hasKind_9 : decode cX5_hasKind 9 = .ok (.if_icmp .ge 7, 3) := by decide +kernel
theorem dX5_hasKind_12 : decode cX5_hasKind 12 = .ok (.iconst 1, 1) := by decide +kernel
theorem dX5_hasKind_13 : decode cX5_hasKind 13 = .ok (.goto 4, 3) := by decide +kernel
theorem dX5_hasKind_16 : decode cX5_hasKind 16 = .ok (.iconst 0, 1) := by decide +kernel
theorem dX5_hasKind_17 : decode cX5_hasKind 17 = .ok (.ireturn, 1) := by decide +kernel
theorem dX5_brickOn_0 : decode cX5_brickOn 0 = .ok (.iload_n 1, 1) := by decide +kernel
theorem dX5_brickOn_1 : decode cX5_brickOn 1 = .ok (.ifCond .lt 18, 3) := by decide +kernel
theorem dX5_brickOn_4 : decode cX5_brickOn 4 = .ok (.iload_n 1, 1) := by decide +kernel
theorem dX5_brickOn_5 : decode cX5_brickOn 5 = .ok (.bipush 42, 2) := by decide +kernel
theorem dX5_brickOn_7 : decode cX5_brickOn 7 = .ok (.if_icmp .ge 12, 3) := by decide +kernel
theorem dX5_brickOn_10 : decode cX5_brickOn 10 = .ok (.aload_n 0, 1) := by decide +kernel
theorem dX5_brickOn_11 : decode cX5_brickOn 11 = .ok (.getfield 18, 3) := by decide +kernel
theorem dX5_brickOn_14 : decode cX5_brickOn 14 = .ok (.iload_n 1, 1) := by decide +kernel
theorem dX5_brickOn_15 : decode cX5_brickOn 15 = .ok (.iaload, 1) := by decide +kernel
theorem dX5_brickOn_16 : decode cX5_brickOn 16 = .ok (.goto 4, 3) := by decide +kernel
theorem dX5_brickOn_19 : decode cX5_brickOn 19 = .ok (.iconst (-1), 1) := by decide +kernel
theorem dX5_brickOn_20 : decode cX5_brickOn 20 = .ok (.ireturn, 1) := by decide +kernel
theorem dX5_isFree_0 : decode cX5_isFree 0 = .ok (.aload_n 0, 1) := by decide +kernel
theorem dX5_isFree_1 : decode cX5_isFree 1 = .ok (.iload_n 1, 1) := by decide +kernel
theorem dX5_isFree_2 : decode cX5_isFree 2 = .ok (.invokevirtual 46, 3) := by decide +kernel
theorem dX5_isFree_5 : decode cX5_isFree 5 = .ok (.iconst (-1), 1) := by decide +kernel
theorem dX5_isFree_6 : decode cX5_isFree 6 = .ok (.if_icmp .ne 7, 3) := by decide +kernel
theorem dX5_isFree_9 : decode cX5_isFree 9 = .ok (.iconst 1, 1) := by decide +kernel
theorem dX5_isFree_10 : decode cX5_isFree 10 = .ok (.goto 4, 3) := by decide +kernel
theorem dX5_isFree_13 : decode cX5_isFree 13 = .ok (.iconst 0, 1) := by decide +kernel
theorem dX5_isFree_14 : decode cX5_isFree 14 = .ok (.ireturn, 1) := by decide +kernel
theorem dX5_glueOn_0 : decode cX5_glueOn 0 = .ok (.iload_n 1, 1) := by decide +kernel
theorem dX5_glueOn_1 : decode cX5_glueOn 1 = .ok (.ifCond .lt 9, 3) := by decide +kernel
theorem dX5_glueOn_4 : decode cX5_glueOn 4 = .ok (.iload_n 1, 1) := by decide +kernel
theorem dX5_glueOn_5 : decode cX5_glueOn 5 = .ok (.bipush 32, 2) := by decide +kernel
theorem dX5_glueOn_7 : decode cX5_glueOn 7 = .ok (.if_icmp .lt 5, 3) := by decide +kernel
theorem dX5_glueOn_10 : decode cX5_glueOn 10 = .ok (.iconst (-1), 1) := by decide +kernel
theorem dX5_glueOn_11 : decode cX5_glueOn 11 = .ok (.ireturn, 1) := by decide +kernel
theorem dX5_glueOn_12 : decode cX5_glueOn 12 = .ok (.iload_n 1, 1) := by decide +kernel
theorem dX5_glueOn_13 : decode cX5_glueOn 13 = .ok (.iconst 4, 1) := by decide +kernel
theorem dX5_glueOn_14 : decode cX5_glueOn 14 = .ok (.idiv, 1) := by decide +kernel
theorem dX5_glueOn_15 : decode cX5_glueOn 15 = .ok (.istore_n 3, 1) := by decide +kernel
theorem dX5_glueOn_16 : decode cX5_glueOn 16 = .ok (.iload_n 1, 1) := by decide +kernel
theorem dX5_glueOn_17 : decode cX5_glueOn 17 = .ok (.iconst 4, 1) := by decide +kernel
theorem dX5_glueOn_18 : decode cX5_glueOn 18 = .ok (.irem, 1) := by decide +kernel
theorem dX5_glueOn_19 : decode cX5_glueOn 19 = .ok (.istore 4, 2) := by decide +kernel
theorem dX5_glueOn_21 : decode cX5_glueOn 21 = .ok (.aload_n 0, 1) := by decide +kernel
theorem dX5_glueOn_22 : decode cX5_glueOn 22 = .ok (.getfield 9, 3) := by decide +kernel
theorem dX5_glueOn_25 : decode cX5_glueOn 25 = .ok (.iload_n 3, 1) := by decide +kernel
theorem dX5_glueOn_26 : decode cX5_glueOn 26 = .ok (.iconst 4, 1) := by decide +kernel
theorem dX5_glueOn_27 : decode cX5_glueOn 27 = .ok (.imul, 1) := by decide +kernel
theorem dX5_glueOn_28 : decode cX5_glueOn 28 = .ok (.iload_n 2, 1) := by decide +kernel
theorem dX5_glueOn_29 : decode cX5_glueOn 29 = .ok (.iload 4, 2) := by decide +kernel
theorem dX5_glueOn_31 : decode cX5_glueOn 31 = .ok (.isub, 1) := by decide +kernel
theorem dX5_glueOn_32 : decode cX5_glueOn 32 = .ok (.iconst 3, 1) := by decide +kernel
theorem dX5_glueOn_33 : decode cX5_glueOn 33 = .ok (.iand, 1) := by decide +kernel
theorem dX5_glueOn_34 : decode cX5_glueOn 34 = .ok (.iadd, 1) := by decide +kernel
theorem dX5_glueOn_35 : decode cX5_glueOn 35 = .ok (.iaload, 1) := by decide +kernel
theorem dX5_glueOn_36 : decode cX5_glueOn 36 = .ok (.ireturn, 1) := by decide +kernel
theorem dX5_glueFacing_0 : decode cX5_glueFacing 0 = .ok (.aload_n 0, 1) := by decide +kernel
theorem dX5_glueFacing_1 : decode cX5_glueFacing 1 = .ok (.aload_n 0, 1) := by decide +kernel
theorem dX5_glueFacing_2 : decode cX5_glueFacing 2 = .ok (.iload_n 1, 1) := by decide +kernel
theorem dX5_glueFacing_3 : decode cX5_glueFacing 3 = .ok (.iload_n 2, 1) := by decide +kernel
theorem dX5_glueFacing_4 : decode cX5_glueFacing 4 = .ok (.invokestatic 50, 3) := by decide +kernel
theorem dX5_glueFacing_7 : decode cX5_glueFacing 7 = .ok (.invokevirtual 46, 3) := by decide +kernel
theorem dX5_glueFacing_10 : decode cX5_glueFacing 10 = .ok (.iload_n 2, 1) := by decide +kernel
theorem dX5_glueFacing_11 : decode cX5_glueFacing 11 = .ok (.invokestatic 54, 3) := by decide +kernel
theorem dX5_glueFacing_14 : decode cX5_glueFacing 14 = .ok (.invokevirtual 57, 3) := by decide +kernel
theorem dX5_glueFacing_17 : decode cX5_glueFacing 17 = .ok (.ireturn, 1) := by decide +kernel
theorem dX5_strengthBetween_0 : decode cX5_strengthBetween 0 = .ok (.iload_n 1, 1) := by decide +kernel
theorem dX5_strengthBetween_1 : decode cX5_strengthBetween 1 = .ok (.iload_n 2, 1) := by decide +kernel
theorem dX5_strengthBetween_2 : decode cX5_strengthBetween 2 = .ok (.if_icmp .ne 22, 3) := by decide +kernel
theorem dX5_strengthBetween_5 : decode cX5_strengthBetween 5 = .ok (.iload_n 1, 1) := by decide +kernel
theorem dX5_strengthBetween_6 : decode cX5_strengthBetween 6 = .ok (.ifCond .le 18, 3) := by decide +kernel
theorem dX5_strengthBetween_9 : decode cX5_strengthBetween 9 = .ok (.iload_n 1, 1) := by decide +kernel
theorem dX5_strengthBetween_10 : decode cX5_strengthBetween 10 = .ok (.bipush 6, 2) := by decide +kernel
theorem dX5_strengthBetween_12 : decode cX5_strengthBetween 12 = .ok (.if_icmp .gt 12, 3) := by decide +kernel
theorem dX5_strengthBetween_15 : decode cX5_strengthBetween 15 = .ok (.aload_n 0, 1) := by decide +kernel
theorem dX5_strengthBetween_16 : decode cX5_strengthBetween 16 = .ok (.getfield 15, 3) := by decide +kernel
theorem dX5_strengthBetween_19 : decode cX5_strengthBetween 19 = .ok (.iload_n 1, 1) := by decide +kernel
theorem dX5_strengthBetween_20 : decode cX5_strengthBetween 20 = .ok (.iaload, 1) := by decide +kernel
theorem dX5_strengthBetween_21 : decode cX5_strengthBetween 21 = .ok (.goto 4, 3) := by decide +kernel
theorem dX5_strengthBetween_24 : decode cX5_strengthBetween 24 = .ok (.iconst 0, 1) := by decide +kernel
theorem dX5_strengthBetween_25 : decode cX5_strengthBetween 25 = .ok (.ireturn, 1) := by decide +kernel
theorem dX5_strengthToward_0 : decode cX5_strengthToward 0 = .ok (.aload_n 0, 1) := by decide +kernel
theorem dX5_strengthToward_1 : decode cX5_strengthToward 1 = .ok (.aload_n 0, 1) := by decide +kernel
theorem dX5_strengthToward_2 : decode cX5_strengthToward 2 = .ok (.aload_n 0, 1) := by decide +kernel
theorem dX5_strengthToward_3 : decode cX5_strengthToward 3 = .ok (.iload_n 1, 1) := by decide +kernel
theorem dX5_strengthToward_4 : decode cX5_strengthToward 4 = .ok (.invokevirtual 46, 3) := by decide +kernel
theorem dX5_strengthToward_7 : decode cX5_strengthToward 7 = .ok (.iload_n 2, 1) := by decide +kernel
theorem dX5_strengthToward_8 : decode cX5_strengthToward 8 = .ok (.invokevirtual 57, 3) := by decide +kernel
theorem dX5_strengthToward_11 : decode cX5_strengthToward 11 = .ok (.aload_n 0, 1) := by decide +kernel
theorem dX5_strengthToward_12 : decode cX5_strengthToward 12 = .ok (.iload_n 1, 1) := by decide +kernel
theorem dX5_strengthToward_13 : decode cX5_strengthToward 13 = .ok (.iload_n 2, 1) := by decide +kernel
theorem dX5_strengthToward_14 : decode cX5_strengthToward 14 = .ok (.invokevirtual 60, 3) := by decide +kernel
theorem dX5_strengthToward_17 : decode cX5_strengthToward 17 = .ok (.invokevirtual 63, 3) := by decide +kernel
theorem dX5_strengthToward_20 : decode cX5_strengthToward 20 = .ok (.ireturn, 1) := by decide +kernel
theorem dX5_isErrorToward_0 : decode cX5_isErrorToward 0 = .ok (.aload_n 0, 1) := by decide +kernel
theorem dX5_isErrorToward_1 : decode cX5_isErrorToward 1 = .ok (.aload_n 0, 1) := by decide +kernel
theorem dX5_isErrorToward_2 : decode cX5_isErrorToward 2 = .ok (.iload_n 1, 1) := by decide +kernel
theorem dX5_isErrorToward_3 : decode cX5_isErrorToward 3 = .ok (.invokevirtual 46, 3) := by decide +kernel
theorem dX5_isErrorToward_6 : decode cX5_isErrorToward 6 = .ok (.iload_n 2, 1) := by decide +kernel
theorem dX5_isErrorToward_7 : decode cX5_isErrorToward 7 = .ok (.invokevirtual 57, 3) := by decide +kernel
theorem dX5_isErrorToward_10 : decode cX5_isErrorToward 10 = .ok (.aload_n 0, 1) := by decide +kernel
theorem dX5_isErrorToward_11 : decode cX5_isErrorToward 11 = .ok (.iload_n 1, 1) := by decide +kernel
theorem dX5_isErrorToward_12 : decode cX5_isErrorToward 12 = .ok (.iload_n 2, 1) := by decide +kernel
theorem dX5_isErrorToward_13 : decode cX5_isErrorToward 13 = .ok (.invokevirtual 60, 3) := by decide +kernel
theorem dX5_isErrorToward_16 : decode cX5_isErrorToward 16 = .ok (.invokestatic 66, 3) := by decide +kernel
theorem dX5_isErrorToward_19 : decode cX5_isErrorToward 19 = .ok (.ireturn, 1) := by decide +kernel
theorem dX5_isNeighbourToward_0 : decode cX5_isNeighbourToward 0 = .ok (.aload_n 0, 1) := by decide +kernel
theorem dX5_isNeighbourToward_1 : decode cX5_isNeighbourToward 1 = .ok (.iload_n 1, 1) := by decide +kernel
theorem dX5_isNeighbourToward_2 : decode cX5_isNeighbourToward 2 = .ok (.iload_n 2, 1) := by decide +kernel
theorem dX5_isNeighbourToward_3 : decode cX5_isNeighbourToward 3 = .ok (.invokestatic 50, 3) := by decide +kernel
theorem dX5_isNeighbourToward_6 : decode cX5_isNeighbourToward 6 = .ok (.invokevirtual 70, 3) := by decide +kernel
theorem dX5_isNeighbourToward_9 : decode cX5_isNeighbourToward 9 = .ok (.ifCond .ne 7, 3) := by decide +kernel
theorem dX5_isNeighbourToward_12 : decode cX5_isNeighbourToward 12 = .ok (.iconst 1, 1) := by decide +kernel
theorem dX5_isNeighbourToward_13 : decode cX5_isNeighbourToward 13 = .ok (.goto 4, 3) := by decide +kernel
theorem dX5_isNeighbourToward_16 : decode cX5_isNeighbourToward 16 = .ok (.iconst 0, 1) := by decide +kernel
theorem dX5_isNeighbourToward_17 : decode cX5_isNeighbourToward 17 = .ok (.ireturn, 1) := by decide +kernel
theorem dX5_holdFor_0 : decode cX5_holdFor 0 = .ok (.iconst 0, 1) := by decide +kernel
theorem dX5_holdFor_1 : decode cX5_holdFor 1 = .ok (.istore_n 3, 1) := by decide +kernel
theorem dX5_holdFor_2 : decode cX5_holdFor 2 = .ok (.iconst 0, 1) := by decide +kernel
theorem dX5_holdFor_3 : decode cX5_holdFor 3 = .ok (.istore 4, 2) := by decide +kernel
theorem dX5_holdFor_5 : decode cX5_holdFor 5 = .ok (.iload 4, 2) := by decide +kernel
theorem dX5_holdFor_7 : decode cX5_holdFor 7 = .ok (.iconst 4, 1) := by decide +kernel
theorem dX5_holdFor_8 : decode cX5_holdFor 8 = .ok (.if_icmp .ge 30, 3) := by decide +kernel
theorem dX5_holdFor_11 : decode cX5_holdFor 11 = .ok (.iload_n 3, 1) := by decide +kernel
theorem dX5_holdFor_12 : decode cX5_holdFor 12 = .ok (.aload_n 0, 1) := by decide +kernel
theorem dX5_holdFor_13 : decode cX5_holdFor 13 = .ok (.aload_n 0, 1) := by decide +kernel
theorem dX5_holdFor_14 : decode cX5_holdFor 14 = .ok (.iload_n 1, 1) := by decide +kernel
theorem dX5_holdFor_15 : decode cX5_holdFor 15 = .ok (.iload 4, 2) := by decide +kernel
theorem dX5_holdFor_17 : decode cX5_holdFor 17 = .ok (.invokevirtual 57, 3) := by decide +kernel
theorem dX5_holdFor_20 : decode cX5_holdFor 20 = .ok (.aload_n 0, 1) := by decide +kernel
theorem dX5_holdFor_21 : decode cX5_holdFor 21 = .ok (.iload_n 2, 1) := by decide +kernel
theorem dX5_holdFor_22 : decode cX5_holdFor 22 = .ok (.iload 4, 2) := by decide +kernel
theorem dX5_holdFor_24 : decode cX5_holdFor 24 = .ok (.invokevirtual 60, 3) := by decide +kernel
theorem dX5_holdFor_27 : decode cX5_holdFor 27 = .ok (.invokevirtual 63, 3) := by decide +kernel
theorem dX5_holdFor_30 : decode cX5_holdFor 30 = .ok (.iadd, 1) := by decide +kernel
theorem dX5_holdFor_31 : decode cX5_holdFor 31 = .ok (.istore_n 3, 1) := by decide +kernel
theorem dX5_holdFor_32 : decode cX5_holdFor 32 = .ok (.iinc 4 1, 3) := by decide +kernel
theorem dX5_holdFor_35 : decode cX5_holdFor 35 = .ok (.goto (-30), 3) := by decide +kernel
theorem dX5_holdFor_38 : decode cX5_holdFor 38 = .ok (.iload_n 3, 1) := by decide +kernel
theorem dX5_holdFor_39 : decode cX5_holdFor 39 = .ok (.ireturn, 1) := by decide +kernel
theorem dX5_allHolds_0 : decode cX5_allHolds 0 = .ok (.iconst 0, 1) := by decide +kernel
theorem dX5_allHolds_1 : decode cX5_allHolds 1 = .ok (.istore_n 2, 1) := by decide +kernel
theorem dX5_allHolds_2 : decode cX5_allHolds 2 = .ok (.iconst 0, 1) := by decide +kernel
theorem dX5_allHolds_3 : decode cX5_allHolds 3 = .ok (.istore_n 3, 1) := by decide +kernel
theorem dX5_allHolds_4 : decode cX5_allHolds 4 = .ok (.iload_n 3, 1) := by decide +kernel
theorem dX5_allHolds_5 : decode cX5_allHolds 5 = .ok (.bipush 42, 2) := by decide +kernel
theorem dX5_allHolds_7 : decode cX5_allHolds 7 = .ok (.if_icmp .ge 49, 3) := by decide +kernel
theorem dX5_allHolds_10 : decode cX5_allHolds 10 = .ok (.iconst 1, 1) := by decide +kernel
theorem dX5_allHolds_11 : decode cX5_allHolds 11 = .ok (.istore 4, 2) := by decide +kernel
theorem dX5_allHolds_13 : decode cX5_allHolds 13 = .ok (.iload 4, 2) := by decide +kernel
theorem dX5_allHolds_15 : decode cX5_allHolds 15 = .ok (.iconst 2, 1) := by decide +kernel
theorem dX5_allHolds_16 : decode cX5_allHolds 16 = .ok (.if_icmp .gt 34, 3) := by decide +kernel
theorem dX5_allHolds_19 : decode cX5_allHolds 19 = .ok (.iload_n 3, 1) := by decide +kernel
theorem dX5_allHolds_20 : decode cX5_allHolds 20 = .ok (.iload_n 1, 1) := by decide +kernel
theorem dX5_allHolds_21 : decode cX5_allHolds 21 = .ok (.if_icmp .eq 23, 3) := by decide +kernel
theorem dX5_allHolds_24 : decode cX5_allHolds 24 = .ok (.iload_n 3, 1) := by decide +kernel
theorem dX5_allHolds_25 : decode cX5_allHolds 25 = .ok (.iload 4, 2) := by decide +kernel
theorem dX5_allHolds_27 : decode cX5_allHolds 27 = .ok (.invokestatic 50, 3) := by decide +kernel
theorem dX5_allHolds_30 : decode cX5_allHolds 30 = .ok (.iload_n 1, 1) := by decide +kernel
theorem dX5_allHolds_31 : decode cX5_allHolds 31 = .ok (.if_icmp .eq 13, 3) := by decide +kernel
theorem dX5_allHolds_34 : decode cX5_allHolds 34 = .ok (.iload_n 2, 1) := by decide +kernel
theorem dX5_allHolds_35 : decode cX5_allHolds 35 = .ok (.aload_n 0, 1) := by decide +kernel
theorem dX5_allHolds_36 : decode cX5_allHolds 36 = .ok (.iload_n 3, 1) := by decide +kernel
theorem dX5_allHolds_37 : decode cX5_allHolds 37 = .ok (.iload 4, 2) := by decide +kernel
theorem dX5_allHolds_39 : decode cX5_allHolds 39 = .ok (.invokevirtual 74, 3) := by decide +kernel
theorem dX5_allHolds_42 : decode cX5_allHolds 42 = .ok (.iadd, 1) := by decide +kernel
theorem dX5_allHolds_43 : decode cX5_allHolds 43 = .ok (.istore_n 2, 1) := by decide +kernel
theorem dX5_allHolds_44 : decode cX5_allHolds 44 = .ok (.iinc 4 1, 3) := by decide +kernel
theorem dX5_allHolds_47 : decode cX5_allHolds 47 = .ok (.goto (-34), 3) := by decide +kernel
theorem dX5_allHolds_50 : decode cX5_allHolds 50 = .ok (.iinc 3 1, 3) := by decide +kernel
theorem dX5_allHolds_53 : decode cX5_allHolds 53 = .ok (.goto (-49), 3) := by decide +kernel
theorem dX5_allHolds_56 : decode cX5_allHolds 56 = .ok (.iconst 2, 1) := by decide +kernel
theorem dX5_allHolds_57 : decode cX5_allHolds 57 = .ok (.iload_n 2, 1) := by decide +kernel
theorem dX5_allHolds_58 : decode cX5_allHolds 58 = .ok (.imul, 1) := by decide +kernel
theorem dX5_allHolds_59 : decode cX5_allHolds 59 = .ok (.ireturn, 1) := by decide +kernel
theorem dX5_errorsOf_0 : decode cX5_errorsOf 0 = .ok (.iconst 0, 1) := by decide +kernel
theorem dX5_errorsOf_1 : decode cX5_errorsOf 1 = .ok (.istore_n 2, 1) := by decide +kernel
theorem dX5_errorsOf_2 : decode cX5_errorsOf 2 = .ok (.iconst 0, 1) := by decide +kernel
theorem dX5_errorsOf_3 : decode cX5_errorsOf 3 = .ok (.istore_n 3, 1) := by decide +kernel
theorem dX5_errorsOf_4 : decode cX5_errorsOf 4 = .ok (.iload_n 3, 1) := by decide +kernel
theorem dX5_errorsOf_5 : decode cX5_errorsOf 5 = .ok (.iconst 4, 1) := by decide +kernel
theorem dX5_errorsOf_6 : decode cX5_errorsOf 6 = .ok (.if_icmp .ge 21, 3) := by decide +kernel
theorem dX5_errorsOf_9 : decode cX5_errorsOf 9 = .ok (.aload_n 0, 1) := by decide +kernel
theorem dX5_errorsOf_10 : decode cX5_errorsOf 10 = .ok (.iload_n 1, 1) := by decide +kernel
theorem dX5_errorsOf_11 : decode cX5_errorsOf 11 = .ok (.iload_n 3, 1) := by decide +kernel
theorem dX5_errorsOf_12 : decode cX5_errorsOf 12 = .ok (.invokevirtual 77, 3) := by decide +kernel
theorem dX5_errorsOf_15 : decode cX5_errorsOf 15 = .ok (.ifCond .eq 6, 3) := by decide +kernel
theorem dX5_errorsOf_18 : decode cX5_errorsOf 18 = .ok (.iinc 2 1, 3) := by decide +kernel
theorem dX5_errorsOf_21 : decode cX5_errorsOf 21 = .ok (.iinc 3 1, 3) := by decide +kernel
theorem dX5_errorsOf_24 : decode cX5_errorsOf 24 = .ok (.goto (-20), 3) := by decide +kernel
theorem dX5_errorsOf_27 : decode cX5_errorsOf 27 = .ok (.iload_n 2, 1) := by decide +kernel
theorem dX5_errorsOf_28 : decode cX5_errorsOf 28 = .ok (.ireturn, 1) := by decide +kernel
theorem dX5_errorPairs_0 : decode cX5_errorPairs 0 = .ok (.iconst 0, 1) := by decide +kernel
theorem dX5_errorPairs_1 : decode cX5_errorPairs 1 = .ok (.istore_n 1, 1) := by decide +kernel
theorem dX5_errorPairs_2 : decode cX5_errorPairs 2 = .ok (.iconst 0, 1) := by decide +kernel
theorem dX5_errorPairs_3 : decode cX5_errorPairs 3 = .ok (.istore_n 2, 1) := by decide +kernel
theorem dX5_errorPairs_4 : decode cX5_errorPairs 4 = .ok (.iload_n 2, 1) := by decide +kernel
theorem dX5_errorPairs_5 : decode cX5_errorPairs 5 = .ok (.bipush 42, 2) := by decide +kernel
theorem dX5_errorPairs_7 : decode cX5_errorPairs 7 = .ok (.if_icmp .ge 34, 3) := by decide +kernel
theorem dX5_errorPairs_10 : decode cX5_errorPairs 10 = .ok (.iconst 1, 1) := by decide +kernel
theorem dX5_errorPairs_11 : decode cX5_errorPairs 11 = .ok (.istore_n 3, 1) := by decide +kernel
theorem dX5_errorPairs_12 : decode cX5_errorPairs 12 = .ok (.iload_n 3, 1) := by decide +kernel
theorem dX5_errorPairs_13 : decode cX5_errorPairs 13 = .ok (.iconst 2, 1) := by decide +kernel
theorem dX5_errorPairs_14 : decode cX5_errorPairs 14 = .ok (.if_icmp .gt 21, 3) := by decide +kernel
theorem dX5_errorPairs_17 : decode cX5_errorPairs 17 = .ok (.aload_n 0, 1) := by decide +kernel
theorem dX5_errorPairs_18 : decode cX5_errorPairs 18 = .ok (.iload_n 2, 1) := by decide +kernel
theorem dX5_errorPairs_19 : decode cX5_errorPairs 19 = .ok (.iload_n 3, 1) := by decide +kernel
theorem dX5_errorPairs_20 : decode cX5_errorPairs 20 = .ok (.invokevirtual 77, 3) := by decide +kernel
theorem dX5_errorPairs_23 : decode cX5_errorPairs 23 = .ok (.ifCond .eq 6, 3) := by decide +kernel
theorem dX5_errorPairs_26 : decode cX5_errorPairs 26 = .ok (.iinc 1 1, 3) := by decide +kernel
theorem dX5_errorPairs_29 : decode cX5_errorPairs 29 = .ok (.iinc 3 1, 3) := by decide +kernel
theorem dX5_errorPairs_32 : decode cX5_errorPairs 32 = .ok (.goto (-20), 3) := by decide +kernel
theorem dX5_errorPairs_35 : decode cX5_errorPairs 35 = .ok (.iinc 2 1, 3) := by decide +kernel
theorem dX5_errorPairs_38 : decode cX5_errorPairs 38 = .ok (.goto (-34), 3) := by decide +kernel
theorem dX5_errorPairs_41 : decode cX5_errorPairs 41 = .ok (.iload_n 1, 1) := by decide +kernel
theorem dX5_errorPairs_42 : decode cX5_errorPairs 42 = .ok (.ireturn, 1) := by decide +kernel
theorem dX5_neighbourPairs_0 : decode cX5_neighbourPairs 0 = .ok (.iconst 0, 1) := by decide +kernel
theorem dX5_neighbourPairs_1 : decode cX5_neighbourPairs 1 = .ok (.istore_n 1, 1) := by decide +kernel
theorem dX5_neighbourPairs_2 : decode cX5_neighbourPairs 2 = .ok (.iconst 0, 1) := by decide +kernel
theorem dX5_neighbourPairs_3 : decode cX5_neighbourPairs 3 = .ok (.istore_n 2, 1) := by decide +kernel
theorem dX5_neighbourPairs_4 : decode cX5_neighbourPairs 4 = .ok (.iload_n 2, 1) := by decide +kernel
theorem dX5_neighbourPairs_5 : decode cX5_neighbourPairs 5 = .ok (.bipush 42, 2) := by decide +kernel
theorem dX5_neighbourPairs_7 : decode cX5_neighbourPairs 7 = .ok (.if_icmp .ge 42, 3) := by decide +kernel
theorem dX5_neighbourPairs_10 : decode cX5_neighbourPairs 10 = .ok (.iconst 1, 1) := by decide +kernel
theorem dX5_neighbourPairs_11 : decode cX5_neighbourPairs 11 = .ok (.istore_n 3, 1) := by decide +kernel
theorem dX5_neighbourPairs_12 : decode cX5_neighbourPairs 12 = .ok (.iload_n 3, 1) := by decide +kernel
theorem dX5_neighbourPairs_13 : decode cX5_neighbourPairs 13 = .ok (.iconst 2, 1) := by decide +kernel
theorem dX5_neighbourPairs_14 : decode cX5_neighbourPairs 14 = .ok (.if_icmp .gt 29, 3) := by decide +kernel
theorem dX5_neighbourPairs_17 : decode cX5_neighbourPairs 17 = .ok (.aload_n 0, 1) := by decide +kernel
theorem dX5_neighbourPairs_18 : decode cX5_neighbourPairs 18 = .ok (.iload_n 2, 1) := by decide +kernel
theorem dX5_neighbourPairs_19 : decode cX5_neighbourPairs 19 = .ok (.invokevirtual 70, 3) := by decide +kernel
theorem dX5_neighbourPairs_22 : decode cX5_neighbourPairs 22 = .ok (.ifCond .ne 15, 3) := by decide +kernel
theorem dX5_neighbourPairs_25 : decode cX5_neighbourPairs 25 = .ok (.aload_n 0, 1) := by decide +kernel
theorem dX5_neighbourPairs_26 : decode cX5_neighbourPairs 26 = .ok (.iload_n 2, 1) := by decide +kernel
theorem dX5_neighbourPairs_27 : decode cX5_neighbourPairs 27 = .ok (.iload_n 3, 1) := by decide +kernel
theorem dX5_neighbourPairs_28 : decode cX5_neighbourPairs 28 = .ok (.invokevirtual 80, 3) := by decide +kernel
theorem dX5_neighbourPairs_31 : decode cX5_neighbourPairs 31 = .ok (.ifCond .eq 6, 3) := by decide +kernel
theorem dX5_neighbourPairs_34 : decode cX5_neighbourPairs 34 = .ok (.iinc 1 1, 3) := by decide +kernel
theorem dX5_neighbourPairs_37 : decode cX5_neighbourPairs 37 = .ok (.iinc 3 1, 3) := by decide +kernel
theorem dX5_neighbourPairs_40 : decode cX5_neighbourPairs 40 = .ok (.goto (-28), 3) := by decide +kernel
theorem dX5_neighbourPairs_43 : decode cX5_neighbourPairs 43 = .ok (.iinc 2 1, 3) := by decide +kernel
theorem dX5_neighbourPairs_46 : decode cX5_neighbourPairs 46 = .ok (.goto (-42), 3) := by decide +kernel
theorem dX5_neighbourPairs_49 : decode cX5_neighbourPairs 49 = .ok (.iload_n 1, 1) := by decide +kernel
theorem dX5_neighbourPairs_50 : decode cX5_neighbourPairs 50 = .ok (.ireturn, 1) := by decide +kernel
theorem dX5_brickCount_0 : decode cX5_brickCount 0 = .ok (.iconst 0, 1) := by decide +kernel
theorem dX5_brickCount_1 : decode cX5_brickCount 1 = .ok (.istore_n 1, 1) := by decide +kernel
theorem dX5_brickCount_2 : decode cX5_brickCount 2 = .ok (.iconst 0, 1) := by decide +kernel
theorem dX5_brickCount_3 : decode cX5_brickCount 3 = .ok (.istore_n 2, 1) := by decide +kernel
theorem dX5_brickCount_4 : decode cX5_brickCount 4 = .ok (.iload_n 2, 1) := by decide +kernel
theorem dX5_brickCount_5 : decode cX5_brickCount 5 = .ok (.bipush 42, 2) := by decide +kernel
theorem dX5_brickCount_7 : decode cX5_brickCount 7 = .ok (.if_icmp .ge 20, 3) := by decide +kernel
theorem dX5_brickCount_10 : decode cX5_brickCount 10 = .ok (.aload_n 0, 1) := by decide +kernel
theorem dX5_brickCount_11 : decode cX5_brickCount 11 = .ok (.iload_n 2, 1) := by decide +kernel
theorem dX5_brickCount_12 : decode cX5_brickCount 12 = .ok (.invokevirtual 70, 3) := by decide +kernel
theorem dX5_brickCount_15 : decode cX5_brickCount 15 = .ok (.ifCond .ne 6, 3) := by decide +kernel
theorem dX5_brickCount_18 : decode cX5_brickCount 18 = .ok (.iinc 1 1, 3) := by decide +kernel
theorem dX5_brickCount_21 : decode cX5_brickCount 21 = .ok (.iinc 2 1, 3) := by decide +kernel
theorem dX5_brickCount_24 : decode cX5_brickCount 24 = .ok (.goto (-20), 3) := by decide +kernel
theorem dX5_brickCount_27 : decode cX5_brickCount 27 = .ok (.iload_n 1, 1) := by decide +kernel
theorem dX5_brickCount_28 : decode cX5_brickCount 28 = .ok (.ireturn, 1) := by decide +kernel
theorem dX5_put_0 : decode cX5_put 0 = .ok (.iload_n 1, 1) := by decide +kernel
theorem dX5_put_1 : decode cX5_put 1 = .ok (.invokestatic 83, 3) := by decide +kernel
theorem dX5_put_4 : decode cX5_put 4 = .ok (.ifCond .eq 20, 3) := by decide +kernel
theorem dX5_put_7 : decode cX5_put 7 = .ok (.aload_n 0, 1) := by decide +kernel
theorem dX5_put_8 : decode cX5_put 8 = .ok (.getfield 18, 3) := by decide +kernel
theorem dX5_put_11 : decode cX5_put 11 = .ok (.iload_n 1, 1) := by decide +kernel
theorem dX5_put_12 : decode cX5_put 12 = .ok (.iload_n 2, 1) := by decide +kernel
theorem dX5_put_13 : decode cX5_put 13 = .ok (.iastore, 1) := by decide +kernel
theorem dX5_put_14 : decode cX5_put 14 = .ok (.aload_n 0, 1) := by decide +kernel
theorem dX5_put_15 : decode cX5_put 15 = .ok (.dup, 1) := by decide +kernel
theorem dX5_put_16 : decode cX5_put 16 = .ok (.getfield 31, 3) := by decide +kernel
theorem dX5_put_19 : decode cX5_put 19 = .ok (.iconst 1, 1) := by decide +kernel
theorem dX5_put_20 : decode cX5_put 20 = .ok (.iadd, 1) := by decide +kernel
theorem dX5_put_21 : decode cX5_put 21 = .ok (.putfield 31, 3) := by decide +kernel
theorem dX5_put_24 : decode cX5_put 24 = .ok (.return_, 1) := by decide +kernel
theorem dX5_free_0 : decode cX5_free 0 = .ok (.iload_n 1, 1) := by decide +kernel
theorem dX5_free_1 : decode cX5_free 1 = .ok (.invokestatic 83, 3) := by decide +kernel
theorem dX5_free_4 : decode cX5_free 4 = .ok (.ifCond .eq 20, 3) := by decide +kernel
theorem dX5_free_7 : decode cX5_free 7 = .ok (.aload_n 0, 1) := by decide +kernel
theorem dX5_free_8 : decode cX5_free 8 = .ok (.getfield 18, 3) := by decide +kernel
theorem dX5_free_11 : decode cX5_free 11 = .ok (.iload_n 1, 1) := by decide +kernel
theorem dX5_free_12 : decode cX5_free 12 = .ok (.iconst (-1), 1) := by decide +kernel
theorem dX5_free_13 : decode cX5_free 13 = .ok (.iastore, 1) := by decide +kernel
theorem dX5_free_14 : decode cX5_free 14 = .ok (.aload_n 0, 1) := by decide +kernel
theorem dX5_free_15 : decode cX5_free 15 = .ok (.dup, 1) := by decide +kernel
theorem dX5_free_16 : decode cX5_free 16 = .ok (.getfield 37, 3) := by decide +kernel
theorem dX5_free_19 : decode cX5_free 19 = .ok (.iconst 1, 1) := by decide +kernel
theorem dX5_free_20 : decode cX5_free 20 = .ok (.iadd, 1) := by decide +kernel
theorem dX5_free_21 : decode cX5_free 21 = .ok (.putfield 37, 3) := by decide +kernel
theorem dX5_free_24 : decode cX5_free 24 = .ok (.iload_n 1, 1) := by decide +kernel
theorem dX5_free_25 : decode cX5_free 25 = .ok (.aload_n 0, 1) := by decide +kernel
theorem dX5_free_26 : decode cX5_free 26 = .ok (.getfield 28, 3) := by decide +kernel
theorem dX5_free_29 : decode cX5_free 29 = .ok (.if_icmp .ne 8, 3) := by decide +kernel
theorem dX5_free_32 : decode cX5_free 32 = .ok (.aload_n 0, 1) := by decide +kernel
theorem dX5_free_33 : decode cX5_free 33 = .ok (.iconst (-1), 1) := by decide +kernel
theorem dX5_free_34 : decode cX5_free 34 = .ok (.putfield 28, 3) := by decide +kernel
theorem dX5_free_37 : decode cX5_free 37 = .ok (.return_, 1) := by decide +kernel
theorem dX5_areAtOdds_0 : decode cX5_areAtOdds 0 = .ok (.iload_n 0, 1) := by decide +kernel
theorem dX5_areAtOdds_1 : decode cX5_areAtOdds 1 = .ok (.ifCond .le 16, 3) := by decide +kernel
theorem dX5_areAtOdds_4 : decode cX5_areAtOdds 4 = .ok (.iload_n 1, 1) := by decide +kernel
theorem dX5_areAtOdds_5 : decode cX5_areAtOdds 5 = .ok (.ifCond .le 12, 3) := by decide +kernel
theorem dX5_areAtOdds_8 : decode cX5_areAtOdds 8 = .ok (.iload_n 0, 1) := by decide +kernel
theorem dX5_areAtOdds_9 : decode cX5_areAtOdds 9 = .ok (.iload_n 1, 1) := by decide +kernel
theorem dX5_areAtOdds_10 : decode cX5_areAtOdds 10 = .ok (.if_icmp .eq 7, 3) := by decide +kernel
theorem dX5_areAtOdds_13 : decode cX5_areAtOdds 13 = .ok (.iconst 1, 1) := by decide +kernel
theorem dX5_areAtOdds_14 : decode cX5_areAtOdds 14 = .ok (.goto 4, 3) := by decide +kernel
theorem dX5_areAtOdds_17 : decode cX5_areAtOdds 17 = .ok (.iconst 0, 1) := by decide +kernel
theorem dX5_areAtOdds_18 : decode cX5_areAtOdds 18 = .ok (.ireturn, 1) := by decide +kernel
theorem dX6_init_0 : decode cX6_init 0 = .ok (.aload_n 0, 1) := by decide +kernel
theorem dX6_init_1 : decode cX6_init 1 = .ok (.invokespecial 3, 3) := by decide +kernel
theorem dX6_init_4 : decode cX6_init 4 = .ok (.aload_n 0, 1) := by decide +kernel
theorem dX6_init_5 : decode cX6_init 5 = .ok (.new 9, 3) := by decide +kernel
theorem dX6_init_8 : decode cX6_init 8 = .ok (.dup, 1) := by decide +kernel
theorem dX6_init_9 : decode cX6_init 9 = .ok (.invokespecial 11, 3) := by decide +kernel
theorem dX6_init_12 : decode cX6_init 12 = .ok (.putfield 12, 3) := by decide +kernel
theorem dX6_init_15 : decode cX6_init 15 = .ok (.aload_n 0, 1) := by decide +kernel
theorem dX6_init_16 : decode cX6_init 16 = .ok (.new 9, 3) := by decide +kernel
theorem dX6_init_19 : decode cX6_init 19 = .ok (.dup, 1) := by decide +kernel
theorem dX6_init_20 : decode cX6_init 20 = .ok (.invokespecial 11, 3) := by decide +kernel
theorem dX6_init_23 : decode cX6_init 23 = .ok (.putfield 16, 3) := by decide +kernel
theorem dX6_init_26 : decode cX6_init 26 = .ok (.aload_n 0, 1) := by decide +kernel
theorem dX6_init_27 : decode cX6_init 27 = .ok (.new 9, 3) := by decide +kernel
theorem dX6_init_30 : decode cX6_init 30 = .ok (.dup, 1) := by decide +kernel
theorem dX6_init_31 : decode cX6_init 31 = .ok (.invokespecial 11, 3) := by decide +kernel
theorem dX6_init_34 : decode cX6_init 34 = .ok (.putfield 19, 3) := by decide +kernel
theorem dX6_init_37 : decode cX6_init 37 = .ok (.aload_n 0, 1) := by decide +kernel
theorem dX6_init_38 : decode cX6_init 38 = .ok (.iconst 0, 1) := by decide +kernel
theorem dX6_init_39 : decode cX6_init 39 = .ok (.putfield 22, 3) := by decide +kernel
theorem dX6_init_42 : decode cX6_init 42 = .ok (.aload_n 0, 1) := by decide +kernel
theorem dX6_init_43 : decode cX6_init 43 = .ok (.new 26, 3) := by decide +kernel
theorem dX6_init_46 : decode cX6_init 46 = .ok (.dup, 1) := by decide +kernel
theorem dX6_init_47 : decode cX6_init 47 = .ok (.invokespecial 28, 3) := by decide +kernel
theorem dX6_init_50 : decode cX6_init 50 = .ok (.putfield 29, 3) := by decide +kernel
theorem dX6_init_53 : decode cX6_init 53 = .ok (.aload_n 0, 1) := by decide +kernel
theorem dX6_init_54 : decode cX6_init 54 = .ok (.new 33, 3) := by decide +kernel
theorem dX6_init_57 : decode cX6_init 57 = .ok (.dup, 1) := by decide +kernel
theorem dX6_init_58 : decode cX6_init 58 = .ok (.invokespecial 35, 3) := by decide +kernel
theorem dX6_init_61 : decode cX6_init 61 = .ok (.putfield 36, 3) := by decide +kernel
theorem dX6_init_64 : decode cX6_init 64 = .ok (.aload_n 0, 1) := by decide +kernel
theorem dX6_init_65 : decode cX6_init 65 = .ok (.new 40, 3) := by decide +kernel
theorem dX6_init_68 : decode cX6_init 68 = .ok (.dup, 1) := by decide +kernel
theorem dX6_init_69 : decode cX6_init 69 = .ok (.invokespecial 42, 3) := by decide +kernel
theorem dX6_init_72 : decode cX6_init 72 = .ok (.putfield 43, 3) := by decide +kernel
theorem dX6_init_75 : decode cX6_init 75 = .ok (.aload_n 0, 1) := by decide +kernel
theorem dX6_init_76 : decode cX6_init 76 = .ok (.new 47, 3) := by decide +kernel
theorem dX6_init_79 : decode cX6_init 79 = .ok (.dup, 1) := by decide +kernel
theorem dX6_init_80 : decode cX6_init 80 = .ok (.aload_n 0, 1) := by decide +kernel
theorem dX6_init_81 : decode cX6_init 81 = .ok (.getfield 36, 3) := by decide +kernel
theorem dX6_init_84 : decode cX6_init 84 = .ok (.aload_n 0, 1) := by decide +kernel
theorem dX6_init_85 : decode cX6_init 85 = .ok (.getfield 43, 3) := by decide +kernel
theorem dX6_init_88 : decode cX6_init 88 = .ok (.invokespecial 49, 3) := by decide +kernel
theorem dX6_init_91 : decode cX6_init 91 = .ok (.putfield 52, 3) := by decide +kernel
theorem dX6_init_94 : decode cX6_init 94 = .ok (.aload_n 0, 1) := by decide +kernel
theorem dX6_init_95 : decode cX6_init 95 = .ok (.iconst 0, 1) := by decide +kernel
theorem dX6_init_96 : decode cX6_init 96 = .ok (.putfield 56, 3) := by decide +kernel
theorem dX6_init_99 : decode cX6_init 99 = .ok (.aload_n 0, 1) := by decide +kernel
theorem dX6_init_100 : decode cX6_init 100 = .ok (.new 60, 3) := by decide +kernel
theorem dX6_init_103 : decode cX6_init 103 = .ok (.dup, 1) := by decide +kernel
theorem dX6_init_104 : decode cX6_init 104 = .ok (.invokespecial 62, 3) := by decide +kernel
theorem dX6_init_107 : decode cX6_init 107 = .ok (.putfield 63, 3) := by decide +kernel
theorem dX6_init_110 : decode cX6_init 110 = .ok (.aload_n 0, 1) := by decide +kernel
theorem dX6_init_111 : decode cX6_init 111 = .ok (.iconst (-1), 1) := by decide +kernel
theorem dX6_init_112 : decode cX6_init 112 = .ok (.putfield 67, 3) := by decide +kernel
theorem dX6_init_115 : decode cX6_init 115 = .ok (.aload_n 0, 1) := by decide +kernel
theorem dX6_init_116 : decode cX6_init 116 = .ok (.bipush 28, 2) := by decide +kernel
theorem dX6_init_118 : decode cX6_init 118 = .ok (.newarray .char, 2) := by decide +kernel
theorem dX6_init_120 : decode cX6_init 120 = .ok (.putfield 70, 3) := by decide +kernel
theorem dX6_init_123 : decode cX6_init 123 = .ok (.aload_n 0, 1) := by decide +kernel
theorem dX6_init_124 : decode cX6_init 124 = .ok (.iconst 0, 1) := by decide +kernel
theorem dX6_init_125 : decode cX6_init 125 = .ok (.putfield 74, 3) := by decide +kernel
theorem dX6_init_128 : decode cX6_init 128 = .ok (.return_, 1) := by decide +kernel
theorem dX6_kind_0 : decode cX6_kind 0 = .ok (.aload_n 0, 1) := by decide +kernel
theorem dX6_kind_1 : decode cX6_kind 1 = .ok (.getfield 16, 3) := by decide +kernel
theorem dX6_kind_4 : decode cX6_kind 4 = .ok (.aload_n 0, 1) := by decide +kernel
theorem dX6_kind_5 : decode cX6_kind 5 = .ok (.getfield 12, 3) := by decide +kernel
theorem dX6_kind_8 : decode cX6_kind 8 = .ok (.invokevirtual 77, 3) := by decide +kernel
theorem dX6_kind_11 : decode cX6_kind 11 = .ok (.aload_n 0, 1) := by decide +kernel
theorem dX6_kind_12 : decode cX6_kind 12 = .ok (.aload_n 0, 1) := by decide +kernel
theorem dX6_kind_13 : decode cX6_kind 13 = .ok (.getfield 52, 3) := by decide +kernel
theorem dX6_kind_16 : decode cX6_kind 16 = .ok (.aload_n 0, 1) := by decide +kernel
theorem dX6_kind_17 : decode cX6_kind 17 = .ok (.getfield 12, 3) := by decide +kernel
theorem dX6_kind_20 : decode cX6_kind 20 = .ok (.iload_n 1, 1) := by decide +kernel
theorem dX6_kind_21 : decode cX6_kind 21 = .ok (.iload_n 2, 1) := by decide +kernel
theorem dX6_kind_22 : decode cX6_kind 22 = .ok (.iload_n 3, 1) := by decide +kernel
theorem dX6_kind_23 : decode cX6_kind 23 = .ok (.iload 4, 2) := by decide +kernel
theorem dX6_kind_25 : decode cX6_kind 25 = .ok (.invokevirtual 81, 3) := by decide +kernel
theorem dX6_kind_28 : decode cX6_kind 28 = .ok (.invokevirtual 85, 3) := by decide +kernel
theorem dX6_kind_31 : decode cX6_kind 31 = .ok (.istore 5, 2) := by decide +kernel
theorem dX6_kind_33 : decode cX6_kind 33 = .ok (.iload 5, 2) := by decide +kernel
theorem dX6_kind_35 : decode cX6_kind 35 = .ok (.iconst (-1), 1) := by decide +kernel
theorem dX6_kind_36 : decode cX6_kind 36 = .ok (.if_icmp .ne 13, 3) := by decide +kernel
theorem dX6_kind_39 : decode cX6_kind 39 = .ok (.new 89, 3) := by decide +kernel
theorem dX6_kind_42 : decode cX6_kind 42 = .ok (.dup, 1) := by decide +kernel
theorem dX6_kind_43 : decode cX6_kind 43 = .ok (.ldc 91, 2) := by decide +kernel
theorem dX6_kind_45 : decode cX6_kind 45 = .ok (.invokespecial 93, 3) := by decide +kernel
theorem dX6_kind_48 : decode cX6_kind 48 = .ok (.athrow, 1) := by decide +kernel
theorem dX6_kind_49 : decode cX6_kind 49 = .ok (.iload 5, 2) := by decide +kernel
theorem dX6_kind_51 : decode cX6_kind 51 = .ok (.ireturn, 1) := by decide +kernel
theorem dX6_lay_0 : decode cX6_lay 0 = .ok (.aload_n 0, 1) := by decide +kernel
theorem dX6_lay_1 : decode cX6_lay 1 = .ok (.getfield 16, 3) := by decide +kernel
theorem dX6_lay_4 : decode cX6_lay 4 = .ok (.aload_n 0, 1) := by decide +kernel
theorem dX6_lay_5 : decode cX6_lay 5 = .ok (.getfield 12, 3) := by decide +kernel
theorem dX6_lay_8 : decode cX6_lay 8 = .ok (.invokevirtual 77, 3) := by decide +kernel
theorem dX6_lay_11 : decode cX6_lay 11 = .ok (.aload_n 0, 1) := by decide +kernel
theorem dX6_lay_12 : decode cX6_lay 12 = .ok (.aload_n 0, 1) := by decide +kernel
theorem dX6_lay_13 : decode cX6_lay 13 = .ok (.getfield 52, 3) := by decide +kernel
theorem dX6_lay_16 : decode cX6_lay 16 = .ok (.aload_n 0, 1) := by decide +kernel
theorem dX6_lay_17 : decode cX6_lay 17 = .ok (.getfield 12, 3) := by decide +kernel
theorem dX6_lay_20 : decode cX6_lay 20 = .ok (.iload_n 1, 1) := by decide +kernel
theorem dX6_lay_21 : decode cX6_lay 21 = .ok (.iload_n 2, 1) := by decide +kernel
theorem dX6_lay_22 : decode cX6_lay 22 = .ok (.iload_n 3, 1) := by decide +kernel
theorem dX6_lay_23 : decode cX6_lay 23 = .ok (.invokevirtual 96, 3) := by decide +kernel
theorem dX6_lay_26 : decode cX6_lay 26 = .ok (.invokevirtual 85, 3) := by decide +kernel
theorem dX6_lay_29 : decode cX6_lay 29 = .ok (.istore 4, 2) := by decide +kernel
theorem dX6_lay_31 : decode cX6_lay 31 = .ok (.iload 4, 2) := by decide +kernel
theorem dX6_lay_33 : decode cX6_lay 33 = .ok (.iconst (-1), 1) := by decide +kernel
theorem dX6_lay_34 : decode cX6_lay 34 = .ok (.if_icmp .ne 13, 3) := by decide +kernel
theorem dX6_lay_37 : decode cX6_lay 37 = .ok (.new 89, 3) := by decide +kernel
theorem dX6_lay_40 : decode cX6_lay 40 = .ok (.dup, 1) := by decide +kernel
theorem dX6_lay_41 : decode cX6_lay 41 = .ok (.ldc 100, 2) := by decide +kernel
theorem dX6_lay_43 : decode cX6_lay 43 = .ok (.invokespecial 93, 3) := by decide +kernel
theorem dX6_lay_46 : decode cX6_lay 46 = .ok (.athrow, 1) := by decide +kernel
theorem dX6_lay_47 : decode cX6_lay 47 = .ok (.iload 4, 2) := by decide +kernel
theorem dX6_lay_49 : decode cX6_lay 49 = .ok (.ireturn, 1) := by decide +kernel
theorem dX6_takeOut_0 : decode cX6_takeOut 0 = .ok (.aload_n 0, 1) := by decide +kernel
theorem dX6_takeOut_1 : decode cX6_takeOut 1 = .ok (.getfield 16, 3) := by decide +kernel
theorem dX6_takeOut_4 : decode cX6_takeOut 4 = .ok (.aload_n 0, 1) := by decide +kernel
theorem dX6_takeOut_5 : decode cX6_takeOut 5 = .ok (.getfield 12, 3) := by decide +kernel
theorem dX6_takeOut_8 : decode cX6_takeOut 8 = .ok (.invokevirtual 77, 3) := by decide +kernel
theorem dX6_takeOut_11 : decode cX6_takeOut 11 = .ok (.aload_n 0, 1) := by decide +kernel
theorem dX6_takeOut_12 : decode cX6_takeOut 12 = .ok (.aload_n 0, 1) := by decide +kernel
theorem dX6_takeOut_13 : decode cX6_takeOut 13 = .ok (.getfield 52, 3) := by decide +kernel
theorem dX6_takeOut_16 : decode cX6_takeOut 16 = .ok (.aload_n 0, 1) := by decide +kernel
theorem dX6_takeOut_17 : decode cX6_takeOut 17 = .ok (.getfield 12, 3) := by decide +kernel
theorem dX6_takeOut_20 : decode cX6_takeOut 20 = .ok (.iload_n 1, 1) := by decide +kernel
theorem dX6_takeOut_21 : decode cX6_takeOut 21 = .ok (.invokevirtual 102, 3) := by decide +kernel
theorem dX6_takeOut_24 : decode cX6_takeOut 24 = .ok (.invokevirtual 85, 3) := by decide +kernel
theorem dX6_takeOut_27 : decode cX6_takeOut 27 = .ok (.istore_n 2, 1) := by decide +kernel
theorem dX6_takeOut_28 : decode cX6_takeOut 28 = .ok (.iload_n 2, 1) := by decide +kernel
theorem dX6_takeOut_29 : decode cX6_takeOut 29 = .ok (.iconst (-1), 1) := by decide +kernel
theorem dX6_takeOut_30 : decode cX6_takeOut 30 = .ok (.if_icmp .ne 13, 3) := by decide +kernel
theorem dX6_takeOut_33 : decode cX6_takeOut 33 = .ok (.new 89, 3) := by decide +kernel
theorem dX6_takeOut_36 : decode cX6_takeOut 36 = .ok (.dup, 1) := by decide +kernel
theorem dX6_takeOut_37 : decode cX6_takeOut 37 = .ok (.ldc 106, 2) := by decide +kernel
theorem dX6_takeOut_39 : decode cX6_takeOut 39 = .ok (.invokespecial 93, 3) := by decide +kernel
theorem dX6_takeOut_42 : decode cX6_takeOut 42 = .ok (.athrow, 1) := by decide +kernel
theorem dX6_takeOut_43 : decode cX6_takeOut 43 = .ok (.iload_n 2, 1) := by decide +kernel
theorem dX6_takeOut_44 : decode cX6_takeOut 44 = .ok (.ireturn, 1) := by decide +kernel
theorem dX6_grow_0 : decode cX6_grow 0 = .ok (.aload_n 0, 1) := by decide +kernel
theorem dX6_grow_1 : decode cX6_grow 1 = .ok (.getfield 16, 3) := by decide +kernel
theorem dX6_grow_4 : decode cX6_grow 4 = .ok (.aload_n 0, 1) := by decide +kernel
theorem dX6_grow_5 : decode cX6_grow 5 = .ok (.getfield 12, 3) := by decide +kernel
theorem dX6_grow_8 : decode cX6_grow 8 = .ok (.invokevirtual 77, 3) := by decide +kernel
theorem dX6_grow_11 : decode cX6_grow 11 = .ok (.aload_n 0, 1) := by decide +kernel
theorem dX6_grow_12 : decode cX6_grow 12 = .ok (.aload_n 0, 1) := by decide +kernel
theorem dX6_grow_13 : decode cX6_grow 13 = .ok (.getfield 52, 3) := by decide +kernel
theorem dX6_grow_16 : decode cX6_grow 16 = .ok (.aload_n 0, 1) := by decide +kernel
theorem dX6_grow_17 : decode cX6_grow 17 = .ok (.getfield 12, 3) := by decide +kernel
theorem dX6_grow_20 : decode cX6_grow 20 = .ok (.iload_n 1, 1) := by decide +kernel
theorem dX6_grow_21 : decode cX6_grow 21 = .ok (.invokevirtual 108, 3) := by decide +kernel
theorem dX6_grow_24 : decode cX6_grow 24 = .ok (.invokevirtual 85, 3) := by decide +kernel
theorem dX6_grow_27 : decode cX6_grow 27 = .ok (.istore_n 2, 1) := by decide +kernel
theorem dX6_grow_28 : decode cX6_grow 28 = .ok (.iload_n 2, 1) := by decide +kernel
theorem dX6_grow_29 : decode cX6_grow 29 = .ok (.iconst (-1), 1) := by decide +kernel
theorem dX6_grow_30 : decode cX6_grow 30 = .ok (.if_icmp .ne 13, 3) := by decide +kernel
theorem dX6_grow_33 : decode cX6_grow 33 = .ok (.new 89, 3) := by decide +kernel
theorem dX6_grow_36 : decode cX6_grow 36 = .ok (.dup, 1) := by decide +kernel
theorem dX6_grow_37 : decode cX6_grow 37 = .ok (.ldc 111, 2) := by decide +kernel
theorem dX6_grow_39 : decode cX6_grow 39 = .ok (.invokespecial 93, 3) := by decide +kernel
theorem dX6_grow_42 : decode cX6_grow 42 = .ok (.athrow, 1) := by decide +kernel
theorem dX6_grow_43 : decode cX6_grow 43 = .ok (.iload_n 2, 1) := by decide +kernel
theorem dX6_grow_44 : decode cX6_grow 44 = .ok (.ireturn, 1) := by decide +kernel
theorem dX6_strength_0 : decode cX6_strength 0 = .ok (.aload_n 0, 1) := by decide +kernel
theorem dX6_strength_1 : decode cX6_strength 1 = .ok (.getfield 16, 3) := by decide +kernel
theorem dX6_strength_4 : decode cX6_strength 4 = .ok (.aload_n 0, 1) := by decide +kernel
theorem dX6_strength_5 : decode cX6_strength 5 = .ok (.getfield 12, 3) := by decide +kernel
theorem dX6_strength_8 : decode cX6_strength 8 = .ok (.invokevirtual 77, 3) := by decide +kernel
theorem dX6_strength_11 : decode cX6_strength 11 = .ok (.aload_n 0, 1) := by decide +kernel
theorem dX6_strength_12 : decode cX6_strength 12 = .ok (.aload_n 0, 1) := by decide +kernel
theorem dX6_strength_13 : decode cX6_strength 13 = .ok (.getfield 52, 3) := by decide +kernel
theorem dX6_strength_16 : decode cX6_strength 16 = .ok (.aload_n 0, 1) := by decide +kernel
theorem dX6_strength_17 : decode cX6_strength 17 = .ok (.getfield 12, 3) := by decide +kernel
theorem dX6_strength_20 : decode cX6_strength 20 = .ok (.iload_n 1, 1) := by decide +kernel
theorem dX6_strength_21 : decode cX6_strength 21 = .ok (.iload_n 2, 1) := by decide +kernel
theorem dX6_strength_22 : decode cX6_strength 22 = .ok (.invokevirtual 113, 3) := by decide +kernel
theorem dX6_strength_25 : decode cX6_strength 25 = .ok (.invokevirtual 85, 3) := by decide +kernel
theorem dX6_strength_28 : decode cX6_strength 28 = .ok (.istore_n 3, 1) := by decide +kernel
theorem dX6_strength_29 : decode cX6_strength 29 = .ok (.iload_n 3, 1) := by decide +kernel
theorem dX6_strength_30 : decode cX6_strength 30 = .ok (.iconst (-1), 1) := by decide +kernel
theorem dX6_strength_31 : decode cX6_strength 31 = .ok (.if_icmp .ne 13, 3) := by decide +kernel
theorem dX6_strength_34 : decode cX6_strength 34 = .ok (.new 89, 3) := by decide +kernel
theorem dX6_strength_37 : decode cX6_strength 37 = .ok (.dup, 1) := by decide +kernel
theorem dX6_strength_38 : decode cX6_strength 38 = .ok (.ldc 117, 2) := by decide +kernel
theorem dX6_strength_40 : decode cX6_strength 40 = .ok (.invokespecial 93, 3) := by decide +kernel
theorem dX6_strength_43 : decode cX6_strength 43 = .ok (.athrow, 1) := by decide +kernel
theorem dX6_strength_44 : decode cX6_strength 44 = .ok (.iload_n 3, 1) := by decide +kernel
theorem dX6_strength_45 : decode cX6_strength 45 = .ok (.ireturn, 1) := by decide +kernel
theorem dX6_need_0 : decode cX6_need 0 = .ok (.aload_n 0, 1) := by decide +kernel
theorem dX6_need_1 : decode cX6_need 1 = .ok (.getfield 16, 3) := by decide +kernel
theorem dX6_need_4 : decode cX6_need 4 = .ok (.aload_n 0, 1) := by decide +kernel
theorem dX6_need_5 : decode cX6_need 5 = .ok (.getfield 12, 3) := by decide +kernel
theorem dX6_need_8 : decode cX6_need 8 = .ok (.invokevirtual 77, 3) := by decide +kernel
theorem dX6_need_11 : decode cX6_need 11 = .ok (.aload_n 0, 1) := by decide +kernel
theorem dX6_need_12 : decode cX6_need 12 = .ok (.aload_n 0, 1) := by decide +kernel
theorem dX6_need_13 : decode cX6_need 13 = .ok (.getfield 52, 3) := by decide +kernel
theorem dX6_need_16 : decode cX6_need 16 = .ok (.aload_n 0, 1) := by decide +kernel
theorem dX6_need_17 : decode cX6_need 17 = .ok (.getfield 12, 3) := by decide +kernel
theorem dX6_need_20 : decode cX6_need 20 = .ok (.iload_n 1, 1) := by decide +kernel
theorem dX6_need_21 : decode cX6_need 21 = .ok (.invokevirtual 119, 3) := by decide +kernel
theorem dX6_need_24 : decode cX6_need 24 = .ok (.invokevirtual 85, 3) := by decide +kernel
theorem dX6_need_27 : decode cX6_need 27 = .ok (.istore_n 2, 1) := by decide +kernel
theorem dX6_need_28 : decode cX6_need 28 = .ok (.iload_n 2, 1) := by decide +kernel
theorem dX6_need_29 : decode cX6_need 29 = .ok (.iconst (-1), 1) := by decide +kernel
theorem dX6_need_30 : decode cX6_need 30 = .ok (.if_icmp .ne 13, 3) := by decide +kernel
theorem dX6_need_33 : decode cX6_need 33 = .ok (.new 89, 3) := by decide +kernel
theorem dX6_need_36 : decode cX6_need 36 = .ok (.dup, 1) := by decide +kernel
theorem dX6_need_37 : decode cX6_need 37 = .ok (.ldc 122, 2) := by decide +kernel
theorem dX6_need_39 : decode cX6_need 39 = .ok (.invokespecial 93, 3) := by decide +kernel
theorem dX6_need_42 : decode cX6_need 42 = .ok (.athrow, 1) := by decide +kernel
theorem dX6_need_43 : decode cX6_need 43 = .ok (.iload_n 2, 1) := by decide +kernel
theorem dX6_need_44 : decode cX6_need 44 = .ok (.ireturn, 1) := by decide +kernel
theorem dX6_glueOf_0 : decode cX6_glueOf 0 = .ok (.aload_n 0, 1) := by decide +kernel
theorem dX6_glueOf_1 : decode cX6_glueOf 1 = .ok (.getfield 12, 3) := by decide +kernel
theorem dX6_glueOf_4 : decode cX6_glueOf 4 = .ok (.iload_n 1, 1) := by decide +kernel
theorem dX6_glueOf_5 : decode cX6_glueOf 5 = .ok (.invokevirtual 124, 3) := by decide +kernel
theorem dX6_glueOf_8 : decode cX6_glueOf 8 = .ok (.ifCond .ne 13, 3) := by decide +kernel
theorem dX6_glueOf_11 : decode cX6_glueOf 11 = .ok (.new 128, 3) := by decide +kernel
theorem dX6_glueOf_14 : decode cX6_glueOf 14 = .ok (.dup, 1) := by decide +kernel
theorem dX6_glueOf_15 : decode cX6_glueOf 15 = .ok (.ldc 130, 2) := by decide +kernel
theorem dX6_glueOf_17 : decode cX6_glueOf 17 = .ok (.invokespecial 132, 3) := by decide +kernel
theorem dX6_glueOf_20 : decode cX6_glueOf 20 = .ok (.athrow, 1) := by decide +kernel
theorem dX6_glueOf_21 : decode cX6_glueOf 21 = .ok (.iload_n 2, 1) := by decide +kernel
theorem dX6_glueOf_22 : decode cX6_glueOf 22 = .ok (.invokestatic 133, 3) := by decide +kernel
theorem dX6_glueOf_25 : decode cX6_glueOf 25 = .ok (.ifCond .eq 10, 3) := by decide +kernel
theorem dX6_glueOf_28 : decode cX6_glueOf 28 = .ok (.iload_n 3, 1) := by decide +kernel
theorem dX6_glueOf_29 : decode cX6_glueOf 29 = .ok (.invokestatic 133, 3) := by decide +kernel
theorem dX6_glueOf_32 : decode cX6_glueOf 32 = .ok (.ifCond .ne 13, 3) := by decide +kernel
theorem dX6_glueOf_35 : decode cX6_glueOf 35 = .ok (.new 136, 3) := by decide +kernel
theorem dX6_glueOf_38 : decode cX6_glueOf 38 = .ok (.dup, 1) := by decide +kernel
theorem dX6_glueOf_39 : decode cX6_glueOf 39 = .ok (.ldc 138, 2) := by decide +kernel
theorem dX6_glueOf_41 : decode cX6_glueOf 41 = .ok (.invokespecial 140, 3) := by decide +kernel
theorem dX6_glueOf_44 : decode cX6_glueOf 44 = .ok (.athrow, 1) := by decide +kernel
theorem dX6_glueOf_45 : decode cX6_glueOf 45 = .ok (.aload_n 0, 1) := by decide +kernel
theorem dX6_glueOf_46 : decode cX6_glueOf 46 = .ok (.getfield 12, 3) := by decide +kernel
theorem dX6_glueOf_49 : decode cX6_glueOf 49 = .ok (.iload_n 1, 1) := by decide +kernel
theorem dX6_glueOf_50 : decode cX6_glueOf 50 = .ok (.iload_n 2, 1) := by decide +kernel
theorem dX6_glueOf_51 : decode cX6_glueOf 51 = .ok (.invokestatic 141, 3) := by decide +kernel
theorem dX6_glueOf_54 : decode cX6_glueOf 54 = .ok (.iload_n 3, 1) := by decide +kernel
theorem dX6_glueOf_55 : decode cX6_glueOf 55 = .ok (.invokevirtual 145, 3) := by decide +kernel
theorem dX6_glueOf_58 : decode cX6_glueOf 58 = .ok (.ireturn, 1) := by decide +kernel
theorem dX6_strengthOf_0 : decode cX6_strengthOf 0 = .ok (.iload_n 1, 1) := by decide +kernel
theorem dX6_strengthOf_1 : decode cX6_strengthOf 1 = .ok (.ifCond .lt 9, 3) := by decide +kernel
theorem dX6_strengthOf_4 : decode cX6_strengthOf 4 = .ok (.iload_n 1, 1) := by decide +kernel
theorem dX6_strengthOf_5 : decode cX6_strengthOf 5 = .ok (.bipush 6, 2) := by decide +kernel
theorem dX6_strengthOf_7 : decode cX6_strengthOf 7 = .ok (.if_icmp .le 13, 3) := by decide +kernel
theorem dX6_strengthOf_10 : decode cX6_strengthOf 10 = .ok (.new 136, 3) := by decide +kernel
theorem dX6_strengthOf_13 : decode cX6_strengthOf 13 = .ok (.dup, 1) := by decide +kernel
theorem dX6_strengthOf_14 : decode cX6_strengthOf 14 = .ok (.ldc 148, 2) := by decide +kernel
theorem dX6_strengthOf_16 : decode cX6_strengthOf 16 = .ok (.invokespecial 140, 3) := by decide +kernel
theorem dX6_strengthOf_19 : decode cX6_strengthOf 19 = .ok (.athrow, 1) := by decide +kernel
theorem dX6_strengthOf_20 : decode cX6_strengthOf 20 = .ok (.aload_n 0, 1) := by decide +kernel
theorem dX6_strengthOf_21 : decode cX6_strengthOf 21 = .ok (.getfield 12, 3) := by decide +kernel
theorem dX6_strengthOf_24 : decode cX6_strengthOf 24 = .ok (.getfield 150, 3) := by decide +kernel
theorem dX6_strengthOf_27 : decode cX6_strengthOf 27 = .ok (.iload_n 1, 1) := by decide +kernel
theorem dX6_strengthOf_28 : decode cX6_strengthOf 28 = .ok (.iaload, 1) := by decide +kernel
theorem dX6_strengthOf_29 : decode cX6_strengthOf 29 = .ok (.ireturn, 1) := by decide +kernel
theorem dX6_brickAt_0 : decode cX6_brickAt 0 = .ok (.iload_n 1, 1) := by decide +kernel
theorem dX6_brickAt_1 : decode cX6_brickAt 1 = .ok (.invokestatic 154, 3) := by decide +kernel
theorem dX6_brickAt_4 : decode cX6_brickAt 4 = .ok (.ifCond .ne 13, 3) := by decide +kernel
theorem dX6_brickAt_7 : decode cX6_brickAt 7 = .ok (.new 128, 3) := by decide +kernel
theorem dX6_brickAt_10 : decode cX6_brickAt 10 = .ok (.dup, 1) := by decide +kernel
theorem dX6_brickAt_11 : decode cX6_brickAt 11 = .ok (.ldc 157, 2) := by decide +kernel
theorem dX6_brickAt_13 : decode cX6_brickAt 13 = .ok (.invokespecial 132, 3) := by decide +kernel
theorem dX6_brickAt_16 : decode cX6_brickAt 16 = .ok (.athrow, 1) := by decide +kernel
theorem dX6_brickAt_17 : decode cX6_brickAt 17 = .ok (.aload_n 0, 1) := by decide +kernel
theorem dX6_brickAt_18 : decode cX6_brickAt 18 = .ok (.getfield 12, 3) := by decide +kernel
theorem dX6_brickAt_21 : decode cX6_brickAt 21 = .ok (.iload_n 1, 1) := by decide +kernel
theorem dX6_brickAt_22 : decode cX6_brickAt 22 = .ok (.invokevirtual 159, 3) := by decide +kernel
theorem dX6_brickAt_25 : decode cX6_brickAt 25 = .ok (.istore_n 3, 1) := by decide +kernel
theorem dX6_brickAt_26 : decode cX6_brickAt 26 = .ok (.iload_n 3, 1) := by decide +kernel
theorem dX6_brickAt_27 : decode cX6_brickAt 27 = .ok (.iconst (-1), 1) := by decide +kernel
theorem dX6_brickAt_28 : decode cX6_brickAt 28 = .ok (.if_icmp .ne 13, 3) := by decide +kernel
theorem dX6_brickAt_31 : decode cX6_brickAt 31 = .ok (.new 162, 3) := by decide +kernel
theorem dX6_brickAt_34 : decode cX6_brickAt 34 = .ok (.dup, 1) := by decide +kernel
theorem dX6_brickAt_35 : decode cX6_brickAt 35 = .ok (.ldc 164, 2) := by decide +kernel
theorem dX6_brickAt_37 : decode cX6_brickAt 37 = .ok (.invokespecial 166, 3) := by decide +kernel
theorem dX6_brickAt_40 : decode cX6_brickAt 40 = .ok (.athrow, 1) := by decide +kernel
theorem dX6_brickAt_41 : decode cX6_brickAt 41 = .ok (.iload_n 2, 1) := by decide +kernel
theorem dX6_brickAt_42 : decode cX6_brickAt 42 = .ok (.ifCond .eq 10, 3) := by decide +kernel
theorem dX6_brickAt_45 : decode cX6_brickAt 45 = .ok (.iload_n 3, 1) := by decide +kernel
theorem dX6_brickAt_46 : decode cX6_brickAt 46 = .ok (.invokestatic 167, 3) := by decide +kernel
theorem dX6_brickAt_49 : decode cX6_brickAt 49 = .ok (.goto 7, 3) := by decide +kernel
theorem dX6_brickAt_52 : decode cX6_brickAt 52 = .ok (.iload_n 3, 1) := by decide +kernel
theorem dX6_brickAt_53 : decode cX6_brickAt 53 = .ok (.invokestatic 170, 3) := by decide +kernel
theorem dX6_brickAt_56 : decode cX6_brickAt 56 = .ok (.ireturn, 1) := by decide +kernel
theorem dX6_seed_0 : decode cX6_seed 0 = .ok (.aload_n 0, 1) := by decide +kernel
theorem dX6_seed_1 : decode cX6_seed 1 = .ok (.getfield 12, 3) := by decide +kernel
theorem dX6_seed_4 : decode cX6_seed 4 = .ok (.getfield 173, 3) := by decide +kernel
theorem dX6_seed_7 : decode cX6_seed 7 = .ok (.iconst (-1), 1) := by decide +kernel
theorem dX6_seed_8 : decode cX6_seed 8 = .ok (.if_icmp .ne 13, 3) := by decide +kernel
theorem dX6_seed_11 : decode cX6_seed 11 = .ok (.new 162, 3) := by decide +kernel
theorem dX6_seed_14 : decode cX6_seed 14 = .ok (.dup, 1) := by decide +kernel
theorem dX6_seed_15 : decode cX6_seed 15 = .ok (.ldc 176, 2) := by decide +kernel
theorem dX6_seed_17 : decode cX6_seed 17 = .ok (.invokespecial 166, 3) := by decide +kernel
theorem dX6_seed_20 : decode cX6_seed 20 = .ok (.athrow, 1) := by decide +kernel
theorem dX6_seed_21 : decode cX6_seed 21 = .ok (.aload_n 0, 1) := by decide +kernel
theorem dX6_seed_22 : decode cX6_seed 22 = .ok (.getfield 12, 3) := by decide +kernel
theorem dX6_seed_25 : decode cX6_seed 25 = .ok (.getfield 173, 3) := by decide +kernel
theorem dX6_seed_28 : decode cX6_seed 28 = .ok (.ireturn, 1) := by decide +kernel
theorem dX6_hold_0 : decode cX6_hold 0 = .ok (.iload_n 1, 1) := by decide +kernel
theorem dX6_hold_1 : decode cX6_hold 1 = .ok (.invokestatic 154, 3) := by decide +kernel
theorem dX6_hold_4 : decode cX6_hold 4 = .ok (.ifCond .ne 13, 3) := by decide +kernel
theorem dX6_hold_7 : decode cX6_hold 7 = .ok (.new 128, 3) := by decide +kernel
theorem dX6_hold_10 : decode cX6_hold 10 = .ok (.dup, 1) := by decide +kernel
theorem dX6_hold_11 : decode cX6_hold 11 = .ok (.ldc 157, 2) := by decide +kernel
theorem dX6_hold_13 : decode cX6_hold 13 = .ok (.invokespecial 132, 3) := by decide +kernel
theorem dX6_hold_16 : decode cX6_hold 16 = .ok (.athrow, 1) := by decide +kernel
theorem dX6_hold_17 : decode cX6_hold 17 = .ok (.aload_n 0, 1) := by decide +kernel
theorem dX6_hold_18 : decode cX6_hold 18 = .ok (.getfield 12, 3) := by decide +kernel
theorem dX6_hold_21 : decode cX6_hold 21 = .ok (.iload_n 1, 1) := by decide +kernel
theorem dX6_hold_22 : decode cX6_hold 22 = .ok (.invokevirtual 159, 3) := by decide +kernel
theorem dX6_hold_25 : decode cX6_hold 25 = .ok (.istore_n 2, 1) := by decide +kernel
theorem dX6_hold_26 : decode cX6_hold 26 = .ok (.iload_n 2, 1) := by decide +kernel
theorem dX6_hold_27 : decode cX6_hold 27 = .ok (.iconst (-1), 1) := by decide +kernel
theorem dX6_hold_28 : decode cX6_hold 28 = .ok (.if_icmp .ne 13, 3) := by decide +kernel
theorem dX6_hold_31 : decode cX6_hold 31 = .ok (.new 162, 3) := by decide +kernel
theorem dX6_hold_34 : decode cX6_hold 34 = .ok (.dup, 1) := by decide +kernel
theorem dX6_hold_35 : decode cX6_hold 35 = .ok (.ldc 164, 2) := by decide +kernel
theorem dX6_hold_37 : decode cX6_hold 37 = .ok (.invokespecial 166, 3) := by decide +kernel
theorem dX6_hold_40 : decode cX6_hold 40 = .ok (.athrow, 1) := by decide +kernel
theorem dX6_hold_41 : decode cX6_hold 41 = .ok (.aload_n 0, 1) := by decide +kernel
theorem dX6_hold_42 : decode cX6_hold 42 = .ok (.getfield 12, 3) := by decide +kernel
theorem dX6_hold_45 : decode cX6_hold 45 = .ok (.iload_n 2, 1) := by decide +kernel
theorem dX6_hold_46 : decode cX6_hold 46 = .ok (.iload_n 1, 1) := by decide +kernel
theorem dX6_hold_47 : decode cX6_hold 47 = .ok (.invokevirtual 178, 3) := by decide +kernel
theorem dX6_hold_50 : decode cX6_hold 50 = .ok (.ireturn, 1) := by decide +kernel
theorem dX6_holdAgain_0 : decode cX6_holdAgain 0 = .ok (.iload_n 1, 1) := by decide +kernel
theorem dX6_holdAgain_1 : decode cX6_holdAgain 1 = .ok (.invokestatic 154, 3) := by decide +kernel
theorem dX6_holdAgain_4 : decode cX6_holdAgain 4 = .ok (.ifCond .ne 13, 3) := by decide +kernel
theorem dX6_holdAgain_7 : decode cX6_holdAgain 7 = .ok (.new 128, 3) := by decide +kernel
theorem dX6_holdAgain_10 : decode cX6_holdAgain 10 = .ok (.dup, 1) := by decide +kernel
theorem dX6_holdAgain_11 : decode cX6_holdAgain 11 = .ok (.ldc 157, 2) := by decide +kernel
theorem dX6_holdAgain_13 : decode cX6_holdAgain 13 = .ok (.invokespecial 132, 3) := by decide +kernel
theorem dX6_holdAgain_16 : decode cX6_holdAgain 16 = .ok (.athrow, 1) := by decide +kernel
theorem dX6_holdAgain_17 : decode cX6_holdAgain 17 = .ok (.aload_n 0, 1) := by decide +kernel
theorem dX6_holdAgain_18 : decode cX6_holdAgain 18 = .ok (.getfield 12, 3) := by decide +kernel
theorem dX6_holdAgain_21 : decode cX6_holdAgain 21 = .ok (.iload_n 1, 1) := by decide +kernel
theorem dX6_holdAgain_22 : decode cX6_holdAgain 22 = .ok (.invokevirtual 181, 3) := by decide +kernel
theorem dX6_holdAgain_25 : decode cX6_holdAgain 25 = .ok (.ifCond .eq 13, 3) := by decide +kernel
theorem dX6_holdAgain_28 : decode cX6_holdAgain 28 = .ok (.new 162, 3) := by decide +kernel
theorem dX6_holdAgain_31 : decode cX6_holdAgain 31 = .ok (.dup, 1) := by decide +kernel
theorem dX6_holdAgain_32 : decode cX6_holdAgain 32 = .ok (.ldc 164, 2) := by decide +kernel
theorem dX6_holdAgain_34 : decode cX6_holdAgain 34 = .ok (.invokespecial 166, 3) := by decide +kernel
theorem dX6_holdAgain_37 : decode cX6_holdAgain 37 = .ok (.athrow, 1) := by decide +kernel
theorem dX6_holdAgain_38 : decode cX6_holdAgain 38 = .ok (.aload_n 0, 1) := by decide +kernel
theorem dX6_holdAgain_39 : decode cX6_holdAgain 39 = .ok (.getfield 12, 3) := by decide +kernel
theorem dX6_holdAgain_42 : decode cX6_holdAgain 42 = .ok (.iconst (-1), 1) := by decide +kernel
theorem dX6_holdAgain_43 : decode cX6_holdAgain 43 = .ok (.invokevirtual 184, 3) := by decide +kernel
theorem dX6_holdAgain_46 : decode cX6_holdAgain 46 = .ok (.aload_n 0, 1) := by decide +kernel
theorem dX6_holdAgain_47 : decode cX6_holdAgain 47 = .ok (.getfield 12, 3) := by decide +kernel
theorem dX6_holdAgain_50 : decode cX6_holdAgain 50 = .ok (.iload_n 1, 1) := by decide +kernel
theorem dX6_holdAgain_51 : decode cX6_holdAgain 51 = .ok (.invokevirtual 184, 3) := by decide +kernel
theorem dX6_holdAgain_54 : decode cX6_holdAgain 54 = .ok (.isub, 1) := by decide +kernel
theorem dX6_holdAgain_55 : decode cX6_holdAgain 55 = .ok (.iconst 2, 1) := by decide +kernel
theorem dX6_holdAgain_56 : decode cX6_holdAgain 56 = .ok (.idiv, 1) := by decide +kernel
theorem dX6_holdAgain_57 : decode cX6_holdAgain 57 = .ok (.ireturn, 1) := by decide +kernel
theorem dX6_wouldHold_0 : decode cX6_wouldHold 0 = .ok (.iload_n 1, 1) := by decide +kernel
theorem dX6_wouldHold_1 : decode cX6_wouldHold 1 = .ok (.invokestatic 154, 3) := by decide +kernel
theorem dX6_wouldHold_4 : decode cX6_wouldHold 4 = .ok (.ifCond .eq 14, 3) := by decide +kernel
theorem dX6_wouldHold_7 : decode cX6_wouldHold 7 = .ok (.aload_n 0, 1) := by decide +kernel
theorem dX6_wouldHold_8 : decode cX6_wouldHold 8 = .ok (.getfield 12, 3) := by decide +kernel
theorem dX6_wouldHold_11 : decode cX6_wouldHold 11 = .ok (.iload_n 2, 1) := by decide +kernel
theorem dX6_wouldHold_12 : decode cX6_wouldHold 12 = .ok (.invokevirtual 124, 3) := by decide +kernel
theorem dX6_wouldHold_15 : decode cX6_wouldHold 15 = .ok (.ifCond .ne 13, 3) := by decide +kernel
theorem dX6_wouldHold_18 : decode cX6_wouldHold 18 = .ok (.new 128, 3) := by decide +kernel
theorem dX6_wouldHold_21 : decode cX6_wouldHold 21 = .ok (.dup, 1) := by decide +kernel
theorem dX6_wouldHold_22 : decode cX6_wouldHold 22 = .ok (.ldc 187, 2) := by decide +kernel
theorem dX6_wouldHold_24 : decode cX6_wouldHold 24 = .ok (.invokespecial 132, 3) := by decide +kernel
theorem dX6_wouldHold_27 : decode cX6_wouldHold 27 = .ok (.athrow, 1) := by decide +kernel
theorem dX6_wouldHold_28 : decode cX6_wouldHold 28 = .ok (.iload_n 3, 1) := by decide +kernel
theorem dX6_wouldHold_29 : decode cX6_wouldHold 29 = .ok (.invokestatic 133, 3) := by decide +kernel
theorem dX6_wouldHold_32 : decode cX6_wouldHold 32 = .ok (.ifCond .ne 13, 3) := by decide +kernel
theorem dX6_wouldHold_35 : decode cX6_wouldHold 35 = .ok (.new 136, 3) := by decide +kernel
theorem dX6_wouldHold_38 : decode cX6_wouldHold 38 = .ok (.dup, 1) := by decide +kernel
theorem dX6_wouldHold_39 : decode cX6_wouldHold 39 = .ok (.ldc 189, 2) := by decide +kernel
theorem dX6_wouldHold_41 : decode cX6_wouldHold 41 = .ok (.invokespecial 140, 3) := by decide +kernel
theorem dX6_wouldHold_44 : decode cX6_wouldHold 44 = .ok (.athrow, 1) := by decide +kernel
theorem dX6_wouldHold_45 : decode cX6_wouldHold 45 = .ok (.aload_n 0, 1) := by decide +kernel
theorem dX6_wouldHold_46 : decode cX6_wouldHold 46 = .ok (.getfield 12, 3) := by decide +kernel
theorem dX6_wouldHold_49 : decode cX6_wouldHold 49 = .ok (.iload_n 1, 1) := by decide +kernel
theorem dX6_wouldHold_50 : decode cX6_wouldHold 50 = .ok (.invokevirtual 181, 3) := by decide +kernel
theorem dX6_wouldHold_53 : decode cX6_wouldHold 53 = .ok (.ifCond .ne 13, 3) := by decide +kernel
theorem dX6_wouldHold_56 : decode cX6_wouldHold 56 = .ok (.new 162, 3) := by decide +kernel
theorem dX6_wouldHold_59 : decode cX6_wouldHold 59 = .ok (.dup, 1) := by decide +kernel
theorem dX6_wouldHold_60 : decode cX6_wouldHold 60 = .ok (.ldc 191, 2) := by decide +kernel
theorem dX6_wouldHold_62 : decode cX6_wouldHold 62 = .ok (.invokespecial 166, 3) := by decide +kernel
theorem dX6_wouldHold_65 : decode cX6_wouldHold 65 = .ok (.athrow, 1) := by decide +kernel
theorem dX6_wouldHold_66 : decode cX6_wouldHold 66 = .ok (.aload_n 0, 1) := by decide +kernel
theorem dX6_wouldHold_67 : decode cX6_wouldHold 67 = .ok (.getfield 12, 3) := by decide +kernel
theorem dX6_wouldHold_70 : decode cX6_wouldHold 70 = .ok (.iload_n 2, 1) := by decide +kernel
theorem dX6_wouldHold_71 : decode cX6_wouldHold 71 = .ok (.iload_n 3, 1) := by decide +kernel
theorem dX6_wouldHold_72 : decode cX6_wouldHold 72 = .ok (.invokestatic 141, 3) := by decide +kernel
theorem dX6_wouldHold_75 : decode cX6_wouldHold 75 = .ok (.iload_n 1, 1) := by decide +kernel
theorem dX6_wouldHold_76 : decode cX6_wouldHold 76 = .ok (.invokevirtual 178, 3) := by decide +kernel
theorem dX6_wouldHold_79 : decode cX6_wouldHold 79 = .ok (.ireturn, 1) := by decide +kernel
theorem dX6_stands_0 : decode cX6_stands 0 = .ok (.iload_n 1, 1) := by decide +kernel
theorem dX6_stands_1 : decode cX6_stands 1 = .ok (.invokestatic 154, 3) := by decide +kernel
theorem dX6_stands_4 : decode cX6_stands 4 = .ok (.ifCond .ne 13, 3) := by decide +kernel
theorem dX6_stands_7 : decode cX6_stands 7 = .ok (.new 128, 3) := by decide +kernel
theorem dX6_stands_10 : decode cX6_stands 10 = .ok (.dup, 1) := by decide +kernel
theorem dX6_stands_11 : decode cX6_stands 11 = .ok (.ldc 157, 2) := by decide +kernel
theorem dX6_stands_13 : decode cX6_stands 13 = .ok (.invokespecial 132, 3) := by decide +kernel
theorem dX6_stands_16 : decode cX6_stands 16 = .ok (.athrow, 1) := by decide +kernel
theorem dX6_stands_17 : decode cX6_stands 17 = .ok (.aload_n 0, 1) := by decide +kernel
theorem dX6_stands_18 : decode cX6_stands 18 = .ok (.getfield 12, 3) := by decide +kernel
theorem dX6_stands_21 : decode cX6_stands 21 = .ok (.iload_n 1, 1) := by decide +kernel
theorem dX6_stands_22 : decode cX6_stands 22 = .ok (.invokevirtual 181, 3) := by decide +kernel
theorem dX6_stands_25 : decode cX6_stands 25 = .ok (.ifCond .eq 13, 3) := by decide +kernel
theorem dX6_stands_28 : decode cX6_stands 28 = .ok (.new 162, 3) := by decide +kernel
theorem dX6_stands_31 : decode cX6_stands 31 = .ok (.dup, 1) := by decide +kernel
theorem dX6_stands_32 : decode cX6_stands 32 = .ok (.ldc 164, 2) := by decide +kernel
theorem dX6_stands_34 : decode cX6_stands 34 = .ok (.invokespecial 166, 3) := by decide +kernel
theorem dX6_stands_37 : decode cX6_stands 37 = .ok (.athrow, 1) := by decide +kernel
theorem dX6_stands_38 : decode cX6_stands 38 = .ok (.aload_n 0, 1) := by decide +kernel
theorem dX6_stands_39 : decode cX6_stands 39 = .ok (.getfield 36, 3) := by decide +kernel
theorem dX6_stands_42 : decode cX6_stands 42 = .ok (.aload_n 0, 1) := by decide +kernel
theorem dX6_stands_43 : decode cX6_stands 43 = .ok (.getfield 12, 3) := by decide +kernel
theorem dX6_stands_46 : decode cX6_stands 46 = .ok (.iconst (-1), 1) := by decide +kernel
theorem dX6_stands_47 : decode cX6_stands 47 = .ok (.invokevirtual 193, 3) := by decide +kernel
theorem dX6_stands_50 : decode cX6_stands 50 = .ok (.pop, 1) := by decide +kernel
theorem dX6_stands_51 : decode cX6_stands 51 = .ok (.aload_n 0, 1) := by decide +kernel
theorem dX6_stands_52 : decode cX6_stands 52 = .ok (.getfield 36, 3) := by decide +kernel
theorem dX6_stands_55 : decode cX6_stands 55 = .ok (.iload_n 1, 1) := by decide +kernel
theorem dX6_stands_56 : decode cX6_stands 56 = .ok (.invokevirtual 196, 3) := by decide +kernel
theorem dX6_stands_59 : decode cX6_stands 59 = .ok (.ireturn, 1) := by decide +kernel
theorem dX6_fallen_0 : decode cX6_fallen 0 = .ok (.aload_n 0, 1) := by decide +kernel
theorem dX6_fallen_1 : decode cX6_fallen 1 = .ok (.getfield 12, 3) := by decide +kernel
theorem dX6_fallen_4 : decode cX6_fallen 4 = .ok (.invokevirtual 199, 3) := by decide +kernel
theorem dX6_fallen_7 : decode cX6_fallen 7 = .ok (.aload_n 0, 1) := by decide +kernel
theorem dX6_fallen_8 : decode cX6_fallen 8 = .ok (.getfield 36, 3) := by decide +kernel
theorem dX6_fallen_11 : decode cX6_fallen 11 = .ok (.aload_n 0, 1) := by decide +kernel
theorem dX6_fallen_12 : decode cX6_fallen 12 = .ok (.getfield 12, 3) := by decide +kernel
theorem dX6_fallen_15 : decode cX6_fallen 15 = .ok (.iconst (-1), 1) := by decide +kernel
theorem dX6_fallen_16 : decode cX6_fallen 16 = .ok (.invokevirtual 193, 3) := by decide +kernel
theorem dX6_fallen_19 : decode cX6_fallen 19 = .ok (.isub, 1) := by decide +kernel
theorem dX6_fallen_20 : decode cX6_fallen 20 = .ok (.ireturn, 1) := by decide +kernel
theorem dX6_falls_0 : decode cX6_falls 0 = .ok (.iload_n 1, 1) := by decide +kernel
theorem dX6_falls_1 : decode cX6_falls 1 = .ok (.invokestatic 154, 3) := by decide +kernel
theorem dX6_falls_4 : decode cX6_falls 4 = .ok (.ifCond .ne 13, 3) := by decide +kernel
theorem dX6_falls_7 : decode cX6_falls 7 = .ok (.new 128, 3) := by decide +kernel
theorem dX6_falls_10 : decode cX6_falls 10 = .ok (.dup, 1) := by decide +kernel
theorem dX6_falls_11 : decode cX6_falls 11 = .ok (.ldc 157, 2) := by decide +kernel
theorem dX6_falls_13 : decode cX6_falls 13 = .ok (.invokespecial 132, 3) := by decide +kernel
theorem dX6_falls_16 : decode cX6_falls 16 = .ok (.athrow, 1) := by decide +kernel
theorem dX6_falls_17 : decode cX6_falls 17 = .ok (.aload_n 0, 1) := by decide +kernel
theorem dX6_falls_18 : decode cX6_falls 18 = .ok (.getfield 12, 3) := by decide +kernel
theorem dX6_falls_21 : decode cX6_falls 21 = .ok (.iload_n 1, 1) := by decide +kernel
theorem dX6_falls_22 : decode cX6_falls 22 = .ok (.invokevirtual 181, 3) := by decide +kernel
theorem dX6_falls_25 : decode cX6_falls 25 = .ok (.ifCond .eq 13, 3) := by decide +kernel
theorem dX6_falls_28 : decode cX6_falls 28 = .ok (.new 162, 3) := by decide +kernel
theorem dX6_falls_31 : decode cX6_falls 31 = .ok (.dup, 1) := by decide +kernel
theorem dX6_falls_32 : decode cX6_falls 32 = .ok (.ldc 164, 2) := by decide +kernel
theorem dX6_falls_34 : decode cX6_falls 34 = .ok (.invokespecial 166, 3) := by decide +kernel
theorem dX6_falls_37 : decode cX6_falls 37 = .ok (.athrow, 1) := by decide +kernel
theorem dX6_falls_38 : decode cX6_falls 38 = .ok (.aload_n 0, 1) := by decide +kernel
theorem dX6_falls_39 : decode cX6_falls 39 = .ok (.getfield 36, 3) := by decide +kernel
theorem dX6_falls_42 : decode cX6_falls 42 = .ok (.aload_n 0, 1) := by decide +kernel
theorem dX6_falls_43 : decode cX6_falls 43 = .ok (.getfield 12, 3) := by decide +kernel
theorem dX6_falls_46 : decode cX6_falls 46 = .ok (.iload_n 1, 1) := by decide +kernel
theorem dX6_falls_47 : decode cX6_falls 47 = .ok (.invokevirtual 203, 3) := by decide +kernel
theorem dX6_falls_50 : decode cX6_falls 50 = .ok (.ireturn, 1) := by decide +kernel
theorem dX6_errors_0 : decode cX6_errors 0 = .ok (.aload_n 0, 1) := by decide +kernel
theorem dX6_errors_1 : decode cX6_errors 1 = .ok (.getfield 12, 3) := by decide +kernel
theorem dX6_errors_4 : decode cX6_errors 4 = .ok (.invokevirtual 206, 3) := by decide +kernel
theorem dX6_errors_7 : decode cX6_errors 7 = .ok (.ireturn, 1) := by decide +kernel
theorem dX6_errorsAt_0 : decode cX6_errorsAt 0 = .ok (.iload_n 1, 1) := by decide +kernel
theorem dX6_errorsAt_1 : decode cX6_errorsAt 1 = .ok (.invokestatic 154, 3) := by decide +kernel
theorem dX6_errorsAt_4 : decode cX6_errorsAt 4 = .ok (.ifCond .ne 13, 3) := by decide +kernel
theorem dX6_errorsAt_7 : decode cX6_errorsAt 7 = .ok (.new 128, 3) := by decide +kernel
theorem dX6_errorsAt_10 : decode cX6_errorsAt 10 = .ok (.dup, 1) := by decide +kernel
theorem dX6_errorsAt_11 : decode cX6_errorsAt 11 = .ok (.ldc 157, 2) := by decide +kernel
theorem dX6_errorsAt_13 : decode cX6_errorsAt 13 = .ok (.invokespecial 132, 3) := by decide +kernel
theorem dX6_errorsAt_16 : decode cX6_errorsAt 16 = .ok (.athrow, 1) := by decide +kernel
theorem dX6_errorsAt_17 : decode cX6_errorsAt 17 = .ok (.aload_n 0, 1) := by decide +kernel
theorem dX6_errorsAt_18 : decode cX6_errorsAt 18 = .ok (.getfield 12, 3) := by decide +kernel
theorem dX6_errorsAt_21 : decode cX6_errorsAt 21 = .ok (.iload_n 1, 1) := by decide +kernel
theorem dX6_errorsAt_22 : decode cX6_errorsAt 22 = .ok (.invokevirtual 181, 3) := by decide +kernel
theorem dX6_errorsAt_25 : decode cX6_errorsAt 25 = .ok (.ifCond .eq 13, 3) := by decide +kernel
theorem dX6_errorsAt_28 : decode cX6_errorsAt 28 = .ok (.new 162, 3) := by decide +kernel
theorem dX6_errorsAt_31 : decode cX6_errorsAt 31 = .ok (.dup, 1) := by decide +kernel
theorem dX6_errorsAt_32 : decode cX6_errorsAt 32 = .ok (.ldc 164, 2) := by decide +kernel
theorem dX6_errorsAt_34 : decode cX6_errorsAt 34 = .ok (.invokespecial 166, 3) := by decide +kernel
theorem dX6_errorsAt_37 : decode cX6_errorsAt 37 = .ok (.athrow, 1) := by decide +kernel
theorem dX6_errorsAt_38 : decode cX6_errorsAt 38 = .ok (.aload_n 0, 1) := by decide +kernel
theorem dX6_errorsAt_39 : decode cX6_errorsAt 39 = .ok (.getfield 12, 3) := by decide +kernel
theorem dX6_errorsAt_42 : decode cX6_errorsAt 42 = .ok (.iload_n 1, 1) := by decide +kernel
theorem dX6_errorsAt_43 : decode cX6_errorsAt 43 = .ok (.invokevirtual 209, 3) := by decide +kernel
theorem dX6_errorsAt_46 : decode cX6_errorsAt 46 = .ok (.ireturn, 1) := by decide +kernel
theorem dX6_nextPlace_0 : decode cX6_nextPlace 0 = .ok (.aload_n 0, 1) := by decide +kernel
theorem dX6_nextPlace_1 : decode cX6_nextPlace 1 = .ok (.getfield 43, 3) := by decide +kernel
theorem dX6_nextPlace_4 : decode cX6_nextPlace 4 = .ok (.aload_n 0, 1) := by decide +kernel
theorem dX6_nextPlace_5 : decode cX6_nextPlace 5 = .ok (.getfield 12, 3) := by decide +kernel
theorem dX6_nextPlace_8 : decode cX6_nextPlace 8 = .ok (.iconst 0, 1) := by decide +kernel
theorem dX6_nextPlace_9 : decode cX6_nextPlace 9 = .ok (.invokevirtual 212, 3) := by decide +kernel
theorem dX6_nextPlace_12 : decode cX6_nextPlace 12 = .ok (.ifCond .ne 13, 3) := by decide +kernel
theorem dX6_nextPlace_15 : decode cX6_nextPlace 15 = .ok (.new 162, 3) := by decide +kernel
theorem dX6_nextPlace_18 : decode cX6_nextPlace 18 = .ok (.dup, 1) := by decide +kernel
theorem dX6_nextPlace_19 : decode cX6_nextPlace 19 = .ok (.ldc 216, 2) := by decide +kernel
theorem dX6_nextPlace_21 : decode cX6_nextPlace 21 = .ok (.invokespecial 166, 3) := by decide +kernel
theorem dX6_nextPlace_24 : decode cX6_nextPlace 24 = .ok (.athrow, 1) := by decide +kernel
theorem dX6_nextPlace_25 : decode cX6_nextPlace 25 = .ok (.aload_n 0, 1) := by decide +kernel
theorem dX6_nextPlace_26 : decode cX6_nextPlace 26 = .ok (.getfield 43, 3) := by decide +kernel
theorem dX6_nextPlace_29 : decode cX6_nextPlace 29 = .ok (.getfield 218, 3) := by decide +kernel
theorem dX6_nextPlace_32 : decode cX6_nextPlace 32 = .ok (.ireturn, 1) := by decide +kernel
theorem dX6_nextBrick_0 : decode cX6_nextBrick 0 = .ok (.aload_n 0, 1) := by decide +kernel
theorem dX6_nextBrick_1 : decode cX6_nextBrick 1 = .ok (.getfield 43, 3) := by decide +kernel
theorem dX6_nextBrick_4 : decode cX6_nextBrick 4 = .ok (.aload_n 0, 1) := by decide +kernel
theorem dX6_nextBrick_5 : decode cX6_nextBrick 5 = .ok (.getfield 12, 3) := by decide +kernel
theorem dX6_nextBrick_8 : decode cX6_nextBrick 8 = .ok (.iconst 0, 1) := by decide +kernel
theorem dX6_nextBrick_9 : decode cX6_nextBrick 9 = .ok (.invokevirtual 212, 3) := by decide +kernel
theorem dX6_nextBrick_12 : decode cX6_nextBrick 12 = .ok (.ifCond .ne 13, 3) := by decide +kernel
theorem dX6_nextBrick_15 : decode cX6_nextBrick 15 = .ok (.new 162, 3) := by decide +kernel
theorem dX6_nextBrick_18 : decode cX6_nextBrick 18 = .ok (.dup, 1) := by decide +kernel
theorem dX6_nextBrick_19 : decode cX6_nextBrick 19 = .ok (.ldc 216, 2) := by decide +kernel
theorem dX6_nextBrick_21 : decode cX6_nextBrick 21 = .ok (.invokespecial 166, 3) := by decide +kernel
theorem dX6_nextBrick_24 : decode cX6_nextBrick 24 = .ok (.athrow, 1) := by decide +kernel
theorem dX6_nextBrick_25 : decode cX6_nextBrick 25 = .ok (.aload_n 0, 1) := by decide +kernel
theorem dX6_nextBrick_26 : decode cX6_nextBrick 26 = .ok (.getfield 43, 3) := by decide +kernel
theorem dX6_nextBrick_29 : decode cX6_nextBrick 29 = .ok (.getfield 221, 3) := by decide +kernel
theorem dX6_nextBrick_32 : decode cX6_nextBrick 32 = .ok (.ireturn, 1) := by decide +kernel
theorem dX6_choices_0 : decode cX6_choices 0 = .ok (.iload_n 1, 1) := by decide +kernel
theorem dX6_choices_1 : decode cX6_choices 1 = .ok (.invokestatic 154, 3) := by decide +kernel
theorem dX6_choices_4 : decode cX6_choices 4 = .ok (.ifCond .ne 13, 3) := by decide +kernel
theorem dX6_choices_7 : decode cX6_choices 7 = .ok (.new 128, 3) := by decide +kernel
theorem dX6_choices_10 : decode cX6_choices 10 = .ok (.dup, 1) := by decide +kernel
theorem dX6_choices_11 : decode cX6_choices 11 = .ok (.ldc 157, 2) := by decide +kernel
theorem dX6_choices_13 : decode cX6_choices 13 = .ok (.invokespecial 132, 3) := by decide +kernel
theorem dX6_choices_16 : decode cX6_choices 16 = .ok (.athrow, 1) := by decide +kernel
theorem dX6_choices_17 : decode cX6_choices 17 = .ok (.aload_n 0, 1) := by decide +kernel
theorem dX6_choices_18 : decode cX6_choices 18 = .ok (.getfield 12, 3) := by decide +kernel
theorem dX6_choices_21 : decode cX6_choices 21 = .ok (.iload_n 1, 1) := by decide +kernel
theorem dX6_choices_22 : decode cX6_choices 22 = .ok (.invokevirtual 181, 3) := by decide +kernel
theorem dX6_choices_25 : decode cX6_choices 25 = .ok (.ifCond .ne 13, 3) := by decide +kernel
theorem dX6_choices_28 : decode cX6_choices 28 = .ok (.new 162, 3) := by decide +kernel
theorem dX6_choices_31 : decode cX6_choices 31 = .ok (.dup, 1) := by decide +kernel
theorem dX6_choices_32 : decode cX6_choices 32 = .ok (.ldc 191, 2) := by decide +kernel
theorem dX6_choices_34 : decode cX6_choices 34 = .ok (.invokespecial 166, 3) := by decide +kernel
theorem dX6_choices_37 : decode cX6_choices 37 = .ok (.athrow, 1) := by decide +kernel
theorem dX6_choices_38 : decode cX6_choices 38 = .ok (.aload_n 0, 1) := by decide +kernel
theorem dX6_choices_39 : decode cX6_choices 39 = .ok (.getfield 43, 3) := by decide +kernel
theorem dX6_choices_42 : decode cX6_choices 42 = .ok (.aload_n 0, 1) := by decide +kernel
theorem dX6_choices_43 : decode cX6_choices 43 = .ok (.getfield 12, 3) := by decide +kernel
theorem dX6_choices_46 : decode cX6_choices 46 = .ok (.iload_n 1, 1) := by decide +kernel
theorem dX6_choices_47 : decode cX6_choices 47 = .ok (.invokevirtual 224, 3) := by decide +kernel
theorem dX6_choices_50 : decode cX6_choices 50 = .ok (.ireturn, 1) := by decide +kernel
theorem dX6_stuck_0 : decode cX6_stuck 0 = .ok (.aload_n 0, 1) := by decide +kernel
theorem dX6_stuck_1 : decode cX6_stuck 1 = .ok (.getfield 43, 3) := by decide +kernel
theorem dX6_stuck_4 : decode cX6_stuck 4 = .ok (.aload_n 0, 1) := by decide +kernel
theorem dX6_stuck_5 : decode cX6_stuck 5 = .ok (.getfield 12, 3) := by decide +kernel
theorem dX6_stuck_8 : decode cX6_stuck 8 = .ok (.invokevirtual 227, 3) := by decide +kernel
theorem dX6_stuck_11 : decode cX6_stuck 11 = .ok (.ireturn, 1) := by decide +kernel
theorem dX6_growsTo_0 : decode cX6_growsTo 0 = .ok (.aload_n 0, 1) := by decide +kernel
theorem dX6_growsTo_1 : decode cX6_growsTo 1 = .ok (.getfield 16, 3) := by decide +kernel
theorem dX6_growsTo_4 : decode cX6_growsTo 4 = .ok (.aload_n 0, 1) := by decide +kernel
theorem dX6_growsTo_5 : decode cX6_growsTo 5 = .ok (.getfield 12, 3) := by decide +kernel
theorem dX6_growsTo_8 : decode cX6_growsTo 8 = .ok (.invokevirtual 77, 3) := by decide +kernel
theorem dX6_growsTo_11 : decode cX6_growsTo 11 = .ok (.aload_n 0, 1) := by decide +kernel
theorem dX6_growsTo_12 : decode cX6_growsTo 12 = .ok (.getfield 43, 3) := by decide +kernel
theorem dX6_growsTo_15 : decode cX6_growsTo 15 = .ok (.aload_n 0, 1) := by decide +kernel
theorem dX6_growsTo_16 : decode cX6_growsTo 16 = .ok (.getfield 16, 3) := by decide +kernel
theorem dX6_growsTo_19 : decode cX6_growsTo 19 = .ok (.bipush 42, 2) := by decide +kernel
theorem dX6_growsTo_21 : decode cX6_growsTo 21 = .ok (.invokevirtual 231, 3) := by decide +kernel
theorem dX6_growsTo_24 : decode cX6_growsTo 24 = .ok (.pop, 1) := by decide +kernel
theorem dX6_growsTo_25 : decode cX6_growsTo 25 = .ok (.aload_n 0, 1) := by decide +kernel
theorem dX6_growsTo_26 : decode cX6_growsTo 26 = .ok (.getfield 16, 3) := by decide +kernel
theorem dX6_growsTo_29 : decode cX6_growsTo 29 = .ok (.invokevirtual 199, 3) := by decide +kernel
theorem dX6_growsTo_32 : decode cX6_growsTo 32 = .ok (.ireturn, 1) := by decide +kernel
theorem dX6_inRow_0 : decode cX6_inRow 0 = .ok (.iload_n 1, 1) := by decide +kernel
theorem dX6_inRow_1 : decode cX6_inRow 1 = .ok (.ifCond .lt 18, 3) := by decide +kernel
theorem dX6_inRow_4 : decode cX6_inRow 4 = .ok (.iload_n 1, 1) := by decide +kernel
theorem dX6_inRow_5 : decode cX6_inRow 5 = .ok (.iload_n 2, 1) := by decide +kernel
theorem dX6_inRow_6 : decode cX6_inRow 6 = .ok (.ifCond .eq 8, 3) := by decide +kernel
theorem dX6_inRow_9 : decode cX6_inRow 9 = .ok (.bipush 7, 2) := by decide +kernel
theorem dX6_inRow_11 : decode cX6_inRow 11 = .ok (.goto 5, 3) := by decide +kernel
theorem dX6_inRow_14 : decode cX6_inRow 14 = .ok (.bipush 6, 2) := by decide +kernel
theorem dX6_inRow_16 : decode cX6_inRow 16 = .ok (.if_icmp .lt 13, 3) := by decide +kernel
theorem dX6_inRow_19 : decode cX6_inRow 19 = .ok (.new 128, 3) := by decide +kernel
theorem dX6_inRow_22 : decode cX6_inRow 22 = .ok (.dup, 1) := by decide +kernel
theorem dX6_inRow_23 : decode cX6_inRow 23 = .ok (.ldc 234, 2) := by decide +kernel
theorem dX6_inRow_25 : decode cX6_inRow 25 = .ok (.invokespecial 132, 3) := by decide +kernel
theorem dX6_inRow_28 : decode cX6_inRow 28 = .ok (.athrow, 1) := by decide +kernel
theorem dX6_inRow_29 : decode cX6_inRow 29 = .ok (.iconst 0, 1) := by decide +kernel
theorem dX6_inRow_30 : decode cX6_inRow 30 = .ok (.istore_n 3, 1) := by decide +kernel
theorem dX6_inRow_31 : decode cX6_inRow 31 = .ok (.iconst 0, 1) := by decide +kernel
theorem dX6_inRow_32 : decode cX6_inRow 32 = .ok (.istore 4, 2) := by decide +kernel
theorem dX6_inRow_34 : decode cX6_inRow 34 = .ok (.iload 4, 2) := by decide +kernel
theorem dX6_inRow_36 : decode cX6_inRow 36 = .ok (.bipush 42, 2) := by decide +kernel
theorem dX6_inRow_38 : decode cX6_inRow 38 = .ok (.if_icmp .ge 49, 3) := by decide +kernel
theorem dX6_inRow_41 : decode cX6_inRow 41 = .ok (.iload_n 2, 1) := by decide +kernel
theorem dX6_inRow_42 : decode cX6_inRow 42 = .ok (.ifCond .eq 11, 3) := by decide +kernel
theorem dX6_inRow_45 : decode cX6_inRow 45 = .ok (.iload 4, 2) := by decide +kernel
theorem dX6_inRow_47 : decode cX6_inRow 47 = .ok (.bipush 7, 2) := by decide +kernel
theorem dX6_inRow_49 : decode cX6_inRow 49 = .ok (.irem, 1) := by decide +kernel
theorem dX6_inRow_50 : decode cX6_inRow 50 = .ok (.goto 8, 3) := by decide +kernel
theorem dX6_inRow_53 : decode cX6_inRow 53 = .ok (.iload 4, 2) := by decide +kernel
theorem dX6_inRow_55 : decode cX6_inRow 55 = .ok (.bipush 7, 2) := by decide +kernel
theorem dX6_inRow_57 : decode cX6_inRow 57 = .ok (.idiv, 1) := by decide +kernel
theorem dX6_inRow_58 : decode cX6_inRow 58 = .ok (.istore 5, 2) := by decide +kernel
theorem dX6_inRow_60 : decode cX6_inRow 60 = .ok (.iload 5, 2) := by decide +kernel
theorem dX6_inRow_62 : decode cX6_inRow 62 = .ok (.iload_n 1, 1) := by decide +kernel
theorem dX6_inRow_63 : decode cX6_inRow 63 = .ok (.if_icmp .ne 18, 3) := by decide +kernel
theorem dX6_inRow_66 : decode cX6_inRow 66 = .ok (.aload_n 0, 1) := by decide +kernel
theorem dX6_inRow_67 : decode cX6_inRow 67 = .ok (.getfield 12, 3) := by decide +kernel
theorem dX6_inRow_70 : decode cX6_inRow 70 = .ok (.iload 4, 2) := by decide +kernel
theorem dX6_inRow_72 : decode cX6_inRow 72 = .ok (.invokevirtual 181, 3) := by decide +kernel
theorem dX6_inRow_75 : decode cX6_inRow 75 = .ok (.ifCond .ne 6, 3) := by decide +kernel
theorem dX6_inRow_78 : decode cX6_inRow 78 = .ok (.iinc 3 1, 3) := by decide +kernel
theorem dX6_inRow_81 : decode cX6_inRow 81 = .ok (.iinc 4 1, 3) := by decide +kernel
theorem dX6_inRow_84 : decode cX6_inRow 84 = .ok (.goto (-50), 3) := by decide +kernel
theorem dX6_inRow_87 : decode cX6_inRow 87 = .ok (.iload_n 3, 1) := by decide +kernel
theorem dX6_inRow_88 : decode cX6_inRow 88 = .ok (.ireturn, 1) := by decide +kernel
theorem dX6_weakest_0 : decode cX6_weakest 0 = .ok (.aload_n 0, 1) := by decide +kernel
theorem dX6_weakest_1 : decode cX6_weakest 1 = .ok (.iload_n 1, 1) := by decide +kernel
theorem dX6_weakest_2 : decode cX6_weakest 2 = .ok (.invokevirtual 236, 3) := by decide +kernel
theorem dX6_weakest_5 : decode cX6_weakest 5 = .ok (.istore_n 2, 1) := by decide +kernel
theorem dX6_weakest_6 : decode cX6_weakest 6 = .ok (.iload_n 2, 1) := by decide +kernel
theorem dX6_weakest_7 : decode cX6_weakest 7 = .ok (.iconst (-1), 1) := by decide +kernel
theorem dX6_weakest_8 : decode cX6_weakest 8 = .ok (.if_icmp .ne 13, 3) := by decide +kernel
theorem dX6_weakest_11 : decode cX6_weakest 11 = .ok (.new 162, 3) := by decide +kernel
theorem dX6_weakest_14 : decode cX6_weakest 14 = .ok (.dup, 1) := by decide +kernel
theorem dX6_weakest_15 : decode cX6_weakest 15 = .ok (.ldc 239, 2) := by decide +kernel
theorem dX6_weakest_17 : decode cX6_weakest 17 = .ok (.invokespecial 166, 3) := by decide +kernel
theorem dX6_weakest_20 : decode cX6_weakest 20 = .ok (.athrow, 1) := by decide +kernel
theorem dX6_weakest_21 : decode cX6_weakest 21 = .ok (.iload_n 2, 1) := by decide +kernel
theorem dX6_weakest_22 : decode cX6_weakest 22 = .ok (.ireturn, 1) := by decide +kernel
theorem dX6_append_0 : decode cX6_append 0 = .ok (.aload_n 0, 1) := by decide +kernel
theorem dX6_append_1 : decode cX6_append 1 = .ok (.getfield 63, 3) := by decide +kernel
theorem dX6_append_4 : decode cX6_append 4 = .ok (.invokevirtual 241, 3) := by decide +kernel
theorem dX6_append_7 : decode cX6_append 7 = .ok (.ifCond .eq 13, 3) := by decide +kernel
theorem dX6_append_10 : decode cX6_append 10 = .ok (.new 245, 3) := by decide +kernel
theorem dX6_append_13 : decode cX6_append 13 = .ok (.dup, 1) := by decide +kernel
theorem dX6_append_14 : decode cX6_append 14 = .ok (.ldc 247, 2) := by decide +kernel
theorem dX6_append_16 : decode cX6_append 16 = .ok (.invokespecial 249, 3) := by decide +kernel
theorem dX6_append_19 : decode cX6_append 19 = .ok (.athrow, 1) := by decide +kernel
theorem dX6_append_20 : decode cX6_append 20 = .ok (.aload_n 0, 1) := by decide +kernel
theorem dX6_append_21 : decode cX6_append 21 = .ok (.getfield 63, 3) := by decide +kernel
theorem dX6_append_24 : decode cX6_append 24 = .ok (.iload_n 1, 1) := by decide +kernel
theorem dX6_append_25 : decode cX6_append 25 = .ok (.invokevirtual 250, 3) := by decide +kernel
theorem dX6_append_28 : decode cX6_append 28 = .ok (.ireturn, 1) := by decide +kernel
theorem dX6_commands_0 : decode cX6_commands 0 = .ok (.aload_n 0, 1) := by decide +kernel
theorem dX6_commands_1 : decode cX6_commands 1 = .ok (.aload_n 0, 1) := by decide +kernel
theorem dX6_commands_2 : decode cX6_commands 2 = .ok (.getfield 63, 3) := by decide +kernel
theorem dX6_commands_5 : decode cX6_commands 5 = .ok (.invokevirtual 254, 3) := by decide +kernel
theorem dX6_commands_8 : decode cX6_commands 8 = .ok (.putfield 67, 3) := by decide +kernel
theorem dX6_commands_11 : decode cX6_commands 11 = .ok (.aload_n 0, 1) := by decide +kernel
theorem dX6_commands_12 : decode cX6_commands 12 = .ok (.getfield 63, 3) := by decide +kernel
theorem dX6_commands_15 : decode cX6_commands 15 = .ok (.invokevirtual 257, 3) := by decide +kernel
theorem dX6_commands_18 : decode cX6_commands 18 = .ok (.aload_n 0, 1) := by decide +kernel
theorem dX6_commands_19 : decode cX6_commands 19 = .ok (.getfield 67, 3) := by decide +kernel
theorem dX6_commands_22 : decode cX6_commands 22 = .ok (.iconst (-1), 1) := by decide +kernel
theorem dX6_commands_23 : decode cX6_commands 23 = .ok (.if_icmp .eq 14, 3) := by decide +kernel
theorem dX6_commands_26 : decode cX6_commands 26 = .ok (.new 136, 3) := by decide +kernel
theorem dX6_commands_29 : decode cX6_commands 29 = .ok (.dup, 1) := by decide +kernel
theorem dX6_commands_30 : decode cX6_commands 30 = .ok (.ldc_w 260, 3) := by decide +kernel
theorem dX6_commands_33 : decode cX6_commands 33 = .ok (.invokespecial 140, 3) := by decide +kernel
theorem dX6_commands_36 : decode cX6_commands 36 = .ok (.athrow, 1) := by decide +kernel
theorem dX6_commands_37 : decode cX6_commands 37 = .ok (.aload_n 0, 1) := by decide +kernel
