theorem dX7_append_15 : decode cX7_append 15 = .ok (.invokevirtual 134, 3) := by decide +kernel
theorem dX7_append_18 : decode cX7_append 18 = .ok (.ifCond .eq 5, 3) := by decide +kernel
theorem dX7_append_21 : decode cX7_append 21 = .ok (.iconst 0, 1) := by decide +kernel
theorem dX7_append_22 : decode cX7_append 22 = .ok (.ireturn, 1) := by decide +kernel
theorem dX7_append_23 : decode cX7_append 23 = .ok (.aload_n 0, 1) := by decide +kernel
theorem dX7_append_24 : decode cX7_append 24 = .ok (.getfield 25, 3) := by decide +kernel
theorem dX7_append_27 : decode cX7_append 27 = .ok (.aload_n 0, 1) := by decide +kernel
theorem dX7_append_28 : decode cX7_append 28 = .ok (.getfield 146, 3) := by decide +kernel
theorem dX7_append_31 : decode cX7_append 31 = .ok (.iload_n 1, 1) := by decide +kernel
theorem dX7_append_32 : decode cX7_append 32 = .ok (.iastore, 1) := by decide +kernel
theorem dX7_append_33 : decode cX7_append 33 = .ok (.aload_n 0, 1) := by decide +kernel
theorem dX7_append_34 : decode cX7_append 34 = .ok (.dup, 1) := by decide +kernel
theorem dX7_append_35 : decode cX7_append 35 = .ok (.getfield 146, 3) := by decide +kernel
theorem dX7_append_38 : decode cX7_append 38 = .ok (.iconst 1, 1) := by decide +kernel
theorem dX7_append_39 : decode cX7_append 39 = .ok (.iadd, 1) := by decide +kernel
theorem dX7_append_40 : decode cX7_append 40 = .ok (.putfield 146, 3) := by decide +kernel
theorem dX7_append_43 : decode cX7_append 43 = .ok (.aload_n 0, 1) := by decide +kernel
theorem dX7_append_44 : decode cX7_append 44 = .ok (.getfield 146, 3) := by decide +kernel
theorem dX7_append_47 : decode cX7_append 47 = .ok (.ireturn, 1) := by decide +kernel
theorem dX7_here_0 : decode cX7_here 0 = .ok (.aload_n 0, 1) := by decide +kernel
theorem dX7_here_1 : decode cX7_here 1 = .ok (.getfield 149, 3) := by decide +kernel
theorem dX7_here_4 : decode cX7_here 4 = .ok (.aload_n 0, 1) := by decide +kernel
theorem dX7_here_5 : decode cX7_here 5 = .ok (.getfield 146, 3) := by decide +kernel
theorem dX7_here_8 : decode cX7_here 8 = .ok (.if_icmp .ge 15, 3) := by decide +kernel
theorem dX7_here_11 : decode cX7_here 11 = .ok (.aload_n 0, 1) := by decide +kernel
theorem dX7_here_12 : decode cX7_here 12 = .ok (.getfield 25, 3) := by decide +kernel
theorem dX7_here_15 : decode cX7_here 15 = .ok (.aload_n 0, 1) := by decide +kernel
theorem dX7_here_16 : decode cX7_here 16 = .ok (.getfield 149, 3) := by decide +kernel
theorem dX7_here_19 : decode cX7_here 19 = .ok (.iaload, 1) := by decide +kernel
theorem dX7_here_20 : decode cX7_here 20 = .ok (.goto 4, 3) := by decide +kernel
theorem dX7_here_23 : decode cX7_here 23 = .ok (.iconst (-1), 1) := by decide +kernel
theorem dX7_here_24 : decode cX7_here 24 = .ok (.ireturn, 1) := by decide +kernel
theorem dX7_skips_0 : decode cX7_skips 0 = .ok (.aload_n 0, 1) := by decide +kernel
theorem dX7_skips_1 : decode cX7_skips 1 = .ok (.invokevirtual 152, 3) := by decide +kernel
theorem dX7_skips_4 : decode cX7_skips 4 = .ok (.iload_n 1, 1) := by decide +kernel
theorem dX7_skips_5 : decode cX7_skips 5 = .ok (.if_icmp .eq 5, 3) := by decide +kernel
theorem dX7_skips_8 : decode cX7_skips 8 = .ok (.iconst 0, 1) := by decide +kernel
theorem dX7_skips_9 : decode cX7_skips 9 = .ok (.ireturn, 1) := by decide +kernel
theorem dX7_skips_10 : decode cX7_skips 10 = .ok (.aload_n 0, 1) := by decide +kernel
theorem dX7_skips_11 : decode cX7_skips 11 = .ok (.dup, 1) := by decide +kernel
theorem dX7_skips_12 : decode cX7_skips 12 = .ok (.getfield 149, 3) := by decide +kernel
theorem dX7_skips_15 : decode cX7_skips 15 = .ok (.iconst 1, 1) := by decide +kernel
theorem dX7_skips_16 : decode cX7_skips 16 = .ok (.iadd, 1) := by decide +kernel
theorem dX7_skips_17 : decode cX7_skips 17 = .ok (.putfield 149, 3) := by decide +kernel
theorem dX7_skips_20 : decode cX7_skips 20 = .ok (.iconst 1, 1) := by decide +kernel
theorem dX7_skips_21 : decode cX7_skips 21 = .ok (.ireturn, 1) := by decide +kernel
theorem dX7_figures_0 : decode cX7_figures 0 = .ok (.aload_n 0, 1) := by decide +kernel
theorem dX7_figures_1 : decode cX7_figures 1 = .ok (.invokevirtual 152, 3) := by decide +kernel
theorem dX7_figures_4 : decode cX7_figures 4 = .ok (.bipush 48, 2) := by decide +kernel
theorem dX7_figures_6 : decode cX7_figures 6 = .ok (.bipush 57, 2) := by decide +kernel
theorem dX7_figures_8 : decode cX7_figures 8 = .ok (.invokestatic 69, 3) := by decide +kernel
theorem dX7_figures_11 : decode cX7_figures 11 = .ok (.ifCond .ne 5, 3) := by decide +kernel
theorem dX7_figures_14 : decode cX7_figures 14 = .ok (.iconst 0, 1) := by decide +kernel
theorem dX7_figures_15 : decode cX7_figures 15 = .ok (.ireturn, 1) := by decide +kernel
theorem dX7_figures_16 : decode cX7_figures 16 = .ok (.aload_n 0, 1) := by decide +kernel
theorem dX7_figures_17 : decode cX7_figures 17 = .ok (.getfield 40, 3) := by decide +kernel
theorem dX7_figures_20 : decode cX7_figures 20 = .ok (.iload_n 1, 1) := by decide +kernel
theorem dX7_figures_21 : decode cX7_figures 21 = .ok (.iconst 0, 1) := by decide +kernel
theorem dX7_figures_22 : decode cX7_figures 22 = .ok (.iastore, 1) := by decide +kernel
theorem dX7_figures_23 : decode cX7_figures 23 = .ok (.iconst 0, 1) := by decide +kernel
theorem dX7_figures_24 : decode cX7_figures 24 = .ok (.istore_n 3, 1) := by decide +kernel
theorem dX7_figures_25 : decode cX7_figures 25 = .ok (.iload_n 3, 1) := by decide +kernel
theorem dX7_figures_26 : decode cX7_figures 26 = .ok (.iload_n 2, 1) := by decide +kernel
theorem dX7_figures_27 : decode cX7_figures 27 = .ok (.if_icmp .ge 56, 3) := by decide +kernel
theorem dX7_figures_30 : decode cX7_figures 30 = .ok (.aload_n 0, 1) := by decide +kernel
theorem dX7_figures_31 : decode cX7_figures 31 = .ok (.invokevirtual 152, 3) := by decide +kernel
theorem dX7_figures_34 : decode cX7_figures 34 = .ok (.bipush 48, 2) := by decide +kernel
theorem dX7_figures_36 : decode cX7_figures 36 = .ok (.bipush 57, 2) := by decide +kernel
theorem dX7_figures_38 : decode cX7_figures 38 = .ok (.invokestatic 69, 3) := by decide +kernel
theorem dX7_figures_41 : decode cX7_figures 41 = .ok (.ifCond .eq 42, 3) := by decide +kernel
theorem dX7_figures_44 : decode cX7_figures 44 = .ok (.aload_n 0, 1) := by decide +kernel
theorem dX7_figures_45 : decode cX7_figures 45 = .ok (.getfield 40, 3) := by decide +kernel
theorem dX7_figures_48 : decode cX7_figures 48 = .ok (.iload_n 1, 1) := by decide +kernel
theorem dX7_figures_49 : decode cX7_figures 49 = .ok (.bipush 10, 2) := by decide +kernel
theorem dX7_figures_51 : decode cX7_figures 51 = .ok (.aload_n 0, 1) := by decide +kernel
theorem dX7_figures_52 : decode cX7_figures 52 = .ok (.getfield 40, 3) := by decide +kernel
theorem dX7_figures_55 : decode cX7_figures 55 = .ok (.iload_n 1, 1) := by decide +kernel
theorem dX7_figures_56 : decode cX7_figures 56 = .ok (.iaload, 1) := by decide +kernel
theorem dX7_figures_57 : decode cX7_figures 57 = .ok (.imul, 1) := by decide +kernel
theorem dX7_figures_58 : decode cX7_figures 58 = .ok (.aload_n 0, 1) := by decide +kernel
theorem dX7_figures_59 : decode cX7_figures 59 = .ok (.invokevirtual 152, 3) := by decide +kernel
theorem dX7_figures_62 : decode cX7_figures 62 = .ok (.iadd, 1) := by decide +kernel
theorem dX7_figures_63 : decode cX7_figures 63 = .ok (.bipush 48, 2) := by decide +kernel
theorem dX7_figures_65 : decode cX7_figures 65 = .ok (.isub, 1) := by decide +kernel
theorem dX7_figures_66 : decode cX7_figures 66 = .ok (.iastore, 1) := by decide +kernel
theorem dX7_figures_67 : decode cX7_figures 67 = .ok (.aload_n 0, 1) := by decide +kernel
theorem dX7_figures_68 : decode cX7_figures 68 = .ok (.dup, 1) := by decide +kernel
theorem dX7_figures_69 : decode cX7_figures 69 = .ok (.getfield 149, 3) := by decide +kernel
theorem dX7_figures_72 : decode cX7_figures 72 = .ok (.iconst 1, 1) := by decide +kernel
theorem dX7_figures_73 : decode cX7_figures 73 = .ok (.iadd, 1) := by decide +kernel
theorem dX7_figures_74 : decode cX7_figures 74 = .ok (.putfield 149, 3) := by decide +kernel
theorem dX7_figures_77 : decode cX7_figures 77 = .ok (.iinc 3 1, 3) := by decide +kernel
theorem dX7_figures_80 : decode cX7_figures 80 = .ok (.goto (-55), 3) := by decide +kernel
theorem dX7_figures_83 : decode cX7_figures 83 = .ok (.iconst 1, 1) := by decide +kernel
theorem dX7_figures_84 : decode cX7_figures 84 = .ok (.ireturn, 1) := by decide +kernel
theorem dX7_layHere_0 : decode cX7_layHere 0 = .ok (.aload_n 0, 1) := by decide +kernel
theorem dX7_layHere_1 : decode cX7_layHere 1 = .ok (.iload_n 1, 1) := by decide +kernel
theorem dX7_layHere_2 : decode cX7_layHere 2 = .ok (.iconst 1, 1) := by decide +kernel
theorem dX7_layHere_3 : decode cX7_layHere 3 = .ok (.iadd, 1) := by decide +kernel
theorem dX7_layHere_4 : decode cX7_layHere 4 = .ok (.iconst 2, 1) := by decide +kernel
theorem dX7_layHere_5 : decode cX7_layHere 5 = .ok (.invokevirtual 155, 3) := by decide +kernel
theorem dX7_layHere_8 : decode cX7_layHere 8 = .ok (.ifCond .eq 23, 3) := by decide +kernel
theorem dX7_layHere_11 : decode cX7_layHere 11 = .ok (.aload_n 0, 1) := by decide +kernel
theorem dX7_layHere_12 : decode cX7_layHere 12 = .ok (.bipush 58, 2) := by decide +kernel
theorem dX7_layHere_14 : decode cX7_layHere 14 = .ok (.invokevirtual 158, 3) := by decide +kernel
theorem dX7_layHere_17 : decode cX7_layHere 17 = .ok (.ifCond .eq 14, 3) := by decide +kernel
theorem dX7_layHere_20 : decode cX7_layHere 20 = .ok (.aload_n 0, 1) := by decide +kernel
theorem dX7_layHere_21 : decode cX7_layHere 21 = .ok (.iload_n 1, 1) := by decide +kernel
theorem dX7_layHere_22 : decode cX7_layHere 22 = .ok (.iconst 2, 1) := by decide +kernel
theorem dX7_layHere_23 : decode cX7_layHere 23 = .ok (.iadd, 1) := by decide +kernel
theorem dX7_layHere_24 : decode cX7_layHere 24 = .ok (.iconst 1, 1) := by decide +kernel
theorem dX7_layHere_25 : decode cX7_layHere 25 = .ok (.invokevirtual 155, 3) := by decide +kernel
theorem dX7_layHere_28 : decode cX7_layHere 28 = .ok (.ifCond .ne 5, 3) := by decide +kernel
theorem dX7_layHere_31 : decode cX7_layHere 31 = .ok (.iconst 0, 1) := by decide +kernel
theorem dX7_layHere_32 : decode cX7_layHere 32 = .ok (.ireturn, 1) := by decide +kernel
theorem dX7_layHere_33 : decode cX7_layHere 33 = .ok (.aload_n 0, 1) := by decide +kernel
theorem dX7_layHere_34 : decode cX7_layHere 34 = .ok (.getfield 40, 3) := by decide +kernel
theorem dX7_layHere_37 : decode cX7_layHere 37 = .ok (.iload_n 1, 1) := by decide +kernel
theorem dX7_layHere_38 : decode cX7_layHere 38 = .ok (.iconst 3, 1) := by decide +kernel
theorem dX7_layHere_39 : decode cX7_layHere 39 = .ok (.iadd, 1) := by decide +kernel
theorem dX7_layHere_40 : decode cX7_layHere 40 = .ok (.iconst 0, 1) := by decide +kernel
theorem dX7_layHere_41 : decode cX7_layHere 41 = .ok (.iastore, 1) := by decide +kernel
theorem dX7_layHere_42 : decode cX7_layHere 42 = .ok (.aload_n 0, 1) := by decide +kernel
theorem dX7_layHere_43 : decode cX7_layHere 43 = .ok (.getfield 40, 3) := by decide +kernel
theorem dX7_layHere_46 : decode cX7_layHere 46 = .ok (.iload_n 1, 1) := by decide +kernel
theorem dX7_layHere_47 : decode cX7_layHere 47 = .ok (.iconst 3, 1) := by decide +kernel
theorem dX7_layHere_48 : decode cX7_layHere 48 = .ok (.iadd, 1) := by decide +kernel
theorem dX7_layHere_49 : decode cX7_layHere 49 = .ok (.iaload, 1) := by decide +kernel
theorem dX7_layHere_50 : decode cX7_layHere 50 = .ok (.iconst 3, 1) := by decide +kernel
theorem dX7_layHere_51 : decode cX7_layHere 51 = .ok (.if_icmp .ge 27, 3) := by decide +kernel
theorem dX7_layHere_54 : decode cX7_layHere 54 = .ok (.aload_n 0, 1) := by decide +kernel
theorem dX7_layHere_55 : decode cX7_layHere 55 = .ok (.bipush 42, 2) := by decide +kernel
theorem dX7_layHere_57 : decode cX7_layHere 57 = .ok (.invokevirtual 158, 3) := by decide +kernel
theorem dX7_layHere_60 : decode cX7_layHere 60 = .ok (.ifCond .eq 18, 3) := by decide +kernel
theorem dX7_layHere_63 : decode cX7_layHere 63 = .ok (.aload_n 0, 1) := by decide +kernel
theorem dX7_layHere_64 : decode cX7_layHere 64 = .ok (.getfield 40, 3) := by decide +kernel
theorem dX7_layHere_67 : decode cX7_layHere 67 = .ok (.iload_n 1, 1) := by decide +kernel
theorem dX7_layHere_68 : decode cX7_layHere 68 = .ok (.iconst 3, 1) := by decide +kernel
theorem dX7_layHere_69 : decode cX7_layHere 69 = .ok (.iadd, 1) := by decide +kernel
theorem dX7_layHere_70 : decode cX7_layHere 70 = .ok (.dup2, 1) := by decide +kernel
theorem dX7_layHere_71 : decode cX7_layHere 71 = .ok (.iaload, 1) := by decide +kernel
theorem dX7_layHere_72 : decode cX7_layHere 72 = .ok (.iconst 1, 1) := by decide +kernel
theorem dX7_layHere_73 : decode cX7_layHere 73 = .ok (.iadd, 1) := by decide +kernel
theorem dX7_layHere_74 : decode cX7_layHere 74 = .ok (.iastore, 1) := by decide +kernel
theorem dX7_layHere_75 : decode cX7_layHere 75 = .ok (.goto (-33), 3) := by decide +kernel
theorem dX7_layHere_78 : decode cX7_layHere 78 = .ok (.iconst 1, 1) := by decide +kernel
theorem dX7_layHere_79 : decode cX7_layHere 79 = .ok (.ireturn, 1) := by decide +kernel
theorem dX7_commandHere_0 : decode cX7_commandHere 0 = .ok (.bipush 6, 2) := by decide +kernel
theorem dX7_commandHere_2 : decode cX7_commandHere 2 = .ok (.aload_n 0, 1) := by decide +kernel
theorem dX7_commandHere_3 : decode cX7_commandHere 3 = .ok (.getfield 161, 3) := by decide +kernel
theorem dX7_commandHere_6 : decode cX7_commandHere 6 = .ok (.imul, 1) := by decide +kernel
theorem dX7_commandHere_7 : decode cX7_commandHere 7 = .ok (.istore_n 1, 1) := by decide +kernel
theorem dX7_commandHere_8 : decode cX7_commandHere 8 = .ok (.aload_n 0, 1) := by decide +kernel
theorem dX7_commandHere_9 : decode cX7_commandHere 9 = .ok (.getfield 40, 3) := by decide +kernel
theorem dX7_commandHere_12 : decode cX7_commandHere 12 = .ok (.iload_n 1, 1) := by decide +kernel
theorem dX7_commandHere_13 : decode cX7_commandHere 13 = .ok (.aload_n 0, 1) := by decide +kernel
theorem dX7_commandHere_14 : decode cX7_commandHere 14 = .ok (.invokevirtual 152, 3) := by decide +kernel
theorem dX7_commandHere_17 : decode cX7_commandHere 17 = .ok (.iastore, 1) := by decide +kernel
theorem dX7_commandHere_18 : decode cX7_commandHere 18 = .ok (.aload_n 0, 1) := by decide +kernel
theorem dX7_commandHere_19 : decode cX7_commandHere 19 = .ok (.bipush 107, 2) := by decide +kernel
theorem dX7_commandHere_21 : decode cX7_commandHere 21 = .ok (.invokevirtual 158, 3) := by decide +kernel
theorem dX7_commandHere_24 : decode cX7_commandHere 24 = .ok (.ifCond .eq 53, 3) := by decide +kernel
theorem dX7_commandHere_27 : decode cX7_commandHere 27 = .ok (.aload_n 0, 1) := by decide +kernel
theorem dX7_commandHere_28 : decode cX7_commandHere 28 = .ok (.iload_n 1, 1) := by decide +kernel
theorem dX7_commandHere_29 : decode cX7_commandHere 29 = .ok (.iconst 1, 1) := by decide +kernel
theorem dX7_commandHere_30 : decode cX7_commandHere 30 = .ok (.iadd, 1) := by decide +kernel
theorem dX7_commandHere_31 : decode cX7_commandHere 31 = .ok (.iconst 1, 1) := by decide +kernel
theorem dX7_commandHere_32 : decode cX7_commandHere 32 = .ok (.invokevirtual 155, 3) := by decide +kernel
theorem dX7_commandHere_35 : decode cX7_commandHere 35 = .ok (.ifCond .eq 40, 3) := by decide +kernel
theorem dX7_commandHere_38 : decode cX7_commandHere 38 = .ok (.aload_n 0, 1) := by decide +kernel
theorem dX7_commandHere_39 : decode cX7_commandHere 39 = .ok (.iload_n 1, 1) := by decide +kernel
theorem dX7_commandHere_40 : decode cX7_commandHere 40 = .ok (.iconst 2, 1) := by decide +kernel
theorem dX7_commandHere_41 : decode cX7_commandHere 41 = .ok (.iadd, 1) := by decide +kernel
theorem dX7_commandHere_42 : decode cX7_commandHere 42 = .ok (.iconst 1, 1) := by decide +kernel
theorem dX7_commandHere_43 : decode cX7_commandHere 43 = .ok (.invokevirtual 155, 3) := by decide +kernel
theorem dX7_commandHere_46 : decode cX7_commandHere 46 = .ok (.ifCond .eq 29, 3) := by decide +kernel
theorem dX7_commandHere_49 : decode cX7_commandHere 49 = .ok (.aload_n 0, 1) := by decide +kernel
theorem dX7_commandHere_50 : decode cX7_commandHere 50 = .ok (.iload_n 1, 1) := by decide +kernel
theorem dX7_commandHere_51 : decode cX7_commandHere 51 = .ok (.iconst 3, 1) := by decide +kernel
theorem dX7_commandHere_52 : decode cX7_commandHere 52 = .ok (.iadd, 1) := by decide +kernel
theorem dX7_commandHere_53 : decode cX7_commandHere 53 = .ok (.iconst 1, 1) := by decide +kernel
theorem dX7_commandHere_54 : decode cX7_commandHere 54 = .ok (.invokevirtual 155, 3) := by decide +kernel
theorem dX7_commandHere_57 : decode cX7_commandHere 57 = .ok (.ifCond .eq 18, 3) := by decide +kernel
theorem dX7_commandHere_60 : decode cX7_commandHere 60 = .ok (.aload_n 0, 1) := by decide +kernel
theorem dX7_commandHere_61 : decode cX7_commandHere 61 = .ok (.iload_n 1, 1) := by decide +kernel
theorem dX7_commandHere_62 : decode cX7_commandHere 62 = .ok (.iconst 4, 1) := by decide +kernel
theorem dX7_commandHere_63 : decode cX7_commandHere 63 = .ok (.iadd, 1) := by decide +kernel
theorem dX7_commandHere_64 : decode cX7_commandHere 64 = .ok (.iconst 1, 1) := by decide +kernel
theorem dX7_commandHere_65 : decode cX7_commandHere 65 = .ok (.invokevirtual 155, 3) := by decide +kernel
theorem dX7_commandHere_68 : decode cX7_commandHere 68 = .ok (.ifCond .eq 7, 3) := by decide +kernel
theorem dX7_commandHere_71 : decode cX7_commandHere 71 = .ok (.iconst 1, 1) := by decide +kernel
theorem dX7_commandHere_72 : decode cX7_commandHere 72 = .ok (.goto 4, 3) := by decide +kernel
theorem dX7_commandHere_75 : decode cX7_commandHere 75 = .ok (.iconst 0, 1) := by decide +kernel
theorem dX7_commandHere_76 : decode cX7_commandHere 76 = .ok (.ireturn, 1) := by decide +kernel
theorem dX7_commandHere_77 : decode cX7_commandHere 77 = .ok (.aload_n 0, 1) := by decide +kernel
theorem dX7_commandHere_78 : decode cX7_commandHere 78 = .ok (.bipush 108, 2) := by decide +kernel
theorem dX7_commandHere_80 : decode cX7_commandHere 80 = .ok (.invokevirtual 158, 3) := by decide +kernel
theorem dX7_commandHere_83 : decode cX7_commandHere 83 = .ok (.ifCond .eq 9, 3) := by decide +kernel
theorem dX7_commandHere_86 : decode cX7_commandHere 86 = .ok (.aload_n 0, 1) := by decide +kernel
theorem dX7_commandHere_87 : decode cX7_commandHere 87 = .ok (.iload_n 1, 1) := by decide +kernel
theorem dX7_commandHere_88 : decode cX7_commandHere 88 = .ok (.invokevirtual 164, 3) := by decide +kernel
theorem dX7_commandHere_91 : decode cX7_commandHere 91 = .ok (.ireturn, 1) := by decide +kernel
theorem dX7_commandHere_92 : decode cX7_commandHere 92 = .ok (.aload_n 0, 1) := by decide +kernel
theorem dX7_commandHere_93 : decode cX7_commandHere 93 = .ok (.bipush 115, 2) := by decide +kernel
theorem dX7_commandHere_95 : decode cX7_commandHere 95 = .ok (.invokevirtual 158, 3) := by decide +kernel
theorem dX7_commandHere_98 : decode cX7_commandHere 98 = .ok (.ifCond .eq 31, 3) := by decide +kernel
theorem dX7_commandHere_101 : decode cX7_commandHere 101 = .ok (.aload_n 0, 1) := by decide +kernel
theorem dX7_commandHere_102 : decode cX7_commandHere 102 = .ok (.iload_n 1, 1) := by decide +kernel
theorem dX7_commandHere_103 : decode cX7_commandHere 103 = .ok (.iconst 1, 1) := by decide +kernel
theorem dX7_commandHere_104 : decode cX7_commandHere 104 = .ok (.iadd, 1) := by decide +kernel
theorem dX7_commandHere_105 : decode cX7_commandHere 105 = .ok (.iconst 1, 1) := by decide +kernel
theorem dX7_commandHere_106 : decode cX7_commandHere 106 = .ok (.invokevirtual 155, 3) := by decide +kernel
theorem dX7_commandHere_109 : decode cX7_commandHere 109 = .ok (.ifCond .eq 18, 3) := by decide +kernel
theorem dX7_commandHere_112 : decode cX7_commandHere 112 = .ok (.aload_n 0, 1) := by decide +kernel
theorem dX7_commandHere_113 : decode cX7_commandHere 113 = .ok (.iload_n 1, 1) := by decide +kernel
theorem dX7_commandHere_114 : decode cX7_commandHere 114 = .ok (.iconst 2, 1) := by decide +kernel
theorem dX7_commandHere_115 : decode cX7_commandHere 115 = .ok (.iadd, 1) := by decide +kernel
theorem dX7_commandHere_116 : decode cX7_commandHere 116 = .ok (.iconst 1, 1) := by decide +kernel
theorem dX7_commandHere_117 : decode cX7_commandHere 117 = .ok (.invokevirtual 155, 3) := by decide +kernel
theorem dX7_commandHere_120 : decode cX7_commandHere 120 = .ok (.ifCond .eq 7, 3) := by decide +kernel
theorem dX7_commandHere_123 : decode cX7_commandHere 123 = .ok (.iconst 1, 1) := by decide +kernel
theorem dX7_commandHere_124 : decode cX7_commandHere 124 = .ok (.goto 4, 3) := by decide +kernel
theorem dX7_commandHere_127 : decode cX7_commandHere 127 = .ok (.iconst 0, 1) := by decide +kernel
theorem dX7_commandHere_128 : decode cX7_commandHere 128 = .ok (.ireturn, 1) := by decide +kernel
theorem dX7_commandHere_129 : decode cX7_commandHere 129 = .ok (.aload_n 0, 1) := by decide +kernel
theorem dX7_commandHere_130 : decode cX7_commandHere 130 = .ok (.bipush 110, 2) := by decide +kernel
theorem dX7_commandHere_132 : decode cX7_commandHere 132 = .ok (.invokevirtual 158, 3) := by decide +kernel
theorem dX7_commandHere_135 : decode cX7_commandHere 135 = .ok (.ifCond .eq 12, 3) := by decide +kernel
theorem dX7_commandHere_138 : decode cX7_commandHere 138 = .ok (.aload_n 0, 1) := by decide +kernel
theorem dX7_commandHere_139 : decode cX7_commandHere 139 = .ok (.iload_n 1, 1) := by decide +kernel
theorem dX7_commandHere_140 : decode cX7_commandHere 140 = .ok (.iconst 1, 1) := by decide +kernel
theorem dX7_commandHere_141 : decode cX7_commandHere 141 = .ok (.iadd, 1) := by decide +kernel
theorem dX7_commandHere_142 : decode cX7_commandHere 142 = .ok (.iconst 1, 1) := by decide +kernel
theorem dX7_commandHere_143 : decode cX7_commandHere 143 = .ok (.invokevirtual 155, 3) := by decide +kernel
theorem dX7_commandHere_146 : decode cX7_commandHere 146 = .ok (.ireturn, 1) := by decide +kernel
theorem dX7_commandHere_147 : decode cX7_commandHere 147 = .ok (.aload_n 0, 1) := by decide +kernel
theorem dX7_commandHere_148 : decode cX7_commandHere 148 = .ok (.bipush 116, 2) := by decide +kernel
theorem dX7_commandHere_150 : decode cX7_commandHere 150 = .ok (.invokevirtual 158, 3) := by decide +kernel
theorem dX7_commandHere_153 : decode cX7_commandHere 153 = .ok (.ifCond .ne 12, 3) := by decide +kernel
theorem dX7_commandHere_156 : decode cX7_commandHere 156 = .ok (.aload_n 0, 1) := by decide +kernel
theorem dX7_commandHere_157 : decode cX7_commandHere 157 = .ok (.bipush 103, 2) := by decide +kernel
theorem dX7_commandHere_159 : decode cX7_commandHere 159 = .ok (.invokevirtual 158, 3) := by decide +kernel
theorem dX7_commandHere_162 : decode cX7_commandHere 162 = .ok (.ifCond .eq 18, 3) := by decide +kernel
theorem dX7_commandHere_165 : decode cX7_commandHere 165 = .ok (.aload_n 0, 1) := by decide +kernel
theorem dX7_commandHere_166 : decode cX7_commandHere 166 = .ok (.iload_n 1, 1) := by decide +kernel
theorem dX7_commandHere_167 : decode cX7_commandHere 167 = .ok (.iconst 1, 1) := by decide +kernel
theorem dX7_commandHere_168 : decode cX7_commandHere 168 = .ok (.iadd, 1) := by decide +kernel
theorem dX7_commandHere_169 : decode cX7_commandHere 169 = .ok (.iconst 2, 1) := by decide +kernel
theorem dX7_commandHere_170 : decode cX7_commandHere 170 = .ok (.invokevirtual 155, 3) := by decide +kernel
theorem dX7_commandHere_173 : decode cX7_commandHere 173 = .ok (.ifCond .eq 7, 3) := by decide +kernel
theorem dX7_commandHere_176 : decode cX7_commandHere 176 = .ok (.iconst 1, 1) := by decide +kernel
theorem dX7_commandHere_177 : decode cX7_commandHere 177 = .ok (.goto 4, 3) := by decide +kernel
theorem dX7_commandHere_180 : decode cX7_commandHere 180 = .ok (.iconst 0, 1) := by decide +kernel
theorem dX7_commandHere_181 : decode cX7_commandHere 181 = .ok (.ireturn, 1) := by decide +kernel
theorem dX7_isText_0 : decode cX7_isText 0 = .ok (.aload_n 0, 1) := by decide +kernel
theorem dX7_isText_1 : decode cX7_isText 1 = .ok (.iconst 0, 1) := by decide +kernel
theorem dX7_isText_2 : decode cX7_isText 2 = .ok (.putfield 149, 3) := by decide +kernel
theorem dX7_isText_5 : decode cX7_isText 5 = .ok (.aload_n 0, 1) := by decide +kernel
theorem dX7_isText_6 : decode cX7_isText 6 = .ok (.iconst 0, 1) := by decide +kernel
theorem dX7_isText_7 : decode cX7_isText 7 = .ok (.putfield 161, 3) := by decide +kernel
theorem dX7_isText_10 : decode cX7_isText 10 = .ok (.aload_n 0, 1) := by decide +kernel
theorem dX7_isText_11 : decode cX7_isText 11 = .ok (.invokevirtual 167, 3) := by decide +kernel
theorem dX7_isText_14 : decode cX7_isText 14 = .ok (.ifCond .ne 5, 3) := by decide +kernel
theorem dX7_isText_17 : decode cX7_isText 17 = .ok (.iconst 0, 1) := by decide +kernel
theorem dX7_isText_18 : decode cX7_isText 18 = .ok (.ireturn, 1) := by decide +kernel
theorem dX7_isText_19 : decode cX7_isText 19 = .ok (.aload_n 0, 1) := by decide +kernel
theorem dX7_isText_20 : decode cX7_isText 20 = .ok (.dup, 1) := by decide +kernel
theorem dX7_isText_21 : decode cX7_isText 21 = .ok (.getfield 161, 3) := by decide +kernel
theorem dX7_isText_24 : decode cX7_isText 24 = .ok (.iconst 1, 1) := by decide +kernel
theorem dX7_isText_25 : decode cX7_isText 25 = .ok (.iadd, 1) := by decide +kernel
theorem dX7_isText_26 : decode cX7_isText 26 = .ok (.putfield 161, 3) := by decide +kernel
theorem dX7_isText_29 : decode cX7_isText 29 = .ok (.aload_n 0, 1) := by decide +kernel
theorem dX7_isText_30 : decode cX7_isText 30 = .ok (.bipush 59, 2) := by decide +kernel
theorem dX7_isText_32 : decode cX7_isText 32 = .ok (.invokevirtual 158, 3) := by decide +kernel
theorem dX7_isText_35 : decode cX7_isText 35 = .ok (.ifCond .ne (-25), 3) := by decide +kernel
theorem dX7_isText_38 : decode cX7_isText 38 = .ok (.aload_n 0, 1) := by decide +kernel
theorem dX7_isText_39 : decode cX7_isText 39 = .ok (.getfield 149, 3) := by decide +kernel
theorem dX7_isText_42 : decode cX7_isText 42 = .ok (.aload_n 0, 1) := by decide +kernel
theorem dX7_isText_43 : decode cX7_isText 43 = .ok (.getfield 146, 3) := by decide +kernel
theorem dX7_isText_46 : decode cX7_isText 46 = .ok (.if_icmp .ne 7, 3) := by decide +kernel
theorem dX7_isText_49 : decode cX7_isText 49 = .ok (.iconst 1, 1) := by decide +kernel
theorem dX7_isText_50 : decode cX7_isText 50 = .ok (.goto 4, 3) := by decide +kernel
theorem dX7_isText_53 : decode cX7_isText 53 = .ok (.iconst 0, 1) := by decide +kernel
theorem dX7_isText_54 : decode cX7_isText 54 = .ok (.ireturn, 1) := by decide +kernel
theorem dX7_carries_0 : decode cX7_carries 0 = .ok (.aload_n 0, 1) := by decide +kernel
theorem dX7_carries_1 : decode cX7_carries 1 = .ok (.getfield 40, 3) := by decide +kernel
theorem dX7_carries_4 : decode cX7_carries 4 = .ok (.iload_n 1, 1) := by decide +kernel
theorem dX7_carries_5 : decode cX7_carries 5 = .ok (.iaload, 1) := by decide +kernel
theorem dX7_carries_6 : decode cX7_carries 6 = .ok (.tableswitch 167 107 116 #[54, 91, 167, 141, 167, 167, 167, 167, 120, 154], 54) := by decide +kernel
theorem dX7_carries_60 : decode cX7_carries 60 = .ok (.aload_n 0, 1) := by decide +kernel
theorem dX7_carries_61 : decode cX7_carries 61 = .ok (.aload_n 0, 1) := by decide +kernel
theorem dX7_carries_62 : decode cX7_carries 62 = .ok (.getfield 40, 3) := by decide +kernel
theorem dX7_carries_65 : decode cX7_carries 65 = .ok (.iload_n 1, 1) := by decide +kernel
theorem dX7_carries_66 : decode cX7_carries 66 = .ok (.iconst 1, 1) := by decide +kernel
theorem dX7_carries_67 : decode cX7_carries 67 = .ok (.iadd, 1) := by decide +kernel
theorem dX7_carries_68 : decode cX7_carries 68 = .ok (.iaload, 1) := by decide +kernel
theorem dX7_carries_69 : decode cX7_carries 69 = .ok (.aload_n 0, 1) := by decide +kernel
theorem dX7_carries_70 : decode cX7_carries 70 = .ok (.getfield 40, 3) := by decide +kernel
theorem dX7_carries_73 : decode cX7_carries 73 = .ok (.iload_n 1, 1) := by decide +kernel
theorem dX7_carries_74 : decode cX7_carries 74 = .ok (.iconst 2, 1) := by decide +kernel
theorem dX7_carries_75 : decode cX7_carries 75 = .ok (.iadd, 1) := by decide +kernel
theorem dX7_carries_76 : decode cX7_carries 76 = .ok (.iaload, 1) := by decide +kernel
theorem dX7_carries_77 : decode cX7_carries 77 = .ok (.aload_n 0, 1) := by decide +kernel
theorem dX7_carries_78 : decode cX7_carries 78 = .ok (.getfield 40, 3) := by decide +kernel
theorem dX7_carries_81 : decode cX7_carries 81 = .ok (.iload_n 1, 1) := by decide +kernel
theorem dX7_carries_82 : decode cX7_carries 82 = .ok (.iconst 3, 1) := by decide +kernel
theorem dX7_carries_83 : decode cX7_carries 83 = .ok (.iadd, 1) := by decide +kernel
theorem dX7_carries_84 : decode cX7_carries 84 = .ok (.iaload, 1) := by decide +kernel
theorem dX7_carries_85 : decode cX7_carries 85 = .ok (.aload_n 0, 1) := by decide +kernel
theorem dX7_carries_86 : decode cX7_carries 86 = .ok (.getfield 40, 3) := by decide +kernel
theorem dX7_carries_89 : decode cX7_carries 89 = .ok (.iload_n 1, 1) := by decide +kernel
theorem dX7_carries_90 : decode cX7_carries 90 = .ok (.iconst 4, 1) := by decide +kernel
theorem dX7_carries_91 : decode cX7_carries 91 = .ok (.iadd, 1) := by decide +kernel
theorem dX7_carries_92 : decode cX7_carries 92 = .ok (.iaload, 1) := by decide +kernel
theorem dX7_carries_93 : decode cX7_carries 93 = .ok (.invokevirtual 171, 3) := by decide +kernel
theorem dX7_carries_96 : decode cX7_carries 96 = .ok (.ireturn, 1) := by decide +kernel
theorem dX7_carries_97 : decode cX7_carries 97 = .ok (.aload_n 0, 1) := by decide +kernel
theorem dX7_carries_98 : decode cX7_carries 98 = .ok (.aload_n 0, 1) := by decide +kernel
theorem dX7_carries_99 : decode cX7_carries 99 = .ok (.getfield 40, 3) := by decide +kernel
theorem dX7_carries_102 : decode cX7_carries 102 = .ok (.iload_n 1, 1) := by decide +kernel
theorem dX7_carries_103 : decode cX7_carries 103 = .ok (.iconst 1, 1) := by decide +kernel
theorem dX7_carries_104 : decode cX7_carries 104 = .ok (.iadd, 1) := by decide +kernel
theorem dX7_carries_105 : decode cX7_carries 105 = .ok (.iaload, 1) := by decide +kernel
theorem dX7_carries_106 : decode cX7_carries 106 = .ok (.aload_n 0, 1) := by decide +kernel
theorem dX7_carries_107 : decode cX7_carries 107 = .ok (.getfield 40, 3) := by decide +kernel
theorem dX7_carries_110 : decode cX7_carries 110 = .ok (.iload_n 1, 1) := by decide +kernel
theorem dX7_carries_111 : decode cX7_carries 111 = .ok (.iconst 2, 1) := by decide +kernel
theorem dX7_carries_112 : decode cX7_carries 112 = .ok (.iadd, 1) := by decide +kernel
theorem dX7_carries_113 : decode cX7_carries 113 = .ok (.iaload, 1) := by decide +kernel
theorem dX7_carries_114 : decode cX7_carries 114 = .ok (.aload_n 0, 1) := by decide +kernel
theorem dX7_carries_115 : decode cX7_carries 115 = .ok (.getfield 40, 3) := by decide +kernel
theorem dX7_carries_118 : decode cX7_carries 118 = .ok (.iload_n 1, 1) := by decide +kernel
theorem dX7_carries_119 : decode cX7_carries 119 = .ok (.iconst 3, 1) := by decide +kernel
theorem dX7_carries_120 : decode cX7_carries 120 = .ok (.iadd, 1) := by decide +kernel
theorem dX7_carries_121 : decode cX7_carries 121 = .ok (.iaload, 1) := by decide +kernel
theorem dX7_carries_122 : decode cX7_carries 122 = .ok (.invokevirtual 175, 3) := by decide +kernel
theorem dX7_carries_125 : decode cX7_carries 125 = .ok (.ireturn, 1) := by decide +kernel
theorem dX7_carries_126 : decode cX7_carries 126 = .ok (.aload_n 0, 1) := by decide +kernel
theorem dX7_carries_127 : decode cX7_carries 127 = .ok (.aload_n 0, 1) := by decide +kernel
theorem dX7_carries_128 : decode cX7_carries 128 = .ok (.getfield 40, 3) := by decide +kernel
theorem dX7_carries_131 : decode cX7_carries 131 = .ok (.iload_n 1, 1) := by decide +kernel
theorem dX7_carries_132 : decode cX7_carries 132 = .ok (.iconst 1, 1) := by decide +kernel
theorem dX7_carries_133 : decode cX7_carries 133 = .ok (.iadd, 1) := by decide +kernel
theorem dX7_carries_134 : decode cX7_carries 134 = .ok (.iaload, 1) := by decide +kernel
theorem dX7_carries_135 : decode cX7_carries 135 = .ok (.aload_n 0, 1) := by decide +kernel
theorem dX7_carries_136 : decode cX7_carries 136 = .ok (.getfield 40, 3) := by decide +kernel
theorem dX7_carries_139 : decode cX7_carries 139 = .ok (.iload_n 1, 1) := by decide +kernel
theorem dX7_carries_140 : decode cX7_carries 140 = .ok (.iconst 2, 1) := by decide +kernel
theorem dX7_carries_141 : decode cX7_carries 141 = .ok (.iadd, 1) := by decide +kernel
theorem dX7_carries_142 : decode cX7_carries 142 = .ok (.iaload, 1) := by decide +kernel
theorem dX7_carries_143 : decode cX7_carries 143 = .ok (.invokevirtual 178, 3) := by decide +kernel
theorem dX7_carries_146 : decode cX7_carries 146 = .ok (.ireturn, 1) := by decide +kernel
theorem dX7_carries_147 : decode cX7_carries 147 = .ok (.aload_n 0, 1) := by decide +kernel
theorem dX7_carries_148 : decode cX7_carries 148 = .ok (.aload_n 0, 1) := by decide +kernel
theorem dX7_carries_149 : decode cX7_carries 149 = .ok (.getfield 40, 3) := by decide +kernel
theorem dX7_carries_152 : decode cX7_carries 152 = .ok (.iload_n 1, 1) := by decide +kernel
theorem dX7_carries_153 : decode cX7_carries 153 = .ok (.iconst 1, 1) := by decide +kernel
theorem dX7_carries_154 : decode cX7_carries 154 = .ok (.iadd, 1) := by decide +kernel
theorem dX7_carries_155 : decode cX7_carries 155 = .ok (.iaload, 1) := by decide +kernel
theorem dX7_carries_156 : decode cX7_carries 156 = .ok (.invokevirtual 181, 3) := by decide +kernel
theorem dX7_carries_159 : decode cX7_carries 159 = .ok (.ireturn, 1) := by decide +kernel
theorem dX7_carries_160 : decode cX7_carries 160 = .ok (.aload_n 0, 1) := by decide +kernel
theorem dX7_carries_161 : decode cX7_carries 161 = .ok (.aload_n 0, 1) := by decide +kernel
theorem dX7_carries_162 : decode cX7_carries 162 = .ok (.getfield 40, 3) := by decide +kernel
theorem dX7_carries_165 : decode cX7_carries 165 = .ok (.iload_n 1, 1) := by decide +kernel
theorem dX7_carries_166 : decode cX7_carries 166 = .ok (.iconst 1, 1) := by decide +kernel
theorem dX7_carries_167 : decode cX7_carries 167 = .ok (.iadd, 1) := by decide +kernel
theorem dX7_carries_168 : decode cX7_carries 168 = .ok (.iaload, 1) := by decide +kernel
theorem dX7_carries_169 : decode cX7_carries 169 = .ok (.invokevirtual 184, 3) := by decide +kernel
theorem dX7_carries_172 : decode cX7_carries 172 = .ok (.ireturn, 1) := by decide +kernel
theorem dX7_carries_173 : decode cX7_carries 173 = .ok (.aload_n 0, 1) := by decide +kernel
theorem dX7_carries_174 : decode cX7_carries 174 = .ok (.aload_n 0, 1) := by decide +kernel
theorem dX7_carries_175 : decode cX7_carries 175 = .ok (.getfield 40, 3) := by decide +kernel
theorem dX7_carries_178 : decode cX7_carries 178 = .ok (.iload_n 1, 1) := by decide +kernel
theorem dX7_carries_179 : decode cX7_carries 179 = .ok (.iconst 1, 1) := by decide +kernel
theorem dX7_carries_180 : decode cX7_carries 180 = .ok (.iadd, 1) := by decide +kernel
theorem dX7_carries_181 : decode cX7_carries 181 = .ok (.iaload, 1) := by decide +kernel
theorem dX7_carries_182 : decode cX7_carries 182 = .ok (.invokevirtual 187, 3) := by decide +kernel
theorem dX7_carries_185 : decode cX7_carries 185 = .ok (.ireturn, 1) := by decide +kernel
theorem dX7_commands_0 : decode cX7_commands 0 = .ok (.aload_n 0, 1) := by decide +kernel
theorem dX7_commands_1 : decode cX7_commands 1 = .ok (.invokevirtual 190, 3) := by decide +kernel
theorem dX7_commands_4 : decode cX7_commands 4 = .ok (.istore_n 1, 1) := by decide +kernel
theorem dX7_commands_5 : decode cX7_commands 5 = .ok (.aload_n 0, 1) := by decide +kernel
theorem dX7_commands_6 : decode cX7_commands 6 = .ok (.iload_n 1, 1) := by decide +kernel
theorem dX7_commands_7 : decode cX7_commands 7 = .ok (.ifCond .eq 7, 3) := by decide +kernel
theorem dX7_commands_10 : decode cX7_commands 10 = .ok (.iconst (-1), 1) := by decide +kernel
theorem dX7_commands_11 : decode cX7_commands 11 = .ok (.goto 7, 3) := by decide +kernel
theorem dX7_commands_14 : decode cX7_commands 14 = .ok (.aload_n 0, 1) := by decide +kernel
theorem dX7_commands_15 : decode cX7_commands 15 = .ok (.getfield 149, 3) := by decide +kernel
theorem dX7_commands_18 : decode cX7_commands 18 = .ok (.putfield 28, 3) := by decide +kernel
theorem dX7_commands_21 : decode cX7_commands 21 = .ok (.aload_n 0, 1) := by decide +kernel
theorem dX7_commands_22 : decode cX7_commands 22 = .ok (.iconst 0, 1) := by decide +kernel
theorem dX7_commands_23 : decode cX7_commands 23 = .ok (.putfield 146, 3) := by decide +kernel
theorem dX7_commands_26 : decode cX7_commands 26 = .ok (.aload_n 0, 1) := by decide +kernel
theorem dX7_commands_27 : decode cX7_commands 27 = .ok (.iload_n 1, 1) := by decide +kernel
theorem dX7_commands_28 : decode cX7_commands 28 = .ok (.ifCond .eq 7, 3) := by decide +kernel
theorem dX7_commands_31 : decode cX7_commands 31 = .ok (.iconst 0, 1) := by decide +kernel
theorem dX7_commands_32 : decode cX7_commands 32 = .ok (.goto 4, 3) := by decide +kernel
theorem dX7_commands_35 : decode cX7_commands 35 = .ok (.iconst 1, 1) := by decide +kernel
theorem dX7_commands_36 : decode cX7_commands 36 = .ok (.invokevirtual 134, 3) := by decide +kernel
theorem dX7_commands_39 : decode cX7_commands 39 = .ok (.ifCond .eq 5, 3) := by decide +kernel
theorem dX7_commands_42 : decode cX7_commands 42 = .ok (.iconst 0, 1) := by decide +kernel
theorem dX7_commands_43 : decode cX7_commands 43 = .ok (.ireturn, 1) := by decide +kernel
theorem dX7_commands_44 : decode cX7_commands 44 = .ok (.aload_n 0, 1) := by decide +kernel
theorem dX7_commands_45 : decode cX7_commands 45 = .ok (.getfield 7, 3) := by decide +kernel
theorem dX7_commands_48 : decode cX7_commands 48 = .ok (.iconst 0, 1) := by decide +kernel
theorem dX7_commands_49 : decode cX7_commands 49 = .ok (.aload_n 0, 1) := by decide +kernel
theorem dX7_commands_50 : decode cX7_commands 50 = .ok (.getfield 19, 3) := by decide +kernel
theorem dX7_commands_53 : decode cX7_commands 53 = .ok (.iconst 0, 1) := by decide +kernel
theorem dX7_commands_54 : decode cX7_commands 54 = .ok (.invokestatic 65, 3) := by decide +kernel
theorem dX7_commands_57 : decode cX7_commands 57 = .ok (.aload_n 0, 1) := by decide +kernel
theorem dX7_commands_58 : decode cX7_commands 58 = .ok (.iconst 1, 1) := by decide +kernel
theorem dX7_commands_59 : decode cX7_commands 59 = .ok (.putfield 52, 3) := by decide +kernel
theorem dX7_commands_62 : decode cX7_commands 62 = .ok (.aload_n 0, 1) := by decide +kernel
theorem dX7_commands_63 : decode cX7_commands 63 = .ok (.iconst 0, 1) := by decide +kernel
theorem dX7_commands_64 : decode cX7_commands 64 = .ok (.putfield 56, 3) := by decide +kernel
theorem dX7_commands_67 : decode cX7_commands 67 = .ok (.iconst 0, 1) := by decide +kernel
theorem dX7_commands_68 : decode cX7_commands 68 = .ok (.istore_n 2, 1) := by decide +kernel
theorem dX7_commands_69 : decode cX7_commands 69 = .ok (.aload_n 0, 1) := by decide +kernel
theorem dX7_commands_70 : decode cX7_commands 70 = .ok (.getfield 56, 3) := by decide +kernel
theorem dX7_commands_73 : decode cX7_commands 73 = .ok (.aload_n 0, 1) := by decide +kernel
theorem dX7_commands_74 : decode cX7_commands 74 = .ok (.getfield 161, 3) := by decide +kernel
theorem dX7_commands_77 : decode cX7_commands 77 = .ok (.if_icmp .ge 42, 3) := by decide +kernel
theorem dX7_commands_80 : decode cX7_commands 80 = .ok (.aload_n 0, 1) := by decide +kernel
theorem dX7_commands_81 : decode cX7_commands 81 = .ok (.getfield 43, 3) := by decide +kernel
theorem dX7_commands_84 : decode cX7_commands 84 = .ok (.ifCond .ne 35, 3) := by decide +kernel
theorem dX7_commands_87 : decode cX7_commands 87 = .ok (.aload_n 0, 1) := by decide +kernel
theorem dX7_commands_88 : decode cX7_commands 88 = .ok (.bipush 6, 2) := by decide +kernel
theorem dX7_commands_90 : decode cX7_commands 90 = .ok (.aload_n 0, 1) := by decide +kernel
theorem dX7_commands_91 : decode cX7_commands 91 = .ok (.getfield 56, 3) := by decide +kernel
theorem dX7_commands_94 : decode cX7_commands 94 = .ok (.imul, 1) := by decide +kernel
theorem dX7_commands_95 : decode cX7_commands 95 = .ok (.invokevirtual 193, 3) := by decide +kernel
theorem dX7_commands_98 : decode cX7_commands 98 = .ok (.istore_n 2, 1) := by decide +kernel
theorem dX7_commands_99 : decode cX7_commands 99 = .ok (.aload_n 0, 1) := by decide +kernel
theorem dX7_commands_100 : decode cX7_commands 100 = .ok (.getfield 43, 3) := by decide +kernel
theorem dX7_commands_103 : decode cX7_commands 103 = .ok (.ifCond .ne (-34), 3) := by decide +kernel
theorem dX7_commands_106 : decode cX7_commands 106 = .ok (.aload_n 0, 1) := by decide +kernel
theorem dX7_commands_107 : decode cX7_commands 107 = .ok (.dup, 1) := by decide +kernel
theorem dX7_commands_108 : decode cX7_commands 108 = .ok (.getfield 56, 3) := by decide +kernel
theorem dX7_commands_111 : decode cX7_commands 111 = .ok (.iconst 1, 1) := by decide +kernel
theorem dX7_commands_112 : decode cX7_commands 112 = .ok (.iadd, 1) := by decide +kernel
theorem dX7_commands_113 : decode cX7_commands 113 = .ok (.putfield 56, 3) := by decide +kernel
theorem dX7_commands_116 : decode cX7_commands 116 = .ok (.goto (-47), 3) := by decide +kernel
theorem dX7_commands_119 : decode cX7_commands 119 = .ok (.aload_n 0, 1) := by decide +kernel
theorem dX7_commands_120 : decode cX7_commands 120 = .ok (.iconst 0, 1) := by decide +kernel
theorem dX7_commands_121 : decode cX7_commands 121 = .ok (.putfield 52, 3) := by decide +kernel
theorem dX7_commands_124 : decode cX7_commands 124 = .ok (.aload_n 0, 1) := by decide +kernel
theorem dX7_commands_125 : decode cX7_commands 125 = .ok (.getfield 43, 3) := by decide +kernel
theorem dX7_commands_128 : decode cX7_commands 128 = .ok (.ifCond .le 31, 3) := by decide +kernel
theorem dX7_commands_131 : decode cX7_commands 131 = .ok (.aload_n 0, 1) := by decide +kernel
theorem dX7_commands_132 : decode cX7_commands 132 = .ok (.getfield 19, 3) := by decide +kernel
theorem dX7_commands_135 : decode cX7_commands 135 = .ok (.iconst 0, 1) := by decide +kernel
theorem dX7_commands_136 : decode cX7_commands 136 = .ok (.aload_n 0, 1) := by decide +kernel
theorem dX7_commands_137 : decode cX7_commands 137 = .ok (.getfield 7, 3) := by decide +kernel
theorem dX7_commands_140 : decode cX7_commands 140 = .ok (.iconst 0, 1) := by decide +kernel
theorem dX7_commands_141 : decode cX7_commands 141 = .ok (.invokestatic 65, 3) := by decide +kernel
theorem dX7_commands_144 : decode cX7_commands 144 = .ok (.aload_n 0, 1) := by decide +kernel
theorem dX7_commands_145 : decode cX7_commands 145 = .ok (.iconst 2, 1) := by decide +kernel
theorem dX7_commands_146 : decode cX7_commands 146 = .ok (.putfield 43, 3) := by decide +kernel
theorem dX7_commands_149 : decode cX7_commands 149 = .ok (.iload_n 2, 1) := by decide +kernel
theorem dX7_commands_150 : decode cX7_commands 150 = .ok (.ifCond .le 7, 3) := by decide +kernel
theorem dX7_commands_153 : decode cX7_commands 153 = .ok (.iconst 0, 1) := by decide +kernel
theorem dX7_commands_154 : decode cX7_commands 154 = .ok (.goto 4, 3) := by decide +kernel
theorem dX7_commands_157 : decode cX7_commands 157 = .ok (.iload_n 2, 1) := by decide +kernel
theorem dX7_commands_158 : decode cX7_commands 158 = .ok (.ireturn, 1) := by decide +kernel
theorem dX7_commands_159 : decode cX7_commands 159 = .ok (.aload_n 0, 1) := by decide +kernel
theorem dX7_commands_160 : decode cX7_commands 160 = .ok (.aload_n 0, 1) := by decide +kernel
theorem dX7_commands_161 : decode cX7_commands 161 = .ok (.getfield 19, 3) := by decide +kernel
theorem dX7_commands_164 : decode cX7_commands 164 = .ok (.invokevirtual 95, 3) := by decide +kernel
theorem dX7_commands_167 : decode cX7_commands 167 = .ok (.aload_n 0, 1) := by decide +kernel
theorem dX7_commands_168 : decode cX7_commands 168 = .ok (.getfield 161, 3) := by decide +kernel
theorem dX7_commands_171 : decode cX7_commands 171 = .ok (.ireturn, 1) := by decide +kernel
theorem dX7_faultPosition_0 : decode cX7_faultPosition 0 = .ok (.aload_n 0, 1) := by decide +kernel
theorem dX7_faultPosition_1 : decode cX7_faultPosition 1 = .ok (.iconst 0, 1) := by decide +kernel
theorem dX7_faultPosition_2 : decode cX7_faultPosition 2 = .ok (.putfield 43, 3) := by decide +kernel
theorem dX7_faultPosition_5 : decode cX7_faultPosition 5 = .ok (.aload_n 0, 1) := by decide +kernel
theorem dX7_faultPosition_6 : decode cX7_faultPosition 6 = .ok (.getfield 28, 3) := by decide +kernel
theorem dX7_faultPosition_9 : decode cX7_faultPosition 9 = .ok (.ireturn, 1) := by decide +kernel
theorem dX7_reason_0 : decode cX7_reason 0 = .ok (.aload_n 0, 1) := by decide +kernel
theorem dX7_reason_1 : decode cX7_reason 1 = .ok (.iload_n 1, 1) := by decide +kernel
theorem dX7_reason_2 : decode cX7_reason 2 = .ok (.iconst 0, 1) := by decide +kernel
theorem dX7_reason_3 : decode cX7_reason 3 = .ok (.iconst 2, 1) := by decide +kernel
theorem dX7_reason_4 : decode cX7_reason 4 = .ok (.invokestatic 69, 3) := by decide +kernel
theorem dX7_reason_7 : decode cX7_reason 7 = .ok (.ifCond .ne 7, 3) := by decide +kernel
theorem dX7_reason_10 : decode cX7_reason 10 = .ok (.iconst 1, 1) := by decide +kernel
theorem dX7_reason_11 : decode cX7_reason 11 = .ok (.goto 15, 3) := by decide +kernel
theorem dX7_reason_14 : decode cX7_reason 14 = .ok (.aload_n 0, 1) := by decide +kernel
theorem dX7_reason_15 : decode cX7_reason 15 = .ok (.getfield 46, 3) := by decide +kernel
theorem dX7_reason_18 : decode cX7_reason 18 = .ok (.ifCond .ne 7, 3) := by decide +kernel
theorem dX7_reason_21 : decode cX7_reason 21 = .ok (.iconst 2, 1) := by decide +kernel
theorem dX7_reason_22 : decode cX7_reason 22 = .ok (.goto 4, 3) := by decide +kernel
theorem dX7_reason_25 : decode cX7_reason 25 = .ok (.iconst 0, 1) := by decide +kernel
theorem dX7_reason_26 : decode cX7_reason 26 = .ok (.invokevirtual 134, 3) := by decide +kernel
theorem dX7_reason_29 : decode cX7_reason 29 = .ok (.ifCond .eq 7, 3) := by decide +kernel
theorem dX7_reason_32 : decode cX7_reason 32 = .ok (.iconst 0, 1) := by decide +kernel
theorem dX7_reason_33 : decode cX7_reason 33 = .ok (.goto 30, 3) := by decide +kernel
theorem dX7_reason_36 : decode cX7_reason 36 = .ok (.iload_n 1, 1) := by decide +kernel
theorem dX7_reason_37 : decode cX7_reason 37 = .ok (.ifCond .ne 10, 3) := by decide +kernel
theorem dX7_reason_40 : decode cX7_reason 40 = .ok (.aload_n 0, 1) := by decide +kernel
theorem dX7_reason_41 : decode cX7_reason 41 = .ok (.getfield 46, 3) := by decide +kernel
theorem dX7_reason_44 : decode cX7_reason 44 = .ok (.goto 19, 3) := by decide +kernel
theorem dX7_reason_47 : decode cX7_reason 47 = .ok (.iload_n 1, 1) := by decide +kernel
theorem dX7_reason_48 : decode cX7_reason 48 = .ok (.iconst 1, 1) := by decide +kernel
theorem dX7_reason_49 : decode cX7_reason 49 = .ok (.if_icmp .ne 10, 3) := by decide +kernel
theorem dX7_reason_52 : decode cX7_reason 52 = .ok (.aload_n 0, 1) := by decide +kernel
theorem dX7_reason_53 : decode cX7_reason 53 = .ok (.getfield 49, 3) := by decide +kernel
theorem dX7_reason_56 : decode cX7_reason 56 = .ok (.goto 7, 3) := by decide +kernel
theorem dX7_reason_59 : decode cX7_reason 59 = .ok (.aload_n 0, 1) := by decide +kernel
theorem dX7_reason_60 : decode cX7_reason 60 = .ok (.getfield 59, 3) := by decide +kernel
theorem dX7_reason_63 : decode cX7_reason 63 = .ok (.ireturn, 1) := by decide +kernel
theorem dX7_writes_0 : decode cX7_writes 0 = .ok (.aload_n 0, 1) := by decide +kernel
theorem dX7_writes_1 : decode cX7_writes 1 = .ok (.getfield 32, 3) := by decide +kernel
theorem dX7_writes_4 : decode cX7_writes 4 = .ok (.aload_n 0, 1) := by decide +kernel
theorem dX7_writes_5 : decode cX7_writes 5 = .ok (.getfield 196, 3) := by decide +kernel
theorem dX7_writes_8 : decode cX7_writes 8 = .ok (.iload_n 1, 1) := by decide +kernel
theorem dX7_writes_9 : decode cX7_writes 9 = .ok (.i2c, 1) := by decide +kernel
theorem dX7_writes_10 : decode cX7_writes 10 = .ok (.castore, 1) := by decide +kernel
theorem dX7_writes_11 : decode cX7_writes 11 = .ok (.aload_n 0, 1) := by decide +kernel
theorem dX7_writes_12 : decode cX7_writes 12 = .ok (.dup, 1) := by decide +kernel
theorem dX7_writes_13 : decode cX7_writes 13 = .ok (.getfield 196, 3) := by decide +kernel
theorem dX7_writes_16 : decode cX7_writes 16 = .ok (.iconst 1, 1) := by decide +kernel
theorem dX7_writes_17 : decode cX7_writes 17 = .ok (.iadd, 1) := by decide +kernel
theorem dX7_writes_18 : decode cX7_writes 18 = .ok (.putfield 196, 3) := by decide +kernel
theorem dX7_writes_21 : decode cX7_writes 21 = .ok (.return_, 1) := by decide +kernel
theorem dX7_line_0 : decode cX7_line 0 = .ok (.aload_n 0, 1) := by decide +kernel
theorem dX7_line_1 : decode cX7_line 1 = .ok (.iload_n 1, 1) := by decide +kernel
theorem dX7_line_2 : decode cX7_line 2 = .ok (.iconst 0, 1) := by decide +kernel
theorem dX7_line_3 : decode cX7_line 3 = .ok (.iconst 5, 1) := by decide +kernel
theorem dX7_line_4 : decode cX7_line 4 = .ok (.invokestatic 69, 3) := by decide +kernel
theorem dX7_line_7 : decode cX7_line 7 = .ok (.ifCond .eq 7, 3) := by decide +kernel
theorem dX7_line_10 : decode cX7_line 10 = .ok (.iconst 0, 1) := by decide +kernel
theorem dX7_line_11 : decode cX7_line 11 = .ok (.goto 4, 3) := by decide +kernel
theorem dX7_line_14 : decode cX7_line 14 = .ok (.iconst 1, 1) := by decide +kernel
theorem dX7_line_15 : decode cX7_line 15 = .ok (.invokevirtual 134, 3) := by decide +kernel
theorem dX7_line_18 : decode cX7_line 18 = .ok (.ifCond .eq 5, 3) := by decide +kernel
theorem dX7_line_21 : decode cX7_line 21 = .ok (.iconst 0, 1) := by decide +kernel
theorem dX7_line_22 : decode cX7_line 22 = .ok (.ireturn, 1) := by decide +kernel
theorem dX7_line_23 : decode cX7_line 23 = .ok (.aload_n 0, 1) := by decide +kernel
theorem dX7_line_24 : decode cX7_line 24 = .ok (.iconst 0, 1) := by decide +kernel
theorem dX7_line_25 : decode cX7_line 25 = .ok (.putfield 196, 3) := by decide +kernel
theorem dX7_line_28 : decode cX7_line 28 = .ok (.bipush 7, 2) := by decide +kernel
theorem dX7_line_30 : decode cX7_line 30 = .ok (.iload_n 1, 1) := by decide +kernel
theorem dX7_line_31 : decode cX7_line 31 = .ok (.imul, 1) := by decide +kernel
theorem dX7_line_32 : decode cX7_line 32 = .ok (.istore_n 2, 1) := by decide +kernel
theorem dX7_line_33 : decode cX7_line 33 = .ok (.iload_n 2, 1) := by decide +kernel
theorem dX7_line_34 : decode cX7_line 34 = .ok (.bipush 7, 2) := by decide +kernel
theorem dX7_line_36 : decode cX7_line 36 = .ok (.iload_n 1, 1) := by decide +kernel
theorem dX7_line_37 : decode cX7_line 37 = .ok (.imul, 1) := by decide +kernel
theorem dX7_line_38 : decode cX7_line 38 = .ok (.bipush 7, 2) := by decide +kernel
theorem dX7_line_40 : decode cX7_line 40 = .ok (.iadd, 1) := by decide +kernel
theorem dX7_line_41 : decode cX7_line 41 = .ok (.if_icmp .ge 77, 3) := by decide +kernel
theorem dX7_line_44 : decode cX7_line 44 = .ok (.aload_n 0, 1) := by decide +kernel
theorem dX7_line_45 : decode cX7_line 45 = .ok (.aload_n 0, 1) := by decide +kernel
theorem dX7_line_46 : decode cX7_line 46 = .ok (.iload_n 2, 1) := by decide +kernel
theorem dX7_line_47 : decode cX7_line 47 = .ok (.invokevirtual 77, 3) := by decide +kernel
theorem dX7_line_50 : decode cX7_line 50 = .ok (.ifCond .eq 8, 3) := by decide +kernel
theorem dX7_line_53 : decode cX7_line 53 = .ok (.bipush 46, 2) := by decide +kernel
theorem dX7_line_55 : decode cX7_line 55 = .ok (.goto 17, 3) := by decide +kernel
theorem dX7_line_58 : decode cX7_line 58 = .ok (.bipush 48, 2) := by decide +kernel
theorem dX7_line_60 : decode cX7_line 60 = .ok (.aload_n 0, 1) := by decide +kernel
theorem dX7_line_61 : decode cX7_line 61 = .ok (.getfield 7, 3) := by decide +kernel
theorem dX7_line_64 : decode cX7_line 64 = .ok (.bipush 45, 2) := by decide +kernel
theorem dX7_line_66 : decode cX7_line 66 = .ok (.iload_n 2, 1) := by decide +kernel
theorem dX7_line_67 : decode cX7_line 67 = .ok (.iadd, 1) := by decide +kernel
theorem dX7_line_68 : decode cX7_line 68 = .ok (.iaload, 1) := by decide +kernel
theorem dX7_line_69 : decode cX7_line 69 = .ok (.iconst 4, 1) := by decide +kernel
theorem dX7_line_70 : decode cX7_line 70 = .ok (.idiv, 1) := by decide +kernel
theorem dX7_line_71 : decode cX7_line 71 = .ok (.iadd, 1) := by decide +kernel
theorem dX7_line_72 : decode cX7_line 72 = .ok (.invokevirtual 199, 3) := by decide +kernel
theorem dX7_line_75 : decode cX7_line 75 = .ok (.iconst 0, 1) := by decide +kernel
theorem dX7_line_76 : decode cX7_line 76 = .ok (.istore_n 3, 1) := by decide +kernel
theorem dX7_line_77 : decode cX7_line 77 = .ok (.aload_n 0, 1) := by decide +kernel
theorem dX7_line_78 : decode cX7_line 78 = .ok (.iload_n 2, 1) := by decide +kernel
theorem dX7_line_79 : decode cX7_line 79 = .ok (.invokevirtual 77, 3) := by decide +kernel
theorem dX7_line_82 : decode cX7_line 82 = .ok (.ifCond .ne 30, 3) := by decide +kernel
theorem dX7_line_85 : decode cX7_line 85 = .ok (.iload_n 3, 1) := by decide +kernel
theorem dX7_line_86 : decode cX7_line 86 = .ok (.aload_n 0, 1) := by decide +kernel
theorem dX7_line_87 : decode cX7_line 87 = .ok (.getfield 7, 3) := by decide +kernel
theorem dX7_line_90 : decode cX7_line 90 = .ok (.bipush 45, 2) := by decide +kernel
theorem dX7_line_92 : decode cX7_line 92 = .ok (.iload_n 2, 1) := by decide +kernel
theorem dX7_line_93 : decode cX7_line 93 = .ok (.iadd, 1) := by decide +kernel
theorem dX7_line_94 : decode cX7_line 94 = .ok (.iaload, 1) := by decide +kernel
theorem dX7_line_95 : decode cX7_line 95 = .ok (.iconst 4, 1) := by decide +kernel
theorem dX7_line_96 : decode cX7_line 96 = .ok (.irem, 1) := by decide +kernel
theorem dX7_line_97 : decode cX7_line 97 = .ok (.if_icmp .ge 15, 3) := by decide +kernel
theorem dX7_line_100 : decode cX7_line 100 = .ok (.aload_n 0, 1) := by decide +kernel
theorem dX7_line_101 : decode cX7_line 101 = .ok (.bipush 42, 2) := by decide +kernel
theorem dX7_line_103 : decode cX7_line 103 = .ok (.invokevirtual 199, 3) := by decide +kernel
theorem dX7_line_106 : decode cX7_line 106 = .ok (.iinc 3 1, 3) := by decide +kernel
theorem dX7_line_109 : decode cX7_line 109 = .ok (.goto (-32), 3) := by decide +kernel
theorem dX7_line_112 : decode cX7_line 112 = .ok (.iinc 2 1, 3) := by decide +kernel
theorem dX7_line_115 : decode cX7_line 115 = .ok (.goto (-82), 3) := by decide +kernel
theorem dX7_line_118 : decode cX7_line 118 = .ok (.aload_n 0, 1) := by decide +kernel
theorem dX7_line_119 : decode cX7_line 119 = .ok (.getfield 196, 3) := by decide +kernel
theorem dX7_line_122 : decode cX7_line 122 = .ok (.ireturn, 1) := by decide +kernel
theorem dX7_character_0 : decode cX7_character 0 = .ok (.aload_n 0, 1) := by decide +kernel
theorem dX7_character_1 : decode cX7_character 1 = .ok (.iload_n 1, 1) := by decide +kernel
theorem dX7_character_2 : decode cX7_character 2 = .ok (.iconst 0, 1) := by decide +kernel
theorem dX7_character_3 : decode cX7_character 3 = .ok (.aload_n 0, 1) := by decide +kernel
theorem dX7_character_4 : decode cX7_character 4 = .ok (.getfield 196, 3) := by decide +kernel
theorem dX7_character_7 : decode cX7_character 7 = .ok (.iconst 1, 1) := by decide +kernel
theorem dX7_character_8 : decode cX7_character 8 = .ok (.isub, 1) := by decide +kernel
theorem dX7_character_9 : decode cX7_character 9 = .ok (.invokestatic 69, 3) := by decide +kernel
theorem dX7_character_12 : decode cX7_character 12 = .ok (.ifCond .eq 7, 3) := by decide +kernel
theorem dX7_character_15 : decode cX7_character 15 = .ok (.iconst 0, 1) := by decide +kernel
theorem dX7_character_16 : decode cX7_character 16 = .ok (.goto 4, 3) := by decide +kernel
theorem dX7_character_19 : decode cX7_character 19 = .ok (.iconst 1, 1) := by decide +kernel
theorem dX7_character_20 : decode cX7_character 20 = .ok (.invokevirtual 134, 3) := by decide +kernel
theorem dX7_character_23 : decode cX7_character 23 = .ok (.ifCond .eq 8, 3) := by decide +kernel
theorem dX7_character_26 : decode cX7_character 26 = .ok (.bipush 32, 2) := by decide +kernel
theorem dX7_character_28 : decode cX7_character 28 = .ok (.goto 9, 3) := by decide +kernel
theorem dX7_character_31 : decode cX7_character 31 = .ok (.aload_n 0, 1) := by decide +kernel
theorem dX7_character_32 : decode cX7_character 32 = .ok (.getfield 32, 3) := by decide +kernel
theorem dX7_character_35 : decode cX7_character 35 = .ok (.iload_n 1, 1) := by decide +kernel
theorem dX7_character_36 : decode cX7_character 36 = .ok (.caload, 1) := by decide +kernel
theorem dX7_character_37 : decode cX7_character 37 = .ok (.ireturn, 1) := by decide +kernel
theorem dX7_meanHold_0 : decode cX7_meanHold 0 = .ok (.aload_n 0, 1) := by decide +kernel
theorem dX7_meanHold_1 : decode cX7_meanHold 1 = .ok (.aload_n 0, 1) := by decide +kernel
theorem dX7_meanHold_2 : decode cX7_meanHold 2 = .ok (.invokevirtual 143, 3) := by decide +kernel
theorem dX7_meanHold_5 : decode cX7_meanHold 5 = .ok (.ifCond .ne 7, 3) := by decide +kernel
theorem dX7_meanHold_8 : decode cX7_meanHold 8 = .ok (.iconst 1, 1) := by decide +kernel
theorem dX7_meanHold_9 : decode cX7_meanHold 9 = .ok (.goto 4, 3) := by decide +kernel
theorem dX7_meanHold_12 : decode cX7_meanHold 12 = .ok (.iconst 0, 1) := by decide +kernel
theorem dX7_meanHold_13 : decode cX7_meanHold 13 = .ok (.invokevirtual 134, 3) := by decide +kernel
theorem dX7_meanHold_16 : decode cX7_meanHold 16 = .ok (.ifCond .eq 7, 3) := by decide +kernel
theorem dX7_meanHold_19 : decode cX7_meanHold 19 = .ok (.dconst 0, 1) := by decide +kernel
theorem dX7_meanHold_20 : decode cX7_meanHold 20 = .ok (.goto 14, 3) := by decide +kernel
theorem dX7_meanHold_23 : decode cX7_meanHold 23 = .ok (.aload_n 0, 1) := by decide +kernel
theorem dX7_meanHold_24 : decode cX7_meanHold 24 = .ok (.invokevirtual 140, 3) := by decide +kernel
theorem dX7_meanHold_27 : decode cX7_meanHold 27 = .ok (.i2d, 1) := by decide +kernel
theorem dX7_meanHold_28 : decode cX7_meanHold 28 = .ok (.aload_n 0, 1) := by decide +kernel
theorem dX7_meanHold_29 : decode cX7_meanHold 29 = .ok (.invokevirtual 143, 3) := by decide +kernel
theorem dX7_meanHold_32 : decode cX7_meanHold 32 = .ok (.i2d, 1) := by decide +kernel
theorem dX7_meanHold_33 : decode cX7_meanHold 33 = .ok (.ddiv, 1) := by decide +kernel
theorem dX7_meanHold_34 : decode cX7_meanHold 34 = .ok (.dreturn, 1) := by decide +kernel
theorem dX7_standing_0 : decode cX7_standing 0 = .ok (.aload_n 0, 1) := by decide +kernel
theorem dX7_standing_1 : decode cX7_standing 1 = .ok (.aload_n 0, 1) := by decide +kernel
theorem dX7_standing_2 : decode cX7_standing 2 = .ok (.invokevirtual 143, 3) := by decide +kernel
theorem dX7_standing_5 : decode cX7_standing 5 = .ok (.ifCond .ne 7, 3) := by decide +kernel
theorem dX7_standing_8 : decode cX7_standing 8 = .ok (.iconst 1, 1) := by decide +kernel
theorem dX7_standing_9 : decode cX7_standing 9 = .ok (.goto 4, 3) := by decide +kernel
theorem dX7_standing_12 : decode cX7_standing 12 = .ok (.iconst 0, 1) := by decide +kernel
theorem dX7_standing_13 : decode cX7_standing 13 = .ok (.invokevirtual 134, 3) := by decide +kernel
theorem dX7_standing_16 : decode cX7_standing 16 = .ok (.ifCond .eq 7, 3) := by decide +kernel
theorem dX7_standing_19 : decode cX7_standing 19 = .ok (.fconst 0, 1) := by decide +kernel
theorem dX7_standing_20 : decode cX7_standing 20 = .ok (.goto 14, 3) := by decide +kernel
theorem dX7_standing_23 : decode cX7_standing 23 = .ok (.aload_n 0, 1) := by decide +kernel
theorem dX7_standing_24 : decode cX7_standing 24 = .ok (.invokevirtual 88, 3) := by decide +kernel
theorem dX7_standing_27 : decode cX7_standing 27 = .ok (.i2f, 1) := by decide +kernel
theorem dX7_standing_28 : decode cX7_standing 28 = .ok (.aload_n 0, 1) := by decide +kernel
theorem dX7_standing_29 : decode cX7_standing 29 = .ok (.invokevirtual 143, 3) := by decide +kernel
theorem dX7_standing_32 : decode cX7_standing 32 = .ok (.i2f, 1) := by decide +kernel
theorem dX7_standing_33 : decode cX7_standing 33 = .ok (.fdiv, 1) := by decide +kernel
theorem dX7_standing_34 : decode cX7_standing 34 = .ok (.freturn, 1) := by decide +kernel
theorem dX7_pairs_0 : decode cX7_pairs 0 = .ok (.iconst 0, 1) := by decide +kernel
theorem dX7_pairs_1 : decode cX7_pairs 1 = .ok (.istore_n 1, 1) := by decide +kernel
theorem dX7_pairs_2 : decode cX7_pairs 2 = .ok (.iconst 0, 1) := by decide +kernel
theorem dX7_pairs_3 : decode cX7_pairs 3 = .ok (.istore_n 2, 1) := by decide +kernel
theorem dX7_pairs_4 : decode cX7_pairs 4 = .ok (.iload_n 2, 1) := by decide +kernel
theorem dX7_pairs_5 : decode cX7_pairs 5 = .ok (.bipush 42, 2) := by decide +kernel
theorem dX7_pairs_7 : decode cX7_pairs 7 = .ok (.if_icmp .ge 58, 3) := by decide +kernel
theorem dX7_pairs_10 : decode cX7_pairs 10 = .ok (.iconst 1, 1) := by decide +kernel
theorem dX7_pairs_11 : decode cX7_pairs 11 = .ok (.istore_n 3, 1) := by decide +kernel
theorem dX7_pairs_12 : decode cX7_pairs 12 = .ok (.iload_n 3, 1) := by decide +kernel
theorem dX7_pairs_13 : decode cX7_pairs 13 = .ok (.iconst 3, 1) := by decide +kernel
theorem dX7_pairs_14 : decode cX7_pairs 14 = .ok (.if_icmp .ge 45, 3) := by decide +kernel
theorem dX7_pairs_17 : decode cX7_pairs 17 = .ok (.iload_n 1, 1) := by decide +kernel
theorem dX7_pairs_18 : decode cX7_pairs 18 = .ok (.aload_n 0, 1) := by decide +kernel
theorem dX7_pairs_19 : decode cX7_pairs 19 = .ok (.iload_n 2, 1) := by decide +kernel
theorem dX7_pairs_20 : decode cX7_pairs 20 = .ok (.invokevirtual 77, 3) := by decide +kernel
theorem dX7_pairs_23 : decode cX7_pairs 23 = .ok (.ifCond .ne 27, 3) := by decide +kernel
theorem dX7_pairs_26 : decode cX7_pairs 26 = .ok (.iload_n 2, 1) := by decide +kernel
theorem dX7_pairs_27 : decode cX7_pairs 27 = .ok (.iload_n 3, 1) := by decide +kernel
theorem dX7_pairs_28 : decode cX7_pairs 28 = .ok (.invokestatic 73, 3) := by decide +kernel
theorem dX7_pairs_31 : decode cX7_pairs 31 = .ok (.ifCond .lt 19, 3) := by decide +kernel
theorem dX7_pairs_34 : decode cX7_pairs 34 = .ok (.aload_n 0, 1) := by decide +kernel
theorem dX7_pairs_35 : decode cX7_pairs 35 = .ok (.iload_n 2, 1) := by decide +kernel
theorem dX7_pairs_36 : decode cX7_pairs 36 = .ok (.iload_n 3, 1) := by decide +kernel
theorem dX7_pairs_37 : decode cX7_pairs 37 = .ok (.invokestatic 73, 3) := by decide +kernel
theorem dX7_pairs_40 : decode cX7_pairs 40 = .ok (.invokevirtual 77, 3) := by decide +kernel
theorem dX7_pairs_43 : decode cX7_pairs 43 = .ok (.ifCond .ne 7, 3) := by decide +kernel
theorem dX7_pairs_46 : decode cX7_pairs 46 = .ok (.iconst 1, 1) := by decide +kernel
theorem dX7_pairs_47 : decode cX7_pairs 47 = .ok (.goto 4, 3) := by decide +kernel
theorem dX7_pairs_50 : decode cX7_pairs 50 = .ok (.iconst 0, 1) := by decide +kernel
theorem dX7_pairs_51 : decode cX7_pairs 51 = .ok (.iadd, 1) := by decide +kernel
theorem dX7_pairs_52 : decode cX7_pairs 52 = .ok (.istore_n 1, 1) := by decide +kernel
theorem dX7_pairs_53 : decode cX7_pairs 53 = .ok (.iinc 3 1, 3) := by decide +kernel
theorem dX7_pairs_56 : decode cX7_pairs 56 = .ok (.goto (-44), 3) := by decide +kernel
theorem dX7_pairs_59 : decode cX7_pairs 59 = .ok (.iinc 2 1, 3) := by decide +kernel
theorem dX7_pairs_62 : decode cX7_pairs 62 = .ok (.goto (-58), 3) := by decide +kernel
theorem dX7_pairs_65 : decode cX7_pairs 65 = .ok (.iload_n 1, 1) := by decide +kernel
theorem dX7_pairs_66 : decode cX7_pairs 66 = .ok (.ireturn, 1) := by decide +kernel
theorem dX7_account_0 : decode cX7_account 0 = .ok (.aload_n 0, 1) := by decide +kernel
theorem dX7_account_1 : decode cX7_account 1 = .ok (.iload_n 1, 1) := by decide +kernel
theorem dX7_account_2 : decode cX7_account 2 = .ok (.iconst 0, 1) := by decide +kernel
theorem dX7_account_3 : decode cX7_account 3 = .ok (.bipush 9, 2) := by decide +kernel
theorem dX7_account_5 : decode cX7_account 5 = .ok (.invokestatic 69, 3) := by decide +kernel
theorem dX7_account_8 : decode cX7_account 8 = .ok (.ifCond .eq 7, 3) := by decide +kernel
theorem dX7_account_11 : decode cX7_account 11 = .ok (.iconst 0, 1) := by decide +kernel
theorem dX7_account_12 : decode cX7_account 12 = .ok (.goto 4, 3) := by decide +kernel
theorem dX7_account_15 : decode cX7_account 15 = .ok (.iconst 1, 1) := by decide +kernel
theorem dX7_account_16 : decode cX7_account 16 = .ok (.invokevirtual 134, 3) := by decide +kernel
theorem dX7_account_19 : decode cX7_account 19 = .ok (.ifCond .eq 5, 3) := by decide +kernel
theorem dX7_account_22 : decode cX7_account 22 = .ok (.iconst 0, 1) := by decide +kernel
theorem dX7_account_23 : decode cX7_account 23 = .ok (.ireturn, 1) := by decide +kernel
theorem dX7_account_24 : decode cX7_account 24 = .ok (.iload_n 1, 1) := by decide +kernel
theorem dX7_account_25 : decode cX7_account 25 = .ok (.tableswitch 87 0 9 #[55, 62, 87, 87, 87, 87, 67, 72, 77, 82], 55) := by decide +kernel
theorem dX7_account_80 : decode cX7_account 80 = .ok (.aload_n 0, 1) := by decide +kernel
theorem dX7_account_81 : decode cX7_account 81 = .ok (.getfield 7, 3) := by decide +kernel
theorem dX7_account_84 : decode cX7_account 84 = .ok (.iconst 0, 1) := by decide +kernel
theorem dX7_account_85 : decode cX7_account 85 = .ok (.iaload, 1) := by decide +kernel
theorem dX7_account_86 : decode cX7_account 86 = .ok (.ireturn, 1) := by decide +kernel
theorem dX7_account_87 : decode cX7_account 87 = .ok (.aload_n 0, 1) := by decide +kernel
theorem dX7_account_88 : decode cX7_account 88 = .ok (.invokevirtual 143, 3) := by decide +kernel
theorem dX7_account_91 : decode cX7_account 91 = .ok (.ireturn, 1) := by decide +kernel
theorem dX7_account_92 : decode cX7_account 92 = .ok (.aload_n 0, 1) := by decide +kernel
theorem dX7_account_93 : decode cX7_account 93 = .ok (.invokevirtual 140, 3) := by decide +kernel
theorem dX7_account_96 : decode cX7_account 96 = .ok (.ireturn, 1) := by decide +kernel
theorem dX7_account_97 : decode cX7_account 97 = .ok (.aload_n 0, 1) := by decide +kernel
theorem dX7_account_98 : decode cX7_account 98 = .ok (.invokevirtual 203, 3) := by decide +kernel
theorem dX7_account_101 : decode cX7_account 101 = .ok (.ireturn, 1) := by decide +kernel
theorem dX7_account_102 : decode cX7_account 102 = .ok (.aload_n 0, 1) := by decide +kernel
theorem dX7_account_103 : decode cX7_account 103 = .ok (.getfield 62, 3) := by decide +kernel
theorem dX7_account_106 : decode cX7_account 106 = .ok (.ireturn, 1) := by decide +kernel
theorem dX7_account_107 : decode cX7_account 107 = .ok (.aload_n 0, 1) := by decide +kernel
theorem dX7_account_108 : decode cX7_account 108 = .ok (.getfield 146, 3) := by decide +kernel
theorem dX7_account_111 : decode cX7_account 111 = .ok (.ireturn, 1) := by decide +kernel
theorem dX7_account_112 : decode cX7_account 112 = .ok (.aload_n 0, 1) := by decide +kernel
theorem dX7_account_113 : decode cX7_account 113 = .ok (.getfield 7, 3) := by decide +kernel
theorem dX7_account_116 : decode cX7_account 116 = .ok (.iload_n 1, 1) := by decide +kernel
theorem dX7_account_117 : decode cX7_account 117 = .ok (.iaload, 1) := by decide +kernel
theorem dX7_account_118 : decode cX7_account 118 = .ok (.ireturn, 1) := by decide +kernel
theorem dX7_undo_0 : decode cX7_undo 0 = .ok (.aload_n 0, 1) := by decide +kernel
theorem dX7_undo_1 : decode cX7_undo 1 = .ok (.aload_n 0, 1) := by decide +kernel
theorem dX7_undo_2 : decode cX7_undo 2 = .ok (.getfield 62, 3) := by decide +kernel
theorem dX7_undo_5 : decode cX7_undo 5 = .ok (.ifCond .ne 7, 3) := by decide +kernel
theorem dX7_undo_8 : decode cX7_undo 8 = .ok (.iconst 1, 1) := by decide +kernel
theorem dX7_undo_9 : decode cX7_undo 9 = .ok (.goto 4, 3) := by decide +kernel
theorem dX7_undo_12 : decode cX7_undo 12 = .ok (.iconst 0, 1) := by decide +kernel
theorem dX7_undo_13 : decode cX7_undo 13 = .ok (.invokevirtual 134, 3) := by decide +kernel
theorem dX7_undo_16 : decode cX7_undo 16 = .ok (.ifCond .eq 5, 3) := by decide +kernel
theorem dX7_undo_19 : decode cX7_undo 19 = .ok (.iconst 0, 1) := by decide +kernel
theorem dX7_undo_20 : decode cX7_undo 20 = .ok (.ireturn, 1) := by decide +kernel
theorem dX7_undo_21 : decode cX7_undo 21 = .ok (.aload_n 0, 1) := by decide +kernel
theorem dX7_undo_22 : decode cX7_undo 22 = .ok (.dup, 1) := by decide +kernel
theorem dX7_undo_23 : decode cX7_undo 23 = .ok (.getfield 62, 3) := by decide +kernel
theorem dX7_undo_26 : decode cX7_undo 26 = .ok (.iconst 1, 1) := by decide +kernel
theorem dX7_undo_27 : decode cX7_undo 27 = .ok (.isub, 1) := by decide +kernel
theorem dX7_undo_28 : decode cX7_undo 28 = .ok (.putfield 62, 3) := by decide +kernel
theorem dX7_undo_31 : decode cX7_undo 31 = .ok (.aload_n 0, 1) := by decide +kernel
theorem dX7_undo_32 : decode cX7_undo 32 = .ok (.getfield 13, 3) := by decide +kernel
theorem dX7_undo_35 : decode cX7_undo 35 = .ok (.bipush 87, 2) := by decide +kernel
theorem dX7_undo_37 : decode cX7_undo 37 = .ok (.aload_n 0, 1) := by decide +kernel
theorem dX7_undo_38 : decode cX7_undo 38 = .ok (.getfield 62, 3) := by decide +kernel
theorem dX7_undo_41 : decode cX7_undo 41 = .ok (.imul, 1) := by decide +kernel
theorem dX7_undo_42 : decode cX7_undo 42 = .ok (.aload_n 0, 1) := by decide +kernel
theorem dX7_undo_43 : decode cX7_undo 43 = .ok (.getfield 7, 3) := by decide +kernel
theorem dX7_undo_46 : decode cX7_undo 46 = .ok (.iconst 0, 1) := by decide +kernel
theorem dX7_undo_47 : decode cX7_undo 47 = .ok (.invokestatic 65, 3) := by decide +kernel
theorem dX7_undo_50 : decode cX7_undo 50 = .ok (.aload_n 0, 1) := by decide +kernel
theorem dX7_undo_51 : decode cX7_undo 51 = .ok (.getfield 62, 3) := by decide +kernel
theorem dX7_undo_54 : decode cX7_undo 54 = .ok (.ireturn, 1) := by decide +kernel
theorem dX7_save_0 : decode cX7_save 0 = .ok (.aload_n 0, 1) := by decide +kernel
theorem dX7_save_1 : decode cX7_save 1 = .ok (.iconst 0, 1) := by decide +kernel
theorem dX7_save_2 : decode cX7_save 2 = .ok (.putfield 43, 3) := by decide +kernel
theorem dX7_save_5 : decode cX7_save 5 = .ok (.aload_n 0, 1) := by decide +kernel
theorem dX7_save_6 : decode cX7_save 6 = .ok (.iconst 1, 1) := by decide +kernel
theorem dX7_save_7 : decode cX7_save 7 = .ok (.putfield 206, 3) := by decide +kernel
theorem dX7_save_10 : decode cX7_save 10 = .ok (.aload_n 0, 1) := by decide +kernel
theorem dX7_save_11 : decode cX7_save 11 = .ok (.getfield 7, 3) := by decide +kernel
theorem dX7_save_14 : decode cX7_save 14 = .ok (.iconst 0, 1) := by decide +kernel
theorem dX7_save_15 : decode cX7_save 15 = .ok (.aload_n 0, 1) := by decide +kernel
theorem dX7_save_16 : decode cX7_save 16 = .ok (.getfield 16, 3) := by decide +kernel
theorem dX7_save_19 : decode cX7_save 19 = .ok (.iconst 0, 1) := by decide +kernel
theorem dX7_save_20 : decode cX7_save 20 = .ok (.invokestatic 65, 3) := by decide +kernel
theorem dX7_save_23 : decode cX7_save 23 = .ok (.aload_n 0, 1) := by decide +kernel
theorem dX7_save_24 : decode cX7_save 24 = .ok (.invokevirtual 143, 3) := by decide +kernel
theorem dX7_save_27 : decode cX7_save 27 = .ok (.ireturn, 1) := by decide +kernel
theorem dX7_restore_0 : decode cX7_restore 0 = .ok (.aload_n 0, 1) := by decide +kernel
theorem dX7_restore_1 : decode cX7_restore 1 = .ok (.aload_n 0, 1) := by decide +kernel
theorem dX7_restore_2 : decode cX7_restore 2 = .ok (.getfield 206, 3) := by decide +kernel
theorem dX7_restore_5 : decode cX7_restore 5 = .ok (.ifCond .eq 7, 3) := by decide +kernel
theorem dX7_restore_8 : decode cX7_restore 8 = .ok (.iconst 0, 1) := by decide +kernel
theorem dX7_restore_9 : decode cX7_restore 9 = .ok (.goto 4, 3) := by decide +kernel
theorem dX7_restore_12 : decode cX7_restore 12 = .ok (.iconst 1, 1) := by decide +kernel
theorem dX7_restore_13 : decode cX7_restore 13 = .ok (.invokevirtual 134, 3) := by decide +kernel
theorem dX7_restore_16 : decode cX7_restore 16 = .ok (.ifCond .eq 5, 3) := by decide +kernel
theorem dX7_restore_19 : decode cX7_restore 19 = .ok (.iconst 0, 1) := by decide +kernel
theorem dX7_restore_20 : decode cX7_restore 20 = .ok (.ireturn, 1) := by decide +kernel
theorem dX7_restore_21 : decode cX7_restore 21 = .ok (.aload_n 0, 1) := by decide +kernel
theorem dX7_restore_22 : decode cX7_restore 22 = .ok (.getfield 16, 3) := by decide +kernel
theorem dX7_restore_25 : decode cX7_restore 25 = .ok (.iconst 0, 1) := by decide +kernel
theorem dX7_restore_26 : decode cX7_restore 26 = .ok (.aload_n 0, 1) := by decide +kernel
theorem dX7_restore_27 : decode cX7_restore 27 = .ok (.getfield 7, 3) := by decide +kernel
theorem dX7_restore_30 : decode cX7_restore 30 = .ok (.iconst 0, 1) := by decide +kernel
theorem dX7_restore_31 : decode cX7_restore 31 = .ok (.invokestatic 65, 3) := by decide +kernel
theorem dX7_restore_34 : decode cX7_restore 34 = .ok (.aload_n 0, 1) := by decide +kernel
theorem dX7_restore_35 : decode cX7_restore 35 = .ok (.iconst 0, 1) := by decide +kernel
theorem dX7_restore_36 : decode cX7_restore 36 = .ok (.putfield 62, 3) := by decide +kernel
theorem dX7_restore_39 : decode cX7_restore 39 = .ok (.aload_n 0, 1) := by decide +kernel
theorem dX7_restore_40 : decode cX7_restore 40 = .ok (.invokevirtual 143, 3) := by decide +kernel
theorem dX7_restore_43 : decode cX7_restore 43 = .ok (.ireturn, 1) := by decide +kernel
theorem dL_kind_0 : decode cL_kind 0 = .ok (.aload 5, 2) := by decide +kernel
theorem dL_kind_2 : decode cL_kind 2 = .ok (.iconst 0, 1) := by decide +kernel
theorem dL_kind_3 : decode cL_kind 3 = .ok (.aload_n 0, 1) := by decide +kernel
theorem dL_kind_4 : decode cL_kind 4 = .ok (.iload_n 1, 1) := by decide +kernel
theorem dL_kind_5 : decode cL_kind 5 = .ok (.iload_n 2, 1) := by decide +kernel
theorem dL_kind_6 : decode cL_kind 6 = .ok (.iload_n 3, 1) := by decide +kernel
theorem dL_kind_7 : decode cL_kind 7 = .ok (.iload 4, 2) := by decide +kernel
theorem dL_kind_9 : decode cL_kind 9 = .ok (.invokevirtual 7, 3) := by decide +kernel
theorem dL_kind_12 : decode cL_kind 12 = .ok (.i2l, 1) := by decide +kernel
theorem dL_kind_13 : decode cL_kind 13 = .ok (.lastore, 1) := by decide +kernel
theorem dL_kind_14 : decode cL_kind 14 = .ok (.goto 7, 3) := by decide +kernel
theorem dL_kind_17 : decode cL_kind 17 = .ok (.astore 6, 2) := by decide +kernel
theorem dL_kind_19 : decode cL_kind 19 = .ok (.iconst 1, 1) := by decide +kernel
theorem dL_kind_20 : decode cL_kind 20 = .ok (.ireturn, 1) := by decide +kernel
theorem dL_kind_21 : decode cL_kind 21 = .ok (.iconst 0, 1) := by decide +kernel
theorem dL_kind_22 : decode cL_kind 22 = .ok (.ireturn, 1) := by decide +kernel
theorem dL_lay_0 : decode cL_lay 0 = .ok (.aload 4, 2) := by decide +kernel
theorem dL_lay_2 : decode cL_lay 2 = .ok (.iconst 0, 1) := by decide +kernel
theorem dL_lay_3 : decode cL_lay 3 = .ok (.aload_n 0, 1) := by decide +kernel
theorem dL_lay_4 : decode cL_lay 4 = .ok (.iload_n 1, 1) := by decide +kernel
theorem dL_lay_5 : decode cL_lay 5 = .ok (.iload_n 2, 1) := by decide +kernel
theorem dL_lay_6 : decode cL_lay 6 = .ok (.iload_n 3, 1) := by decide +kernel
theorem dL_lay_7 : decode cL_lay 7 = .ok (.invokevirtual 15, 3) := by decide +kernel
theorem dL_lay_10 : decode cL_lay 10 = .ok (.i2l, 1) := by decide +kernel
theorem dL_lay_11 : decode cL_lay 11 = .ok (.lastore, 1) := by decide +kernel
theorem dL_lay_12 : decode cL_lay 12 = .ok (.goto 7, 3) := by decide +kernel
theorem dL_lay_15 : decode cL_lay 15 = .ok (.astore 5, 2) := by decide +kernel
theorem dL_lay_17 : decode cL_lay 17 = .ok (.iconst 1, 1) := by decide +kernel
theorem dL_lay_18 : decode cL_lay 18 = .ok (.ireturn, 1) := by decide +kernel
theorem dL_lay_19 : decode cL_lay 19 = .ok (.iconst 0, 1) := by decide +kernel
theorem dL_lay_20 : decode cL_lay 20 = .ok (.ireturn, 1) := by decide +kernel
theorem dL_takeOut_0 : decode cL_takeOut 0 = .ok (.aload_n 2, 1) := by decide +kernel
theorem dL_takeOut_1 : decode cL_takeOut 1 = .ok (.iconst 0, 1) := by decide +kernel
theorem dL_takeOut_2 : decode cL_takeOut 2 = .ok (.aload_n 0, 1) := by decide +kernel
theorem dL_takeOut_3 : decode cL_takeOut 3 = .ok (.iload_n 1, 1) := by decide +kernel
theorem dL_takeOut_4 : decode cL_takeOut 4 = .ok (.invokevirtual 19, 3) := by decide +kernel
theorem dL_takeOut_7 : decode cL_takeOut 7 = .ok (.i2l, 1) := by decide +kernel
theorem dL_takeOut_8 : decode cL_takeOut 8 = .ok (.lastore, 1) := by decide +kernel
theorem dL_takeOut_9 : decode cL_takeOut 9 = .ok (.goto 6, 3) := by decide +kernel
theorem dL_takeOut_12 : decode cL_takeOut 12 = .ok (.astore_n 3, 1) := by decide +kernel
theorem dL_takeOut_13 : decode cL_takeOut 13 = .ok (.iconst 1, 1) := by decide +kernel
theorem dL_takeOut_14 : decode cL_takeOut 14 = .ok (.ireturn, 1) := by decide +kernel
theorem dL_takeOut_15 : decode cL_takeOut 15 = .ok (.iconst 0, 1) := by decide +kernel
theorem dL_takeOut_16 : decode cL_takeOut 16 = .ok (.ireturn, 1) := by decide +kernel
theorem dL_grow_0 : decode cL_grow 0 = .ok (.aload_n 2, 1) := by decide +kernel
theorem dL_grow_1 : decode cL_grow 1 = .ok (.iconst 0, 1) := by decide +kernel
theorem dL_grow_2 : decode cL_grow 2 = .ok (.aload_n 0, 1) := by decide +kernel
theorem dL_grow_3 : decode cL_grow 3 = .ok (.iload_n 1, 1) := by decide +kernel
theorem dL_grow_4 : decode cL_grow 4 = .ok (.invokevirtual 23, 3) := by decide +kernel
theorem dL_grow_7 : decode cL_grow 7 = .ok (.i2l, 1) := by decide +kernel
theorem dL_grow_8 : decode cL_grow 8 = .ok (.lastore, 1) := by decide +kernel
theorem dL_grow_9 : decode cL_grow 9 = .ok (.goto 6, 3) := by decide +kernel
theorem dL_grow_12 : decode cL_grow 12 = .ok (.astore_n 3, 1) := by decide +kernel
theorem dL_grow_13 : decode cL_grow 13 = .ok (.iconst 1, 1) := by decide +kernel
theorem dL_grow_14 : decode cL_grow 14 = .ok (.ireturn, 1) := by decide +kernel
theorem dL_grow_15 : decode cL_grow 15 = .ok (.iconst 0, 1) := by decide +kernel
theorem dL_grow_16 : decode cL_grow 16 = .ok (.ireturn, 1) := by decide +kernel
theorem dL_strength_0 : decode cL_strength 0 = .ok (.aload_n 3, 1) := by decide +kernel
theorem dL_strength_1 : decode cL_strength 1 = .ok (.iconst 0, 1) := by decide +kernel
theorem dL_strength_2 : decode cL_strength 2 = .ok (.aload_n 0, 1) := by decide +kernel
theorem dL_strength_3 : decode cL_strength 3 = .ok (.iload_n 1, 1) := by decide +kernel
theorem dL_strength_4 : decode cL_strength 4 = .ok (.iload_n 2, 1) := by decide +kernel
theorem dL_strength_5 : decode cL_strength 5 = .ok (.invokevirtual 26, 3) := by decide +kernel
theorem dL_strength_8 : decode cL_strength 8 = .ok (.i2l, 1) := by decide +kernel
theorem dL_strength_9 : decode cL_strength 9 = .ok (.lastore, 1) := by decide +kernel
theorem dL_strength_10 : decode cL_strength 10 = .ok (.goto 7, 3) := by decide +kernel
theorem dL_strength_13 : decode cL_strength 13 = .ok (.astore 4, 2) := by decide +kernel
theorem dL_strength_15 : decode cL_strength 15 = .ok (.iconst 1, 1) := by decide +kernel
theorem dL_strength_16 : decode cL_strength 16 = .ok (.ireturn, 1) := by decide +kernel
theorem dL_strength_17 : decode cL_strength 17 = .ok (.iconst 0, 1) := by decide +kernel
theorem dL_strength_18 : decode cL_strength 18 = .ok (.ireturn, 1) := by decide +kernel
theorem dL_need_0 : decode cL_need 0 = .ok (.aload_n 2, 1) := by decide +kernel
theorem dL_need_1 : decode cL_need 1 = .ok (.iconst 0, 1) := by decide +kernel
theorem dL_need_2 : decode cL_need 2 = .ok (.aload_n 0, 1) := by decide +kernel
theorem dL_need_3 : decode cL_need 3 = .ok (.iload_n 1, 1) := by decide +kernel
theorem dL_need_4 : decode cL_need 4 = .ok (.invokevirtual 30, 3) := by decide +kernel
theorem dL_need_7 : decode cL_need 7 = .ok (.i2l, 1) := by decide +kernel
theorem dL_need_8 : decode cL_need 8 = .ok (.lastore, 1) := by decide +kernel
theorem dL_need_9 : decode cL_need 9 = .ok (.goto 6, 3) := by decide +kernel
theorem dL_need_12 : decode cL_need 12 = .ok (.astore_n 3, 1) := by decide +kernel
theorem dL_need_13 : decode cL_need 13 = .ok (.iconst 1, 1) := by decide +kernel
theorem dL_need_14 : decode cL_need 14 = .ok (.ireturn, 1) := by decide +kernel
theorem dL_need_15 : decode cL_need 15 = .ok (.iconst 0, 1) := by decide +kernel
theorem dL_need_16 : decode cL_need 16 = .ok (.ireturn, 1) := by decide +kernel
theorem dL_glueOf_0 : decode cL_glueOf 0 = .ok (.aload 4, 2) := by decide +kernel
theorem dL_glueOf_2 : decode cL_glueOf 2 = .ok (.iconst 0, 1) := by decide +kernel
theorem dL_glueOf_3 : decode cL_glueOf 3 = .ok (.aload_n 0, 1) := by decide +kernel
theorem dL_glueOf_4 : decode cL_glueOf 4 = .ok (.iload_n 1, 1) := by decide +kernel
theorem dL_glueOf_5 : decode cL_glueOf 5 = .ok (.iload_n 2, 1) := by decide +kernel
theorem dL_glueOf_6 : decode cL_glueOf 6 = .ok (.iload_n 3, 1) := by decide +kernel
theorem dL_glueOf_7 : decode cL_glueOf 7 = .ok (.invokevirtual 33, 3) := by decide +kernel
theorem dL_glueOf_10 : decode cL_glueOf 10 = .ok (.i2l, 1) := by decide +kernel
theorem dL_glueOf_11 : decode cL_glueOf 11 = .ok (.lastore, 1) := by decide +kernel
theorem dL_glueOf_12 : decode cL_glueOf 12 = .ok (.goto 11, 3) := by decide +kernel
theorem dL_glueOf_15 : decode cL_glueOf 15 = .ok (.astore 5, 2) := by decide +kernel
theorem dL_glueOf_17 : decode cL_glueOf 17 = .ok (.iconst 1, 1) := by decide +kernel
theorem dL_glueOf_18 : decode cL_glueOf 18 = .ok (.ireturn, 1) := by decide +kernel
theorem dL_glueOf_19 : decode cL_glueOf 19 = .ok (.astore 5, 2) := by decide +kernel
theorem dL_glueOf_21 : decode cL_glueOf 21 = .ok (.iconst 2, 1) := by decide +kernel
theorem dL_glueOf_22 : decode cL_glueOf 22 = .ok (.ireturn, 1) := by decide +kernel
theorem dL_glueOf_23 : decode cL_glueOf 23 = .ok (.iconst 0, 1) := by decide +kernel
theorem dL_glueOf_24 : decode cL_glueOf 24 = .ok (.ireturn, 1) := by decide +kernel
theorem dL_strengthOf_0 : decode cL_strengthOf 0 = .ok (.aload_n 2, 1) := by decide +kernel
theorem dL_strengthOf_1 : decode cL_strengthOf 1 = .ok (.iconst 0, 1) := by decide +kernel
theorem dL_strengthOf_2 : decode cL_strengthOf 2 = .ok (.aload_n 0, 1) := by decide +kernel
theorem dL_strengthOf_3 : decode cL_strengthOf 3 = .ok (.iload_n 1, 1) := by decide +kernel
theorem dL_strengthOf_4 : decode cL_strengthOf 4 = .ok (.invokevirtual 40, 3) := by decide +kernel
theorem dL_strengthOf_7 : decode cL_strengthOf 7 = .ok (.i2l, 1) := by decide +kernel
theorem dL_strengthOf_8 : decode cL_strengthOf 8 = .ok (.lastore, 1) := by decide +kernel
theorem dL_strengthOf_9 : decode cL_strengthOf 9 = .ok (.goto 6, 3) := by decide +kernel
theorem dL_strengthOf_12 : decode cL_strengthOf 12 = .ok (.astore_n 3, 1) := by decide +kernel
theorem dL_strengthOf_13 : decode cL_strengthOf 13 = .ok (.iconst 1, 1) := by decide +kernel
theorem dL_strengthOf_14 : decode cL_strengthOf 14 = .ok (.ireturn, 1) := by decide +kernel
theorem dL_strengthOf_15 : decode cL_strengthOf 15 = .ok (.iconst 0, 1) := by decide +kernel
theorem dL_strengthOf_16 : decode cL_strengthOf 16 = .ok (.ireturn, 1) := by decide +kernel
theorem dL_brickAt_0 : decode cL_brickAt 0 = .ok (.aload_n 3, 1) := by decide +kernel
theorem dL_brickAt_1 : decode cL_brickAt 1 = .ok (.iconst 0, 1) := by decide +kernel
theorem dL_brickAt_2 : decode cL_brickAt 2 = .ok (.aload_n 0, 1) := by decide +kernel
theorem dL_brickAt_3 : decode cL_brickAt 3 = .ok (.iload_n 1, 1) := by decide +kernel
theorem dL_brickAt_4 : decode cL_brickAt 4 = .ok (.iload_n 2, 1) := by decide +kernel
theorem dL_brickAt_5 : decode cL_brickAt 5 = .ok (.invokevirtual 43, 3) := by decide +kernel
theorem dL_brickAt_8 : decode cL_brickAt 8 = .ok (.i2l, 1) := by decide +kernel
theorem dL_brickAt_9 : decode cL_brickAt 9 = .ok (.lastore, 1) := by decide +kernel
theorem dL_brickAt_10 : decode cL_brickAt 10 = .ok (.goto 11, 3) := by decide +kernel
theorem dL_brickAt_13 : decode cL_brickAt 13 = .ok (.astore 4, 2) := by decide +kernel
theorem dL_brickAt_15 : decode cL_brickAt 15 = .ok (.iconst 1, 1) := by decide +kernel
theorem dL_brickAt_16 : decode cL_brickAt 16 = .ok (.ireturn, 1) := by decide +kernel
theorem dL_brickAt_17 : decode cL_brickAt 17 = .ok (.astore 4, 2) := by decide +kernel
theorem dL_brickAt_19 : decode cL_brickAt 19 = .ok (.iconst 2, 1) := by decide +kernel
theorem dL_brickAt_20 : decode cL_brickAt 20 = .ok (.ireturn, 1) := by decide +kernel
theorem dL_brickAt_21 : decode cL_brickAt 21 = .ok (.iconst 0, 1) := by decide +kernel
theorem dL_brickAt_22 : decode cL_brickAt 22 = .ok (.ireturn, 1) := by decide +kernel
theorem dL_seed_0 : decode cL_seed 0 = .ok (.aload_n 1, 1) := by decide +kernel
theorem dL_seed_1 : decode cL_seed 1 = .ok (.iconst 0, 1) := by decide +kernel
theorem dL_seed_2 : decode cL_seed 2 = .ok (.aload_n 0, 1) := by decide +kernel
theorem dL_seed_3 : decode cL_seed 3 = .ok (.invokevirtual 49, 3) := by decide +kernel
theorem dL_seed_6 : decode cL_seed 6 = .ok (.i2l, 1) := by decide +kernel
theorem dL_seed_7 : decode cL_seed 7 = .ok (.lastore, 1) := by decide +kernel
theorem dL_seed_8 : decode cL_seed 8 = .ok (.goto 6, 3) := by decide +kernel
theorem dL_seed_11 : decode cL_seed 11 = .ok (.astore_n 2, 1) := by decide +kernel
theorem dL_seed_12 : decode cL_seed 12 = .ok (.iconst 1, 1) := by decide +kernel
theorem dL_seed_13 : decode cL_seed 13 = .ok (.ireturn, 1) := by decide +kernel
theorem dL_seed_14 : decode cL_seed 14 = .ok (.iconst 0, 1) := by decide +kernel
theorem dL_seed_15 : decode cL_seed 15 = .ok (.ireturn, 1) := by decide +kernel
theorem dL_hold_0 : decode cL_hold 0 = .ok (.aload_n 2, 1) := by decide +kernel
theorem dL_hold_1 : decode cL_hold 1 = .ok (.iconst 0, 1) := by decide +kernel
theorem dL_hold_2 : decode cL_hold 2 = .ok (.aload_n 0, 1) := by decide +kernel
theorem dL_hold_3 : decode cL_hold 3 = .ok (.iload_n 1, 1) := by decide +kernel
theorem dL_hold_4 : decode cL_hold 4 = .ok (.invokevirtual 53, 3) := by decide +kernel
theorem dL_hold_7 : decode cL_hold 7 = .ok (.i2l, 1) := by decide +kernel
theorem dL_hold_8 : decode cL_hold 8 = .ok (.lastore, 1) := by decide +kernel
theorem dL_hold_9 : decode cL_hold 9 = .ok (.goto 9, 3) := by decide +kernel
theorem dL_hold_12 : decode cL_hold 12 = .ok (.astore_n 3, 1) := by decide +kernel
theorem dL_hold_13 : decode cL_hold 13 = .ok (.iconst 1, 1) := by decide +kernel
theorem dL_hold_14 : decode cL_hold 14 = .ok (.ireturn, 1) := by decide +kernel
theorem dL_hold_15 : decode cL_hold 15 = .ok (.astore_n 3, 1) := by decide +kernel
theorem dL_hold_16 : decode cL_hold 16 = .ok (.iconst 2, 1) := by decide +kernel
theorem dL_hold_17 : decode cL_hold 17 = .ok (.ireturn, 1) := by decide +kernel
theorem dL_hold_18 : decode cL_hold 18 = .ok (.iconst 0, 1) := by decide +kernel
theorem dL_hold_19 : decode cL_hold 19 = .ok (.ireturn, 1) := by decide +kernel
theorem dL_holdAgain_0 : decode cL_holdAgain 0 = .ok (.aload_n 2, 1) := by decide +kernel
theorem dL_holdAgain_1 : decode cL_holdAgain 1 = .ok (.iconst 0, 1) := by decide +kernel
theorem dL_holdAgain_2 : decode cL_holdAgain 2 = .ok (.aload_n 0, 1) := by decide +kernel
theorem dL_holdAgain_3 : decode cL_holdAgain 3 = .ok (.iload_n 1, 1) := by decide +kernel
theorem dL_holdAgain_4 : decode cL_holdAgain 4 = .ok (.invokevirtual 56, 3) := by decide +kernel
theorem dL_holdAgain_7 : decode cL_holdAgain 7 = .ok (.i2l, 1) := by decide +kernel
theorem dL_holdAgain_8 : decode cL_holdAgain 8 = .ok (.lastore, 1) := by decide +kernel
theorem dL_holdAgain_9 : decode cL_holdAgain 9 = .ok (.goto 9, 3) := by decide +kernel
theorem dL_holdAgain_12 : decode cL_holdAgain 12 = .ok (.astore_n 3, 1) := by decide +kernel
theorem dL_holdAgain_13 : decode cL_holdAgain 13 = .ok (.iconst 1, 1) := by decide +kernel
theorem dL_holdAgain_14 : decode cL_holdAgain 14 = .ok (.ireturn, 1) := by decide +kernel
theorem dL_holdAgain_15 : decode cL_holdAgain 15 = .ok (.astore_n 3, 1) := by decide +kernel
theorem dL_holdAgain_16 : decode cL_holdAgain 16 = .ok (.iconst 2, 1) := by decide +kernel
theorem dL_holdAgain_17 : decode cL_holdAgain 17 = .ok (.ireturn, 1) := by decide +kernel
theorem dL_holdAgain_18 : decode cL_holdAgain 18 = .ok (.iconst 0, 1) := by decide +kernel
theorem dL_holdAgain_19 : decode cL_holdAgain 19 = .ok (.ireturn, 1) := by decide +kernel
theorem dL_wouldHold_0 : decode cL_wouldHold 0 = .ok (.aload 4, 2) := by decide +kernel
theorem dL_wouldHold_2 : decode cL_wouldHold 2 = .ok (.iconst 0, 1) := by decide +kernel
theorem dL_wouldHold_3 : decode cL_wouldHold 3 = .ok (.aload_n 0, 1) := by decide +kernel
theorem dL_wouldHold_4 : decode cL_wouldHold 4 = .ok (.iload_n 1, 1) := by decide +kernel
theorem dL_wouldHold_5 : decode cL_wouldHold 5 = .ok (.iload_n 2, 1) := by decide +kernel
theorem dL_wouldHold_6 : decode cL_wouldHold 6 = .ok (.iload_n 3, 1) := by decide +kernel
theorem dL_wouldHold_7 : decode cL_wouldHold 7 = .ok (.invokevirtual 59, 3) := by decide +kernel
theorem dL_wouldHold_10 : decode cL_wouldHold 10 = .ok (.i2l, 1) := by decide +kernel
theorem dL_wouldHold_11 : decode cL_wouldHold 11 = .ok (.lastore, 1) := by decide +kernel
theorem dL_wouldHold_12 : decode cL_wouldHold 12 = .ok (.goto 15, 3) := by decide +kernel
theorem dL_wouldHold_15 : decode cL_wouldHold 15 = .ok (.astore 5, 2) := by decide +kernel
theorem dL_wouldHold_17 : decode cL_wouldHold 17 = .ok (.iconst 1, 1) := by decide +kernel
theorem dL_wouldHold_18 : decode cL_wouldHold 18 = .ok (.ireturn, 1) := by decide +kernel
theorem dL_wouldHold_19 : decode cL_wouldHold 19 = .ok (.astore 5, 2) := by decide +kernel
theorem dL_wouldHold_21 : decode cL_wouldHold 21 = .ok (.iconst 2, 1) := by decide +kernel
theorem dL_wouldHold_22 : decode cL_wouldHold 22 = .ok (.ireturn, 1) := by decide +kernel
theorem dL_wouldHold_23 : decode cL_wouldHold 23 = .ok (.astore 5, 2) := by decide +kernel
theorem dL_wouldHold_25 : decode cL_wouldHold 25 = .ok (.iconst 3, 1) := by decide +kernel
theorem dL_wouldHold_26 : decode cL_wouldHold 26 = .ok (.ireturn, 1) := by decide +kernel
theorem dL_wouldHold_27 : decode cL_wouldHold 27 = .ok (.iconst 0, 1) := by decide +kernel
theorem dL_wouldHold_28 : decode cL_wouldHold 28 = .ok (.ireturn, 1) := by decide +kernel
theorem dL_stands_0 : decode cL_stands 0 = .ok (.aload_n 2, 1) := by decide +kernel
theorem dL_stands_1 : decode cL_stands 1 = .ok (.iconst 0, 1) := by decide +kernel
theorem dL_stands_2 : decode cL_stands 2 = .ok (.aload_n 0, 1) := by decide +kernel
theorem dL_stands_3 : decode cL_stands 3 = .ok (.iload_n 1, 1) := by decide +kernel
theorem dL_stands_4 : decode cL_stands 4 = .ok (.invokevirtual 62, 3) := by decide +kernel
theorem dL_stands_7 : decode cL_stands 7 = .ok (.ifCond .eq 7, 3) := by decide +kernel
theorem dL_stands_10 : decode cL_stands 10 = .ok (.lconst 1, 1) := by decide +kernel
theorem dL_stands_11 : decode cL_stands 11 = .ok (.goto 4, 3) := by decide +kernel
theorem dL_stands_14 : decode cL_stands 14 = .ok (.lconst 0, 1) := by decide +kernel
theorem dL_stands_15 : decode cL_stands 15 = .ok (.lastore, 1) := by decide +kernel
theorem dL_stands_16 : decode cL_stands 16 = .ok (.goto 9, 3) := by decide +kernel
theorem dL_stands_19 : decode cL_stands 19 = .ok (.astore_n 3, 1) := by decide +kernel
theorem dL_stands_20 : decode cL_stands 20 = .ok (.iconst 1, 1) := by decide +kernel
theorem dL_stands_21 : decode cL_stands 21 = .ok (.ireturn, 1) := by decide +kernel
theorem dL_stands_22 : decode cL_stands 22 = .ok (.astore_n 3, 1) := by decide +kernel
theorem dL_stands_23 : decode cL_stands 23 = .ok (.iconst 2, 1) := by decide +kernel
theorem dL_stands_24 : decode cL_stands 24 = .ok (.ireturn, 1) := by decide +kernel
theorem dL_stands_25 : decode cL_stands 25 = .ok (.iconst 0, 1) := by decide +kernel
theorem dL_stands_26 : decode cL_stands 26 = .ok (.ireturn, 1) := by decide +kernel
theorem dL_falls_0 : decode cL_falls 0 = .ok (.aload_n 2, 1) := by decide +kernel
theorem dL_falls_1 : decode cL_falls 1 = .ok (.iconst 0, 1) := by decide +kernel
theorem dL_falls_2 : decode cL_falls 2 = .ok (.aload_n 0, 1) := by decide +kernel
theorem dL_falls_3 : decode cL_falls 3 = .ok (.iload_n 1, 1) := by decide +kernel
theorem dL_falls_4 : decode cL_falls 4 = .ok (.invokevirtual 66, 3) := by decide +kernel
theorem dL_falls_7 : decode cL_falls 7 = .ok (.i2l, 1) := by decide +kernel
theorem dL_falls_8 : decode cL_falls 8 = .ok (.lastore, 1) := by decide +kernel
theorem dL_falls_9 : decode cL_falls 9 = .ok (.goto 9, 3) := by decide +kernel
theorem dL_falls_12 : decode cL_falls 12 = .ok (.astore_n 3, 1) := by decide +kernel
theorem dL_falls_13 : decode cL_falls 13 = .ok (.iconst 1, 1) := by decide +kernel
theorem dL_falls_14 : decode cL_falls 14 = .ok (.ireturn, 1) := by decide +kernel
theorem dL_falls_15 : decode cL_falls 15 = .ok (.astore_n 3, 1) := by decide +kernel
theorem dL_falls_16 : decode cL_falls 16 = .ok (.iconst 2, 1) := by decide +kernel
theorem dL_falls_17 : decode cL_falls 17 = .ok (.ireturn, 1) := by decide +kernel
theorem dL_falls_18 : decode cL_falls 18 = .ok (.iconst 0, 1) := by decide +kernel
theorem dL_falls_19 : decode cL_falls 19 = .ok (.ireturn, 1) := by decide +kernel
theorem dL_errorsAt_0 : decode cL_errorsAt 0 = .ok (.aload_n 2, 1) := by decide +kernel
theorem dL_errorsAt_1 : decode cL_errorsAt 1 = .ok (.iconst 0, 1) := by decide +kernel
theorem dL_errorsAt_2 : decode cL_errorsAt 2 = .ok (.aload_n 0, 1) := by decide +kernel
theorem dL_errorsAt_3 : decode cL_errorsAt 3 = .ok (.iload_n 1, 1) := by decide +kernel
theorem dL_errorsAt_4 : decode cL_errorsAt 4 = .ok (.invokevirtual 69, 3) := by decide +kernel
theorem dL_errorsAt_7 : decode cL_errorsAt 7 = .ok (.i2l, 1) := by decide +kernel
theorem dL_errorsAt_8 : decode cL_errorsAt 8 = .ok (.lastore, 1) := by decide +kernel
theorem dL_errorsAt_9 : decode cL_errorsAt 9 = .ok (.goto 9, 3) := by decide +kernel
theorem dL_errorsAt_12 : decode cL_errorsAt 12 = .ok (.astore_n 3, 1) := by decide +kernel
theorem dL_errorsAt_13 : decode cL_errorsAt 13 = .ok (.iconst 1, 1) := by decide +kernel
theorem dL_errorsAt_14 : decode cL_errorsAt 14 = .ok (.ireturn, 1) := by decide +kernel
theorem dL_errorsAt_15 : decode cL_errorsAt 15 = .ok (.astore_n 3, 1) := by decide +kernel
theorem dL_errorsAt_16 : decode cL_errorsAt 16 = .ok (.iconst 2, 1) := by decide +kernel
theorem dL_errorsAt_17 : decode cL_errorsAt 17 = .ok (.ireturn, 1) := by decide +kernel
theorem dL_errorsAt_18 : decode cL_errorsAt 18 = .ok (.iconst 0, 1) := by decide +kernel
theorem dL_errorsAt_19 : decode cL_errorsAt 19 = .ok (.ireturn, 1) := by decide +kernel
theorem dL_nextPlace_0 : decode cL_nextPlace 0 = .ok (.aload_n 1, 1) := by decide +kernel
theorem dL_nextPlace_1 : decode cL_nextPlace 1 = .ok (.iconst 0, 1) := by decide +kernel
theorem dL_nextPlace_2 : decode cL_nextPlace 2 = .ok (.aload_n 0, 1) := by decide +kernel
theorem dL_nextPlace_3 : decode cL_nextPlace 3 = .ok (.invokevirtual 72, 3) := by decide +kernel
theorem dL_nextPlace_6 : decode cL_nextPlace 6 = .ok (.i2l, 1) := by decide +kernel
theorem dL_nextPlace_7 : decode cL_nextPlace 7 = .ok (.lastore, 1) := by decide +kernel
theorem dL_nextPlace_8 : decode cL_nextPlace 8 = .ok (.goto 6, 3) := by decide +kernel
theorem dL_nextPlace_11 : decode cL_nextPlace 11 = .ok (.astore_n 2, 1) := by decide +kernel
theorem dL_nextPlace_12 : decode cL_nextPlace 12 = .ok (.iconst 1, 1) := by decide +kernel
theorem dL_nextPlace_13 : decode cL_nextPlace 13 = .ok (.ireturn, 1) := by decide +kernel
theorem dL_nextPlace_14 : decode cL_nextPlace 14 = .ok (.iconst 0, 1) := by decide +kernel
theorem dL_nextPlace_15 : decode cL_nextPlace 15 = .ok (.ireturn, 1) := by decide +kernel
theorem dL_nextBrick_0 : decode cL_nextBrick 0 = .ok (.aload_n 1, 1) := by decide +kernel
theorem dL_nextBrick_1 : decode cL_nextBrick 1 = .ok (.iconst 0, 1) := by decide +kernel
theorem dL_nextBrick_2 : decode cL_nextBrick 2 = .ok (.aload_n 0, 1) := by decide +kernel
theorem dL_nextBrick_3 : decode cL_nextBrick 3 = .ok (.invokevirtual 75, 3) := by decide +kernel
theorem dL_nextBrick_6 : decode cL_nextBrick 6 = .ok (.i2l, 1) := by decide +kernel
theorem dL_nextBrick_7 : decode cL_nextBrick 7 = .ok (.lastore, 1) := by decide +kernel
theorem dL_nextBrick_8 : decode cL_nextBrick 8 = .ok (.goto 6, 3) := by decide +kernel
theorem dL_nextBrick_11 : decode cL_nextBrick 11 = .ok (.astore_n 2, 1) := by decide +kernel
theorem dL_nextBrick_12 : decode cL_nextBrick 12 = .ok (.iconst 1, 1) := by decide +kernel
theorem dL_nextBrick_13 : decode cL_nextBrick 13 = .ok (.ireturn, 1) := by decide +kernel
theorem dL_nextBrick_14 : decode cL_nextBrick 14 = .ok (.iconst 0, 1) := by decide +kernel
theorem dL_nextBrick_15 : decode cL_nextBrick 15 = .ok (.ireturn, 1) := by decide +kernel
theorem dL_choices_0 : decode cL_choices 0 = .ok (.aload_n 2, 1) := by decide +kernel
theorem dL_choices_1 : decode cL_choices 1 = .ok (.iconst 0, 1) := by decide +kernel
theorem dL_choices_2 : decode cL_choices 2 = .ok (.aload_n 0, 1) := by decide +kernel
theorem dL_choices_3 : decode cL_choices 3 = .ok (.iload_n 1, 1) := by decide +kernel
theorem dL_choices_4 : decode cL_choices 4 = .ok (.invokevirtual 78, 3) := by decide +kernel
theorem dL_choices_7 : decode cL_choices 7 = .ok (.i2l, 1) := by decide +kernel
theorem dL_choices_8 : decode cL_choices 8 = .ok (.lastore, 1) := by decide +kernel
theorem dL_choices_9 : decode cL_choices 9 = .ok (.goto 9, 3) := by decide +kernel
theorem dL_choices_12 : decode cL_choices 12 = .ok (.astore_n 3, 1) := by decide +kernel
theorem dL_choices_13 : decode cL_choices 13 = .ok (.iconst 1, 1) := by decide +kernel
theorem dL_choices_14 : decode cL_choices 14 = .ok (.ireturn, 1) := by decide +kernel
theorem dL_choices_15 : decode cL_choices 15 = .ok (.astore_n 3, 1) := by decide +kernel
theorem dL_choices_16 : decode cL_choices 16 = .ok (.iconst 2, 1) := by decide +kernel
theorem dL_choices_17 : decode cL_choices 17 = .ok (.ireturn, 1) := by decide +kernel
theorem dL_choices_18 : decode cL_choices 18 = .ok (.iconst 0, 1) := by decide +kernel
theorem dL_choices_19 : decode cL_choices 19 = .ok (.ireturn, 1) := by decide +kernel
theorem dL_inRow_0 : decode cL_inRow 0 = .ok (.aload_n 3, 1) := by decide +kernel
theorem dL_inRow_1 : decode cL_inRow 1 = .ok (.iconst 0, 1) := by decide +kernel
theorem dL_inRow_2 : decode cL_inRow 2 = .ok (.aload_n 0, 1) := by decide +kernel
theorem dL_inRow_3 : decode cL_inRow 3 = .ok (.iload_n 1, 1) := by decide +kernel
theorem dL_inRow_4 : decode cL_inRow 4 = .ok (.iload_n 2, 1) := by decide +kernel
theorem dL_inRow_5 : decode cL_inRow 5 = .ok (.invokevirtual 81, 3) := by decide +kernel
theorem dL_inRow_8 : decode cL_inRow 8 = .ok (.i2l, 1) := by decide +kernel
theorem dL_inRow_9 : decode cL_inRow 9 = .ok (.lastore, 1) := by decide +kernel
theorem dL_inRow_10 : decode cL_inRow 10 = .ok (.goto 7, 3) := by decide +kernel
theorem dL_inRow_13 : decode cL_inRow 13 = .ok (.astore 4, 2) := by decide +kernel
