theorem dX6_commands_38 : decode cX6_commands 38 = .ok (.getfield 16, 3) := by decide +kernel
theorem dX6_commands_41 : decode cX6_commands 41 = .ok (.aload_n 0, 1) := by decide +kernel
theorem dX6_commands_42 : decode cX6_commands 42 = .ok (.getfield 12, 3) := by decide +kernel
theorem dX6_commands_45 : decode cX6_commands 45 = .ok (.invokevirtual 77, 3) := by decide +kernel
theorem dX6_commands_48 : decode cX6_commands 48 = .ok (.iconst 0, 1) := by decide +kernel
theorem dX6_commands_49 : decode cX6_commands 49 = .ok (.istore_n 1, 1) := by decide +kernel
theorem dX6_commands_50 : decode cX6_commands 50 = .ok (.iload_n 1, 1) := by decide +kernel
theorem dX6_commands_51 : decode cX6_commands 51 = .ok (.aload_n 0, 1) := by decide +kernel
theorem dX6_commands_52 : decode cX6_commands 52 = .ok (.getfield 63, 3) := by decide +kernel
theorem dX6_commands_55 : decode cX6_commands 55 = .ok (.getfield 262, 3) := by decide +kernel
theorem dX6_commands_58 : decode cX6_commands 58 = .ok (.if_icmp .ge 45, 3) := by decide +kernel
theorem dX6_commands_61 : decode cX6_commands 61 = .ok (.aload_n 0, 1) := by decide +kernel
theorem dX6_commands_62 : decode cX6_commands 62 = .ok (.iload_n 1, 1) := by decide +kernel
theorem dX6_commands_63 : decode cX6_commands 63 = .ok (.invokevirtual 265, 3) := by decide +kernel
theorem dX6_commands_66 : decode cX6_commands 66 = .ok (.iconst (-1), 1) := by decide +kernel
theorem dX6_commands_67 : decode cX6_commands 67 = .ok (.if_icmp .ne 30, 3) := by decide +kernel
theorem dX6_commands_70 : decode cX6_commands 70 = .ok (.aload_n 0, 1) := by decide +kernel
theorem dX6_commands_71 : decode cX6_commands 71 = .ok (.iload_n 1, 1) := by decide +kernel
theorem dX6_commands_72 : decode cX6_commands 72 = .ok (.putfield 56, 3) := by decide +kernel
theorem dX6_commands_75 : decode cX6_commands 75 = .ok (.aload_n 0, 1) := by decide +kernel
theorem dX6_commands_76 : decode cX6_commands 76 = .ok (.getfield 12, 3) := by decide +kernel
theorem dX6_commands_79 : decode cX6_commands 79 = .ok (.aload_n 0, 1) := by decide +kernel
theorem dX6_commands_80 : decode cX6_commands 80 = .ok (.getfield 16, 3) := by decide +kernel
theorem dX6_commands_83 : decode cX6_commands 83 = .ok (.invokevirtual 77, 3) := by decide +kernel
theorem dX6_commands_86 : decode cX6_commands 86 = .ok (.new 89, 3) := by decide +kernel
theorem dX6_commands_89 : decode cX6_commands 89 = .ok (.dup, 1) := by decide +kernel
theorem dX6_commands_90 : decode cX6_commands 90 = .ok (.ldc_w 268, 3) := by decide +kernel
theorem dX6_commands_93 : decode cX6_commands 93 = .ok (.invokespecial 93, 3) := by decide +kernel
theorem dX6_commands_96 : decode cX6_commands 96 = .ok (.athrow, 1) := by decide +kernel
theorem dX6_commands_97 : decode cX6_commands 97 = .ok (.iinc 1 1, 3) := by decide +kernel
theorem dX6_commands_100 : decode cX6_commands 100 = .ok (.goto (-50), 3) := by decide +kernel
theorem dX6_commands_103 : decode cX6_commands 103 = .ok (.aload_n 0, 1) := by decide +kernel
theorem dX6_commands_104 : decode cX6_commands 104 = .ok (.getfield 29, 3) := by decide +kernel
theorem dX6_commands_107 : decode cX6_commands 107 = .ok (.aload_n 0, 1) := by decide +kernel
theorem dX6_commands_108 : decode cX6_commands 108 = .ok (.getfield 16, 3) := by decide +kernel
theorem dX6_commands_111 : decode cX6_commands 111 = .ok (.invokevirtual 270, 3) := by decide +kernel
theorem dX6_commands_114 : decode cX6_commands 114 = .ok (.aload_n 0, 1) := by decide +kernel
theorem dX6_commands_115 : decode cX6_commands 115 = .ok (.getfield 63, 3) := by decide +kernel
theorem dX6_commands_118 : decode cX6_commands 118 = .ok (.getfield 262, 3) := by decide +kernel
theorem dX6_commands_121 : decode cX6_commands 121 = .ok (.ireturn, 1) := by decide +kernel
theorem dX6_faultPosition_0 : decode cX6_faultPosition 0 = .ok (.aload_n 0, 1) := by decide +kernel
theorem dX6_faultPosition_1 : decode cX6_faultPosition 1 = .ok (.getfield 67, 3) := by decide +kernel
theorem dX6_faultPosition_4 : decode cX6_faultPosition 4 = .ok (.ireturn, 1) := by decide +kernel
theorem dX6_reason_0 : decode cX6_reason 0 = .ok (.iload_n 1, 1) := by decide +kernel
theorem dX6_reason_1 : decode cX6_reason 1 = .ok (.ifCond .lt 8, 3) := by decide +kernel
theorem dX6_reason_4 : decode cX6_reason 4 = .ok (.iload_n 1, 1) := by decide +kernel
theorem dX6_reason_5 : decode cX6_reason 5 = .ok (.iconst 2, 1) := by decide +kernel
theorem dX6_reason_6 : decode cX6_reason 6 = .ok (.if_icmp .le 14, 3) := by decide +kernel
theorem dX6_reason_9 : decode cX6_reason 9 = .ok (.new 136, 3) := by decide +kernel
theorem dX6_reason_12 : decode cX6_reason 12 = .ok (.dup, 1) := by decide +kernel
theorem dX6_reason_13 : decode cX6_reason 13 = .ok (.ldc_w 273, 3) := by decide +kernel
theorem dX6_reason_16 : decode cX6_reason 16 = .ok (.invokespecial 140, 3) := by decide +kernel
theorem dX6_reason_19 : decode cX6_reason 19 = .ok (.athrow, 1) := by decide +kernel
theorem dX6_reason_20 : decode cX6_reason 20 = .ok (.aload_n 0, 1) := by decide +kernel
theorem dX6_reason_21 : decode cX6_reason 21 = .ok (.getfield 52, 3) := by decide +kernel
theorem dX6_reason_24 : decode cX6_reason 24 = .ok (.getfield 275, 3) := by decide +kernel
theorem dX6_reason_27 : decode cX6_reason 27 = .ok (.ifCond .ne 14, 3) := by decide +kernel
theorem dX6_reason_30 : decode cX6_reason 30 = .ok (.new 162, 3) := by decide +kernel
theorem dX6_reason_33 : decode cX6_reason 33 = .ok (.dup, 1) := by decide +kernel
theorem dX6_reason_34 : decode cX6_reason 34 = .ok (.ldc_w 278, 3) := by decide +kernel
theorem dX6_reason_37 : decode cX6_reason 37 = .ok (.invokespecial 166, 3) := by decide +kernel
theorem dX6_reason_40 : decode cX6_reason 40 = .ok (.athrow, 1) := by decide +kernel
theorem dX6_reason_41 : decode cX6_reason 41 = .ok (.iload_n 1, 1) := by decide +kernel
theorem dX6_reason_42 : decode cX6_reason 42 = .ok (.ifCond .ne 11, 3) := by decide +kernel
theorem dX6_reason_45 : decode cX6_reason 45 = .ok (.aload_n 0, 1) := by decide +kernel
theorem dX6_reason_46 : decode cX6_reason 46 = .ok (.getfield 52, 3) := by decide +kernel
theorem dX6_reason_49 : decode cX6_reason 49 = .ok (.getfield 275, 3) := by decide +kernel
theorem dX6_reason_52 : decode cX6_reason 52 = .ok (.ireturn, 1) := by decide +kernel
theorem dX6_reason_53 : decode cX6_reason 53 = .ok (.iload_n 1, 1) := by decide +kernel
theorem dX6_reason_54 : decode cX6_reason 54 = .ok (.iconst 1, 1) := by decide +kernel
theorem dX6_reason_55 : decode cX6_reason 55 = .ok (.if_icmp .ne 13, 3) := by decide +kernel
theorem dX6_reason_58 : decode cX6_reason 58 = .ok (.aload_n 0, 1) := by decide +kernel
theorem dX6_reason_59 : decode cX6_reason 59 = .ok (.getfield 52, 3) := by decide +kernel
theorem dX6_reason_62 : decode cX6_reason 62 = .ok (.getfield 280, 3) := by decide +kernel
theorem dX6_reason_65 : decode cX6_reason 65 = .ok (.goto 7, 3) := by decide +kernel
theorem dX6_reason_68 : decode cX6_reason 68 = .ok (.aload_n 0, 1) := by decide +kernel
theorem dX6_reason_69 : decode cX6_reason 69 = .ok (.getfield 56, 3) := by decide +kernel
theorem dX6_reason_72 : decode cX6_reason 72 = .ok (.ireturn, 1) := by decide +kernel
theorem dX6_line_0 : decode cX6_line 0 = .ok (.iload_n 1, 1) := by decide +kernel
theorem dX6_line_1 : decode cX6_line 1 = .ok (.ifCond .lt 9, 3) := by decide +kernel
theorem dX6_line_4 : decode cX6_line 4 = .ok (.iload_n 1, 1) := by decide +kernel
theorem dX6_line_5 : decode cX6_line 5 = .ok (.bipush 6, 2) := by decide +kernel
theorem dX6_line_7 : decode cX6_line 7 = .ok (.if_icmp .lt 14, 3) := by decide +kernel
theorem dX6_line_10 : decode cX6_line 10 = .ok (.new 128, 3) := by decide +kernel
theorem dX6_line_13 : decode cX6_line 13 = .ok (.dup, 1) := by decide +kernel
theorem dX6_line_14 : decode cX6_line 14 = .ok (.ldc_w 283, 3) := by decide +kernel
theorem dX6_line_17 : decode cX6_line 17 = .ok (.invokespecial 132, 3) := by decide +kernel
theorem dX6_line_20 : decode cX6_line 20 = .ok (.athrow, 1) := by decide +kernel
theorem dX6_line_21 : decode cX6_line 21 = .ok (.aload_n 0, 1) := by decide +kernel
theorem dX6_line_22 : decode cX6_line 22 = .ok (.iconst 0, 1) := by decide +kernel
theorem dX6_line_23 : decode cX6_line 23 = .ok (.putfield 74, 3) := by decide +kernel
theorem dX6_line_26 : decode cX6_line 26 = .ok (.iconst 0, 1) := by decide +kernel
theorem dX6_line_27 : decode cX6_line 27 = .ok (.istore_n 2, 1) := by decide +kernel
theorem dX6_line_28 : decode cX6_line 28 = .ok (.iload_n 2, 1) := by decide +kernel
theorem dX6_line_29 : decode cX6_line 29 = .ok (.bipush 7, 2) := by decide +kernel
theorem dX6_line_31 : decode cX6_line 31 = .ok (.if_icmp .ge 26, 3) := by decide +kernel
theorem dX6_line_34 : decode cX6_line 34 = .ok (.aload_n 0, 1) := by decide +kernel
theorem dX6_line_35 : decode cX6_line 35 = .ok (.aload_n 0, 1) := by decide +kernel
theorem dX6_line_36 : decode cX6_line 36 = .ok (.getfield 12, 3) := by decide +kernel
theorem dX6_line_39 : decode cX6_line 39 = .ok (.iload_n 1, 1) := by decide +kernel
theorem dX6_line_40 : decode cX6_line 40 = .ok (.bipush 7, 2) := by decide +kernel
theorem dX6_line_42 : decode cX6_line 42 = .ok (.imul, 1) := by decide +kernel
theorem dX6_line_43 : decode cX6_line 43 = .ok (.iload_n 2, 1) := by decide +kernel
theorem dX6_line_44 : decode cX6_line 44 = .ok (.iadd, 1) := by decide +kernel
theorem dX6_line_45 : decode cX6_line 45 = .ok (.invokevirtual 159, 3) := by decide +kernel
theorem dX6_line_48 : decode cX6_line 48 = .ok (.invokevirtual 285, 3) := by decide +kernel
theorem dX6_line_51 : decode cX6_line 51 = .ok (.iinc 2 1, 3) := by decide +kernel
theorem dX6_line_54 : decode cX6_line 54 = .ok (.goto (-26), 3) := by decide +kernel
theorem dX6_line_57 : decode cX6_line 57 = .ok (.aload_n 0, 1) := by decide +kernel
theorem dX6_line_58 : decode cX6_line 58 = .ok (.getfield 74, 3) := by decide +kernel
theorem dX6_line_61 : decode cX6_line 61 = .ok (.ireturn, 1) := by decide +kernel
theorem dX6_character_0 : decode cX6_character 0 = .ok (.iload_n 1, 1) := by decide +kernel
theorem dX6_character_1 : decode cX6_character 1 = .ok (.ifCond .lt 11, 3) := by decide +kernel
theorem dX6_character_4 : decode cX6_character 4 = .ok (.iload_n 1, 1) := by decide +kernel
theorem dX6_character_5 : decode cX6_character 5 = .ok (.aload_n 0, 1) := by decide +kernel
theorem dX6_character_6 : decode cX6_character 6 = .ok (.getfield 74, 3) := by decide +kernel
theorem dX6_character_9 : decode cX6_character 9 = .ok (.if_icmp .lt 14, 3) := by decide +kernel
theorem dX6_character_12 : decode cX6_character 12 = .ok (.new 128, 3) := by decide +kernel
theorem dX6_character_15 : decode cX6_character 15 = .ok (.dup, 1) := by decide +kernel
theorem dX6_character_16 : decode cX6_character 16 = .ok (.ldc_w 289, 3) := by decide +kernel
theorem dX6_character_19 : decode cX6_character 19 = .ok (.invokespecial 132, 3) := by decide +kernel
theorem dX6_character_22 : decode cX6_character 22 = .ok (.athrow, 1) := by decide +kernel
theorem dX6_character_23 : decode cX6_character 23 = .ok (.aload_n 0, 1) := by decide +kernel
theorem dX6_character_24 : decode cX6_character 24 = .ok (.getfield 70, 3) := by decide +kernel
theorem dX6_character_27 : decode cX6_character 27 = .ok (.iload_n 1, 1) := by decide +kernel
theorem dX6_character_28 : decode cX6_character 28 = .ok (.caload, 1) := by decide +kernel
theorem dX6_character_29 : decode cX6_character 29 = .ok (.ireturn, 1) := by decide +kernel
theorem dX6_meanHold_0 : decode cX6_meanHold 0 = .ok (.aload_n 0, 1) := by decide +kernel
theorem dX6_meanHold_1 : decode cX6_meanHold 1 = .ok (.getfield 12, 3) := by decide +kernel
theorem dX6_meanHold_4 : decode cX6_meanHold 4 = .ok (.invokevirtual 199, 3) := by decide +kernel
theorem dX6_meanHold_7 : decode cX6_meanHold 7 = .ok (.istore_n 1, 1) := by decide +kernel
theorem dX6_meanHold_8 : decode cX6_meanHold 8 = .ok (.iload_n 1, 1) := by decide +kernel
theorem dX6_meanHold_9 : decode cX6_meanHold 9 = .ok (.ifCond .ne 14, 3) := by decide +kernel
theorem dX6_meanHold_12 : decode cX6_meanHold 12 = .ok (.new 291, 3) := by decide +kernel
theorem dX6_meanHold_15 : decode cX6_meanHold 15 = .ok (.dup, 1) := by decide +kernel
theorem dX6_meanHold_16 : decode cX6_meanHold 16 = .ok (.ldc_w 293, 3) := by decide +kernel
theorem dX6_meanHold_19 : decode cX6_meanHold 19 = .ok (.invokespecial 295, 3) := by decide +kernel
theorem dX6_meanHold_22 : decode cX6_meanHold 22 = .ok (.athrow, 1) := by decide +kernel
theorem dX6_meanHold_23 : decode cX6_meanHold 23 = .ok (.aload_n 0, 1) := by decide +kernel
theorem dX6_meanHold_24 : decode cX6_meanHold 24 = .ok (.getfield 12, 3) := by decide +kernel
theorem dX6_meanHold_27 : decode cX6_meanHold 27 = .ok (.iconst (-1), 1) := by decide +kernel
theorem dX6_meanHold_28 : decode cX6_meanHold 28 = .ok (.invokevirtual 184, 3) := by decide +kernel
theorem dX6_meanHold_31 : decode cX6_meanHold 31 = .ok (.i2d, 1) := by decide +kernel
theorem dX6_meanHold_32 : decode cX6_meanHold 32 = .ok (.iload_n 1, 1) := by decide +kernel
theorem dX6_meanHold_33 : decode cX6_meanHold 33 = .ok (.i2d, 1) := by decide +kernel
theorem dX6_meanHold_34 : decode cX6_meanHold 34 = .ok (.ddiv, 1) := by decide +kernel
theorem dX6_meanHold_35 : decode cX6_meanHold 35 = .ok (.dreturn, 1) := by decide +kernel
theorem dX6_standing_0 : decode cX6_standing 0 = .ok (.aload_n 0, 1) := by decide +kernel
theorem dX6_standing_1 : decode cX6_standing 1 = .ok (.getfield 12, 3) := by decide +kernel
theorem dX6_standing_4 : decode cX6_standing 4 = .ok (.invokevirtual 199, 3) := by decide +kernel
theorem dX6_standing_7 : decode cX6_standing 7 = .ok (.istore_n 1, 1) := by decide +kernel
theorem dX6_standing_8 : decode cX6_standing 8 = .ok (.iload_n 1, 1) := by decide +kernel
theorem dX6_standing_9 : decode cX6_standing 9 = .ok (.ifCond .ne 14, 3) := by decide +kernel
theorem dX6_standing_12 : decode cX6_standing 12 = .ok (.new 291, 3) := by decide +kernel
theorem dX6_standing_15 : decode cX6_standing 15 = .ok (.dup, 1) := by decide +kernel
theorem dX6_standing_16 : decode cX6_standing 16 = .ok (.ldc_w 293, 3) := by decide +kernel
theorem dX6_standing_19 : decode cX6_standing 19 = .ok (.invokespecial 295, 3) := by decide +kernel
theorem dX6_standing_22 : decode cX6_standing 22 = .ok (.athrow, 1) := by decide +kernel
theorem dX6_standing_23 : decode cX6_standing 23 = .ok (.aload_n 0, 1) := by decide +kernel
theorem dX6_standing_24 : decode cX6_standing 24 = .ok (.getfield 36, 3) := by decide +kernel
theorem dX6_standing_27 : decode cX6_standing 27 = .ok (.aload_n 0, 1) := by decide +kernel
theorem dX6_standing_28 : decode cX6_standing 28 = .ok (.getfield 12, 3) := by decide +kernel
theorem dX6_standing_31 : decode cX6_standing 31 = .ok (.iconst (-1), 1) := by decide +kernel
theorem dX6_standing_32 : decode cX6_standing 32 = .ok (.invokevirtual 193, 3) := by decide +kernel
theorem dX6_standing_35 : decode cX6_standing 35 = .ok (.i2f, 1) := by decide +kernel
theorem dX6_standing_36 : decode cX6_standing 36 = .ok (.iload_n 1, 1) := by decide +kernel
theorem dX6_standing_37 : decode cX6_standing 37 = .ok (.i2f, 1) := by decide +kernel
theorem dX6_standing_38 : decode cX6_standing 38 = .ok (.fdiv, 1) := by decide +kernel
theorem dX6_standing_39 : decode cX6_standing 39 = .ok (.freturn, 1) := by decide +kernel
theorem dX6_account_0 : decode cX6_account 0 = .ok (.iload_n 1, 1) := by decide +kernel
theorem dX6_account_1 : decode cX6_account 1 = .ok (.tableswitch 136 0 9 #[55, 63, 71, 79, 87, 95, 103, 112, 120, 128], 55) := by decide +kernel
theorem dX6_account_56 : decode cX6_account 56 = .ok (.aload_n 0, 1) := by decide +kernel
theorem dX6_account_57 : decode cX6_account 57 = .ok (.getfield 12, 3) := by decide +kernel
theorem dX6_account_60 : decode cX6_account 60 = .ok (.getfield 296, 3) := by decide +kernel
theorem dX6_account_63 : decode cX6_account 63 = .ok (.ireturn, 1) := by decide +kernel
theorem dX6_account_64 : decode cX6_account 64 = .ok (.aload_n 0, 1) := by decide +kernel
theorem dX6_account_65 : decode cX6_account 65 = .ok (.getfield 12, 3) := by decide +kernel
theorem dX6_account_68 : decode cX6_account 68 = .ok (.invokevirtual 199, 3) := by decide +kernel
theorem dX6_account_71 : decode cX6_account 71 = .ok (.ireturn, 1) := by decide +kernel
theorem dX6_account_72 : decode cX6_account 72 = .ok (.aload_n 0, 1) := by decide +kernel
theorem dX6_account_73 : decode cX6_account 73 = .ok (.getfield 12, 3) := by decide +kernel
theorem dX6_account_76 : decode cX6_account 76 = .ok (.getfield 299, 3) := by decide +kernel
theorem dX6_account_79 : decode cX6_account 79 = .ok (.ireturn, 1) := by decide +kernel
theorem dX6_account_80 : decode cX6_account 80 = .ok (.aload_n 0, 1) := by decide +kernel
theorem dX6_account_81 : decode cX6_account 81 = .ok (.getfield 12, 3) := by decide +kernel
theorem dX6_account_84 : decode cX6_account 84 = .ok (.getfield 302, 3) := by decide +kernel
theorem dX6_account_87 : decode cX6_account 87 = .ok (.ireturn, 1) := by decide +kernel
theorem dX6_account_88 : decode cX6_account 88 = .ok (.aload_n 0, 1) := by decide +kernel
theorem dX6_account_89 : decode cX6_account 89 = .ok (.getfield 12, 3) := by decide +kernel
theorem dX6_account_92 : decode cX6_account 92 = .ok (.getfield 305, 3) := by decide +kernel
theorem dX6_account_95 : decode cX6_account 95 = .ok (.ireturn, 1) := by decide +kernel
theorem dX6_account_96 : decode cX6_account 96 = .ok (.aload_n 0, 1) := by decide +kernel
theorem dX6_account_97 : decode cX6_account 97 = .ok (.getfield 12, 3) := by decide +kernel
theorem dX6_account_100 : decode cX6_account 100 = .ok (.getfield 308, 3) := by decide +kernel
theorem dX6_account_103 : decode cX6_account 103 = .ok (.ireturn, 1) := by decide +kernel
theorem dX6_account_104 : decode cX6_account 104 = .ok (.aload_n 0, 1) := by decide +kernel
theorem dX6_account_105 : decode cX6_account 105 = .ok (.getfield 12, 3) := by decide +kernel
theorem dX6_account_108 : decode cX6_account 108 = .ok (.iconst (-1), 1) := by decide +kernel
theorem dX6_account_109 : decode cX6_account 109 = .ok (.invokevirtual 184, 3) := by decide +kernel
theorem dX6_account_112 : decode cX6_account 112 = .ok (.ireturn, 1) := by decide +kernel
theorem dX6_account_113 : decode cX6_account 113 = .ok (.aload_n 0, 1) := by decide +kernel
theorem dX6_account_114 : decode cX6_account 114 = .ok (.getfield 12, 3) := by decide +kernel
theorem dX6_account_117 : decode cX6_account 117 = .ok (.invokevirtual 311, 3) := by decide +kernel
theorem dX6_account_120 : decode cX6_account 120 = .ok (.ireturn, 1) := by decide +kernel
theorem dX6_account_121 : decode cX6_account 121 = .ok (.aload_n 0, 1) := by decide +kernel
theorem dX6_account_122 : decode cX6_account 122 = .ok (.getfield 29, 3) := by decide +kernel
theorem dX6_account_125 : decode cX6_account 125 = .ok (.getfield 314, 3) := by decide +kernel
theorem dX6_account_128 : decode cX6_account 128 = .ok (.ireturn, 1) := by decide +kernel
theorem dX6_account_129 : decode cX6_account 129 = .ok (.aload_n 0, 1) := by decide +kernel
theorem dX6_account_130 : decode cX6_account 130 = .ok (.getfield 63, 3) := by decide +kernel
theorem dX6_account_133 : decode cX6_account 133 = .ok (.getfield 317, 3) := by decide +kernel
theorem dX6_account_136 : decode cX6_account 136 = .ok (.ireturn, 1) := by decide +kernel
theorem dX6_account_137 : decode cX6_account 137 = .ok (.new 136, 3) := by decide +kernel
theorem dX6_account_140 : decode cX6_account 140 = .ok (.dup, 1) := by decide +kernel
theorem dX6_account_141 : decode cX6_account 141 = .ok (.ldc_w 320, 3) := by decide +kernel
theorem dX6_account_144 : decode cX6_account 144 = .ok (.invokespecial 140, 3) := by decide +kernel
theorem dX6_account_147 : decode cX6_account 147 = .ok (.athrow, 1) := by decide +kernel
theorem dX6_undo_0 : decode cX6_undo 0 = .ok (.aload_n 0, 1) := by decide +kernel
theorem dX6_undo_1 : decode cX6_undo 1 = .ok (.getfield 29, 3) := by decide +kernel
theorem dX6_undo_4 : decode cX6_undo 4 = .ok (.getfield 314, 3) := by decide +kernel
theorem dX6_undo_7 : decode cX6_undo 7 = .ok (.ifCond .ne 14, 3) := by decide +kernel
theorem dX6_undo_10 : decode cX6_undo 10 = .ok (.new 245, 3) := by decide +kernel
theorem dX6_undo_13 : decode cX6_undo 13 = .ok (.dup, 1) := by decide +kernel
theorem dX6_undo_14 : decode cX6_undo 14 = .ok (.ldc_w 322, 3) := by decide +kernel
theorem dX6_undo_17 : decode cX6_undo 17 = .ok (.invokespecial 249, 3) := by decide +kernel
theorem dX6_undo_20 : decode cX6_undo 20 = .ok (.athrow, 1) := by decide +kernel
theorem dX6_undo_21 : decode cX6_undo 21 = .ok (.aload_n 0, 1) := by decide +kernel
theorem dX6_undo_22 : decode cX6_undo 22 = .ok (.getfield 29, 3) := by decide +kernel
theorem dX6_undo_25 : decode cX6_undo 25 = .ok (.aload_n 0, 1) := by decide +kernel
theorem dX6_undo_26 : decode cX6_undo 26 = .ok (.getfield 12, 3) := by decide +kernel
theorem dX6_undo_29 : decode cX6_undo 29 = .ok (.invokevirtual 324, 3) := by decide +kernel
theorem dX6_undo_32 : decode cX6_undo 32 = .ok (.aload_n 0, 1) := by decide +kernel
theorem dX6_undo_33 : decode cX6_undo 33 = .ok (.getfield 29, 3) := by decide +kernel
theorem dX6_undo_36 : decode cX6_undo 36 = .ok (.getfield 314, 3) := by decide +kernel
theorem dX6_undo_39 : decode cX6_undo 39 = .ok (.ireturn, 1) := by decide +kernel
theorem dX6_save_0 : decode cX6_save 0 = .ok (.aload_n 0, 1) := by decide +kernel
theorem dX6_save_1 : decode cX6_save 1 = .ok (.getfield 19, 3) := by decide +kernel
theorem dX6_save_4 : decode cX6_save 4 = .ok (.aload_n 0, 1) := by decide +kernel
theorem dX6_save_5 : decode cX6_save 5 = .ok (.getfield 12, 3) := by decide +kernel
theorem dX6_save_8 : decode cX6_save 8 = .ok (.invokevirtual 77, 3) := by decide +kernel
theorem dX6_save_11 : decode cX6_save 11 = .ok (.aload_n 0, 1) := by decide +kernel
theorem dX6_save_12 : decode cX6_save 12 = .ok (.iconst 1, 1) := by decide +kernel
theorem dX6_save_13 : decode cX6_save 13 = .ok (.putfield 22, 3) := by decide +kernel
theorem dX6_save_16 : decode cX6_save 16 = .ok (.aload_n 0, 1) := by decide +kernel
theorem dX6_save_17 : decode cX6_save 17 = .ok (.getfield 12, 3) := by decide +kernel
theorem dX6_save_20 : decode cX6_save 20 = .ok (.invokevirtual 199, 3) := by decide +kernel
theorem dX6_save_23 : decode cX6_save 23 = .ok (.ireturn, 1) := by decide +kernel
theorem dX6_restore_0 : decode cX6_restore 0 = .ok (.aload_n 0, 1) := by decide +kernel
theorem dX6_restore_1 : decode cX6_restore 1 = .ok (.getfield 22, 3) := by decide +kernel
theorem dX6_restore_4 : decode cX6_restore 4 = .ok (.ifCond .ne 14, 3) := by decide +kernel
theorem dX6_restore_7 : decode cX6_restore 7 = .ok (.new 245, 3) := by decide +kernel
theorem dX6_restore_10 : decode cX6_restore 10 = .ok (.dup, 1) := by decide +kernel
theorem dX6_restore_11 : decode cX6_restore 11 = .ok (.ldc_w 327, 3) := by decide +kernel
theorem dX6_restore_14 : decode cX6_restore 14 = .ok (.invokespecial 249, 3) := by decide +kernel
theorem dX6_restore_17 : decode cX6_restore 17 = .ok (.athrow, 1) := by decide +kernel
theorem dX6_restore_18 : decode cX6_restore 18 = .ok (.aload_n 0, 1) := by decide +kernel
theorem dX6_restore_19 : decode cX6_restore 19 = .ok (.getfield 12, 3) := by decide +kernel
theorem dX6_restore_22 : decode cX6_restore 22 = .ok (.aload_n 0, 1) := by decide +kernel
theorem dX6_restore_23 : decode cX6_restore 23 = .ok (.getfield 19, 3) := by decide +kernel
theorem dX6_restore_26 : decode cX6_restore 26 = .ok (.invokevirtual 77, 3) := by decide +kernel
theorem dX6_restore_29 : decode cX6_restore 29 = .ok (.aload_n 0, 1) := by decide +kernel
theorem dX6_restore_30 : decode cX6_restore 30 = .ok (.getfield 29, 3) := by decide +kernel
theorem dX6_restore_33 : decode cX6_restore 33 = .ok (.invokevirtual 329, 3) := by decide +kernel
theorem dX6_restore_36 : decode cX6_restore 36 = .ok (.aload_n 0, 1) := by decide +kernel
theorem dX6_restore_37 : decode cX6_restore 37 = .ok (.getfield 12, 3) := by decide +kernel
theorem dX6_restore_40 : decode cX6_restore 40 = .ok (.invokevirtual 199, 3) := by decide +kernel
theorem dX6_restore_43 : decode cX6_restore 43 = .ok (.ireturn, 1) := by decide +kernel
theorem dX6_isPlace_0 : decode cX6_isPlace 0 = .ok (.iload_n 0, 1) := by decide +kernel
theorem dX6_isPlace_1 : decode cX6_isPlace 1 = .ok (.ifCond .lt 13, 3) := by decide +kernel
theorem dX6_isPlace_4 : decode cX6_isPlace 4 = .ok (.iload_n 0, 1) := by decide +kernel
theorem dX6_isPlace_5 : decode cX6_isPlace 5 = .ok (.bipush 42, 2) := by decide +kernel
theorem dX6_isPlace_7 : decode cX6_isPlace 7 = .ok (.if_icmp .ge 7, 3) := by decide +kernel
theorem dX6_isPlace_10 : decode cX6_isPlace 10 = .ok (.iconst 1, 1) := by decide +kernel
theorem dX6_isPlace_11 : decode cX6_isPlace 11 = .ok (.goto 4, 3) := by decide +kernel
theorem dX6_isPlace_14 : decode cX6_isPlace 14 = .ok (.iconst 0, 1) := by decide +kernel
theorem dX6_isPlace_15 : decode cX6_isPlace 15 = .ok (.ireturn, 1) := by decide +kernel
theorem dX6_isTurnOrSide_0 : decode cX6_isTurnOrSide 0 = .ok (.iload_n 0, 1) := by decide +kernel
theorem dX6_isTurnOrSide_1 : decode cX6_isTurnOrSide 1 = .ok (.ifCond .lt 12, 3) := by decide +kernel
theorem dX6_isTurnOrSide_4 : decode cX6_isTurnOrSide 4 = .ok (.iload_n 0, 1) := by decide +kernel
theorem dX6_isTurnOrSide_5 : decode cX6_isTurnOrSide 5 = .ok (.iconst 4, 1) := by decide +kernel
theorem dX6_isTurnOrSide_6 : decode cX6_isTurnOrSide 6 = .ok (.if_icmp .ge 7, 3) := by decide +kernel
theorem dX6_isTurnOrSide_9 : decode cX6_isTurnOrSide 9 = .ok (.iconst 1, 1) := by decide +kernel
theorem dX6_isTurnOrSide_10 : decode cX6_isTurnOrSide 10 = .ok (.goto 4, 3) := by decide +kernel
theorem dX6_isTurnOrSide_13 : decode cX6_isTurnOrSide 13 = .ok (.iconst 0, 1) := by decide +kernel
theorem dX6_isTurnOrSide_14 : decode cX6_isTurnOrSide 14 = .ok (.ireturn, 1) := by decide +kernel
theorem dX6_brickOf_0 : decode cX6_brickOf 0 = .ok (.iload_n 0, 1) := by decide +kernel
theorem dX6_brickOf_1 : decode cX6_brickOf 1 = .ok (.iconst 4, 1) := by decide +kernel
theorem dX6_brickOf_2 : decode cX6_brickOf 2 = .ok (.imul, 1) := by decide +kernel
theorem dX6_brickOf_3 : decode cX6_brickOf 3 = .ok (.iload_n 1, 1) := by decide +kernel
theorem dX6_brickOf_4 : decode cX6_brickOf 4 = .ok (.iadd, 1) := by decide +kernel
theorem dX6_brickOf_5 : decode cX6_brickOf 5 = .ok (.ireturn, 1) := by decide +kernel
theorem dX6_kindOf_0 : decode cX6_kindOf 0 = .ok (.iload_n 0, 1) := by decide +kernel
theorem dX6_kindOf_1 : decode cX6_kindOf 1 = .ok (.iconst 4, 1) := by decide +kernel
theorem dX6_kindOf_2 : decode cX6_kindOf 2 = .ok (.idiv, 1) := by decide +kernel
theorem dX6_kindOf_3 : decode cX6_kindOf 3 = .ok (.ireturn, 1) := by decide +kernel
theorem dX6_turnOf_0 : decode cX6_turnOf 0 = .ok (.iload_n 0, 1) := by decide +kernel
theorem dX6_turnOf_1 : decode cX6_turnOf 1 = .ok (.iconst 4, 1) := by decide +kernel
theorem dX6_turnOf_2 : decode cX6_turnOf 2 = .ok (.irem, 1) := by decide +kernel
theorem dX6_turnOf_3 : decode cX6_turnOf 3 = .ok (.ireturn, 1) := by decide +kernel
theorem dX6_opposite_0 : decode cX6_opposite 0 = .ok (.iload_n 0, 1) := by decide +kernel
theorem dX6_opposite_1 : decode cX6_opposite 1 = .ok (.iconst 2, 1) := by decide +kernel
theorem dX6_opposite_2 : decode cX6_opposite 2 = .ok (.iadd, 1) := by decide +kernel
theorem dX6_opposite_3 : decode cX6_opposite 3 = .ok (.iconst 4, 1) := by decide +kernel
theorem dX6_opposite_4 : decode cX6_opposite 4 = .ok (.irem, 1) := by decide +kernel
theorem dX6_opposite_5 : decode cX6_opposite 5 = .ok (.ireturn, 1) := by decide +kernel
theorem dX6_beside_0 : decode cX6_beside 0 = .ok (.iload_n 0, 1) := by decide +kernel
theorem dX6_beside_1 : decode cX6_beside 1 = .ok (.bipush 7, 2) := by decide +kernel
theorem dX6_beside_3 : decode cX6_beside 3 = .ok (.irem, 1) := by decide +kernel
theorem dX6_beside_4 : decode cX6_beside 4 = .ok (.istore_n 2, 1) := by decide +kernel
theorem dX6_beside_5 : decode cX6_beside 5 = .ok (.iload_n 1, 1) := by decide +kernel
theorem dX6_beside_6 : decode cX6_beside 6 = .ok (.tableswitch 70 0 2 #[26, 41, 55], 26) := by decide +kernel
theorem dX6_beside_32 : decode cX6_beside 32 = .ok (.iload_n 0, 1) := by decide +kernel
theorem dX6_beside_33 : decode cX6_beside 33 = .ok (.bipush 7, 2) := by decide +kernel
theorem dX6_beside_35 : decode cX6_beside 35 = .ok (.if_icmp .ge 7, 3) := by decide +kernel
theorem dX6_beside_38 : decode cX6_beside 38 = .ok (.iconst (-1), 1) := by decide +kernel
theorem dX6_beside_39 : decode cX6_beside 39 = .ok (.goto 7, 3) := by decide +kernel
theorem dX6_beside_42 : decode cX6_beside 42 = .ok (.iload_n 0, 1) := by decide +kernel
theorem dX6_beside_43 : decode cX6_beside 43 = .ok (.bipush 7, 2) := by decide +kernel
theorem dX6_beside_45 : decode cX6_beside 45 = .ok (.isub, 1) := by decide +kernel
theorem dX6_beside_46 : decode cX6_beside 46 = .ok (.ireturn, 1) := by decide +kernel
theorem dX6_beside_47 : decode cX6_beside 47 = .ok (.iload_n 2, 1) := by decide +kernel
theorem dX6_beside_48 : decode cX6_beside 48 = .ok (.bipush 6, 2) := by decide +kernel
theorem dX6_beside_50 : decode cX6_beside 50 = .ok (.if_icmp .ne 7, 3) := by decide +kernel
theorem dX6_beside_53 : decode cX6_beside 53 = .ok (.iconst (-1), 1) := by decide +kernel
theorem dX6_beside_54 : decode cX6_beside 54 = .ok (.goto 6, 3) := by decide +kernel
theorem dX6_beside_57 : decode cX6_beside 57 = .ok (.iload_n 0, 1) := by decide +kernel
theorem dX6_beside_58 : decode cX6_beside 58 = .ok (.iconst 1, 1) := by decide +kernel
theorem dX6_beside_59 : decode cX6_beside 59 = .ok (.iadd, 1) := by decide +kernel
theorem dX6_beside_60 : decode cX6_beside 60 = .ok (.ireturn, 1) := by decide +kernel
theorem dX6_beside_61 : decode cX6_beside 61 = .ok (.iload_n 0, 1) := by decide +kernel
theorem dX6_beside_62 : decode cX6_beside 62 = .ok (.bipush 35, 2) := by decide +kernel
theorem dX6_beside_64 : decode cX6_beside 64 = .ok (.if_icmp .lt 7, 3) := by decide +kernel
theorem dX6_beside_67 : decode cX6_beside 67 = .ok (.iconst (-1), 1) := by decide +kernel
theorem dX6_beside_68 : decode cX6_beside 68 = .ok (.goto 7, 3) := by decide +kernel
theorem dX6_beside_71 : decode cX6_beside 71 = .ok (.iload_n 0, 1) := by decide +kernel
theorem dX6_beside_72 : decode cX6_beside 72 = .ok (.bipush 7, 2) := by decide +kernel
theorem dX6_beside_74 : decode cX6_beside 74 = .ok (.iadd, 1) := by decide +kernel
theorem dX6_beside_75 : decode cX6_beside 75 = .ok (.ireturn, 1) := by decide +kernel
theorem dX6_beside_76 : decode cX6_beside 76 = .ok (.iload_n 2, 1) := by decide +kernel
theorem dX6_beside_77 : decode cX6_beside 77 = .ok (.ifCond .ne 7, 3) := by decide +kernel
theorem dX6_beside_80 : decode cX6_beside 80 = .ok (.iconst (-1), 1) := by decide +kernel
theorem dX6_beside_81 : decode cX6_beside 81 = .ok (.goto 6, 3) := by decide +kernel
theorem dX6_beside_84 : decode cX6_beside 84 = .ok (.iload_n 0, 1) := by decide +kernel
theorem dX6_beside_85 : decode cX6_beside 85 = .ok (.iconst 1, 1) := by decide +kernel
theorem dX6_beside_86 : decode cX6_beside 86 = .ok (.isub, 1) := by decide +kernel
theorem dX6_beside_87 : decode cX6_beside 87 = .ok (.ireturn, 1) := by decide +kernel
theorem dX6_settled_0 : decode cX6_settled 0 = .ok (.iload_n 1, 1) := by decide +kernel
theorem dX6_settled_1 : decode cX6_settled 1 = .ok (.iconst (-1), 1) := by decide +kernel
theorem dX6_settled_2 : decode cX6_settled 2 = .ok (.if_icmp .ne 11, 3) := by decide +kernel
theorem dX6_settled_5 : decode cX6_settled 5 = .ok (.aload_n 0, 1) := by decide +kernel
theorem dX6_settled_6 : decode cX6_settled 6 = .ok (.iconst 0, 1) := by decide +kernel
theorem dX6_settled_7 : decode cX6_settled 7 = .ok (.putfield 56, 3) := by decide +kernel
theorem dX6_settled_10 : decode cX6_settled 10 = .ok (.goto 14, 3) := by decide +kernel
theorem dX6_settled_13 : decode cX6_settled 13 = .ok (.aload_n 0, 1) := by decide +kernel
theorem dX6_settled_14 : decode cX6_settled 14 = .ok (.getfield 29, 3) := by decide +kernel
theorem dX6_settled_17 : decode cX6_settled 17 = .ok (.aload_n 0, 1) := by decide +kernel
theorem dX6_settled_18 : decode cX6_settled 18 = .ok (.getfield 16, 3) := by decide +kernel
theorem dX6_settled_21 : decode cX6_settled 21 = .ok (.invokevirtual 270, 3) := by decide +kernel
theorem dX6_settled_24 : decode cX6_settled 24 = .ok (.iload_n 1, 1) := by decide +kernel
theorem dX6_settled_25 : decode cX6_settled 25 = .ok (.ireturn, 1) := by decide +kernel
theorem dX6_carryOut_0 : decode cX6_carryOut 0 = .ok (.aload_n 0, 1) := by decide +kernel
theorem dX6_carryOut_1 : decode cX6_carryOut 1 = .ok (.getfield 63, 3) := by decide +kernel
theorem dX6_carryOut_4 : decode cX6_carryOut 4 = .ok (.iload_n 1, 1) := by decide +kernel
theorem dX6_carryOut_5 : decode cX6_carryOut 5 = .ok (.iconst 0, 1) := by decide +kernel
theorem dX6_carryOut_6 : decode cX6_carryOut 6 = .ok (.invokevirtual 332, 3) := by decide +kernel
theorem dX6_carryOut_9 : decode cX6_carryOut 9 = .ok (.istore_n 2, 1) := by decide +kernel
theorem dX6_carryOut_10 : decode cX6_carryOut 10 = .ok (.aload_n 0, 1) := by decide +kernel
theorem dX6_carryOut_11 : decode cX6_carryOut 11 = .ok (.getfield 63, 3) := by decide +kernel
theorem dX6_carryOut_14 : decode cX6_carryOut 14 = .ok (.iload_n 1, 1) := by decide +kernel
theorem dX6_carryOut_15 : decode cX6_carryOut 15 = .ok (.iconst 1, 1) := by decide +kernel
theorem dX6_carryOut_16 : decode cX6_carryOut 16 = .ok (.invokevirtual 332, 3) := by decide +kernel
theorem dX6_carryOut_19 : decode cX6_carryOut 19 = .ok (.istore_n 3, 1) := by decide +kernel
theorem dX6_carryOut_20 : decode cX6_carryOut 20 = .ok (.aload_n 0, 1) := by decide +kernel
theorem dX6_carryOut_21 : decode cX6_carryOut 21 = .ok (.getfield 63, 3) := by decide +kernel
theorem dX6_carryOut_24 : decode cX6_carryOut 24 = .ok (.iload_n 1, 1) := by decide +kernel
theorem dX6_carryOut_25 : decode cX6_carryOut 25 = .ok (.iconst 2, 1) := by decide +kernel
theorem dX6_carryOut_26 : decode cX6_carryOut 26 = .ok (.invokevirtual 332, 3) := by decide +kernel
theorem dX6_carryOut_29 : decode cX6_carryOut 29 = .ok (.istore 4, 2) := by decide +kernel
theorem dX6_carryOut_31 : decode cX6_carryOut 31 = .ok (.aload_n 0, 1) := by decide +kernel
theorem dX6_carryOut_32 : decode cX6_carryOut 32 = .ok (.getfield 63, 3) := by decide +kernel
theorem dX6_carryOut_35 : decode cX6_carryOut 35 = .ok (.iload_n 1, 1) := by decide +kernel
theorem dX6_carryOut_36 : decode cX6_carryOut 36 = .ok (.invokevirtual 335, 3) := by decide +kernel
theorem dX6_carryOut_39 : decode cX6_carryOut 39 = .ok (.tableswitch 150 103 116 #[123, 150, 150, 150, 69, 94, 150, 150, 150, 150, 150, 150, 136, 110], 69) := by decide +kernel
theorem dX6_carryOut_108 : decode cX6_carryOut 108 = .ok (.aload_n 0, 1) := by decide +kernel
theorem dX6_carryOut_109 : decode cX6_carryOut 109 = .ok (.getfield 52, 3) := by decide +kernel
theorem dX6_carryOut_112 : decode cX6_carryOut 112 = .ok (.aload_n 0, 1) := by decide +kernel
theorem dX6_carryOut_113 : decode cX6_carryOut 113 = .ok (.getfield 12, 3) := by decide +kernel
theorem dX6_carryOut_116 : decode cX6_carryOut 116 = .ok (.iload_n 2, 1) := by decide +kernel
theorem dX6_carryOut_117 : decode cX6_carryOut 117 = .ok (.iload_n 3, 1) := by decide +kernel
theorem dX6_carryOut_118 : decode cX6_carryOut 118 = .ok (.iload 4, 2) := by decide +kernel
theorem dX6_carryOut_120 : decode cX6_carryOut 120 = .ok (.aload_n 0, 1) := by decide +kernel
theorem dX6_carryOut_121 : decode cX6_carryOut 121 = .ok (.getfield 63, 3) := by decide +kernel
theorem dX6_carryOut_124 : decode cX6_carryOut 124 = .ok (.iload_n 1, 1) := by decide +kernel
theorem dX6_carryOut_125 : decode cX6_carryOut 125 = .ok (.iconst 3, 1) := by decide +kernel
theorem dX6_carryOut_126 : decode cX6_carryOut 126 = .ok (.invokevirtual 332, 3) := by decide +kernel
theorem dX6_carryOut_129 : decode cX6_carryOut 129 = .ok (.invokevirtual 81, 3) := by decide +kernel
theorem dX6_carryOut_132 : decode cX6_carryOut 132 = .ok (.ireturn, 1) := by decide +kernel
theorem dX6_carryOut_133 : decode cX6_carryOut 133 = .ok (.aload_n 0, 1) := by decide +kernel
theorem dX6_carryOut_134 : decode cX6_carryOut 134 = .ok (.getfield 52, 3) := by decide +kernel
theorem dX6_carryOut_137 : decode cX6_carryOut 137 = .ok (.aload_n 0, 1) := by decide +kernel
theorem dX6_carryOut_138 : decode cX6_carryOut 138 = .ok (.getfield 12, 3) := by decide +kernel
theorem dX6_carryOut_141 : decode cX6_carryOut 141 = .ok (.iload_n 2, 1) := by decide +kernel
theorem dX6_carryOut_142 : decode cX6_carryOut 142 = .ok (.iload_n 3, 1) := by decide +kernel
theorem dX6_carryOut_143 : decode cX6_carryOut 143 = .ok (.iload 4, 2) := by decide +kernel
theorem dX6_carryOut_145 : decode cX6_carryOut 145 = .ok (.invokevirtual 96, 3) := by decide +kernel
theorem dX6_carryOut_148 : decode cX6_carryOut 148 = .ok (.ireturn, 1) := by decide +kernel
theorem dX6_carryOut_149 : decode cX6_carryOut 149 = .ok (.aload_n 0, 1) := by decide +kernel
theorem dX6_carryOut_150 : decode cX6_carryOut 150 = .ok (.getfield 52, 3) := by decide +kernel
theorem dX6_carryOut_153 : decode cX6_carryOut 153 = .ok (.aload_n 0, 1) := by decide +kernel
theorem dX6_carryOut_154 : decode cX6_carryOut 154 = .ok (.getfield 12, 3) := by decide +kernel
theorem dX6_carryOut_157 : decode cX6_carryOut 157 = .ok (.iload_n 2, 1) := by decide +kernel
theorem dX6_carryOut_158 : decode cX6_carryOut 158 = .ok (.invokevirtual 102, 3) := by decide +kernel
theorem dX6_carryOut_161 : decode cX6_carryOut 161 = .ok (.ireturn, 1) := by decide +kernel
theorem dX6_carryOut_162 : decode cX6_carryOut 162 = .ok (.aload_n 0, 1) := by decide +kernel
theorem dX6_carryOut_163 : decode cX6_carryOut 163 = .ok (.getfield 52, 3) := by decide +kernel
theorem dX6_carryOut_166 : decode cX6_carryOut 166 = .ok (.aload_n 0, 1) := by decide +kernel
theorem dX6_carryOut_167 : decode cX6_carryOut 167 = .ok (.getfield 12, 3) := by decide +kernel
theorem dX6_carryOut_170 : decode cX6_carryOut 170 = .ok (.iload_n 2, 1) := by decide +kernel
theorem dX6_carryOut_171 : decode cX6_carryOut 171 = .ok (.invokevirtual 108, 3) := by decide +kernel
theorem dX6_carryOut_174 : decode cX6_carryOut 174 = .ok (.ireturn, 1) := by decide +kernel
theorem dX6_carryOut_175 : decode cX6_carryOut 175 = .ok (.aload_n 0, 1) := by decide +kernel
theorem dX6_carryOut_176 : decode cX6_carryOut 176 = .ok (.getfield 52, 3) := by decide +kernel
theorem dX6_carryOut_179 : decode cX6_carryOut 179 = .ok (.aload_n 0, 1) := by decide +kernel
theorem dX6_carryOut_180 : decode cX6_carryOut 180 = .ok (.getfield 12, 3) := by decide +kernel
theorem dX6_carryOut_183 : decode cX6_carryOut 183 = .ok (.iload_n 2, 1) := by decide +kernel
theorem dX6_carryOut_184 : decode cX6_carryOut 184 = .ok (.iload_n 3, 1) := by decide +kernel
theorem dX6_carryOut_185 : decode cX6_carryOut 185 = .ok (.invokevirtual 113, 3) := by decide +kernel
theorem dX6_carryOut_188 : decode cX6_carryOut 188 = .ok (.ireturn, 1) := by decide +kernel
theorem dX6_carryOut_189 : decode cX6_carryOut 189 = .ok (.aload_n 0, 1) := by decide +kernel
theorem dX6_carryOut_190 : decode cX6_carryOut 190 = .ok (.getfield 52, 3) := by decide +kernel
theorem dX6_carryOut_193 : decode cX6_carryOut 193 = .ok (.aload_n 0, 1) := by decide +kernel
theorem dX6_carryOut_194 : decode cX6_carryOut 194 = .ok (.getfield 12, 3) := by decide +kernel
theorem dX6_carryOut_197 : decode cX6_carryOut 197 = .ok (.iload_n 2, 1) := by decide +kernel
theorem dX6_carryOut_198 : decode cX6_carryOut 198 = .ok (.invokevirtual 119, 3) := by decide +kernel
theorem dX6_carryOut_201 : decode cX6_carryOut 201 = .ok (.ireturn, 1) := by decide +kernel
theorem dX6_placeByHold_0 : decode cX6_placeByHold 0 = .ok (.iconst 0, 1) := by decide +kernel
theorem dX6_placeByHold_1 : decode cX6_placeByHold 1 = .ok (.istore_n 2, 1) := by decide +kernel
theorem dX6_placeByHold_2 : decode cX6_placeByHold 2 = .ok (.iconst 0, 1) := by decide +kernel
theorem dX6_placeByHold_3 : decode cX6_placeByHold 3 = .ok (.istore_n 3, 1) := by decide +kernel
theorem dX6_placeByHold_4 : decode cX6_placeByHold 4 = .ok (.iload_n 3, 1) := by decide +kernel
theorem dX6_placeByHold_5 : decode cX6_placeByHold 5 = .ok (.bipush 12, 2) := by decide +kernel
theorem dX6_placeByHold_7 : decode cX6_placeByHold 7 = .ok (.if_icmp .gt 68, 3) := by decide +kernel
theorem dX6_placeByHold_10 : decode cX6_placeByHold 10 = .ok (.iconst 0, 1) := by decide +kernel
theorem dX6_placeByHold_11 : decode cX6_placeByHold 11 = .ok (.istore 4, 2) := by decide +kernel
theorem dX6_placeByHold_13 : decode cX6_placeByHold 13 = .ok (.iload 4, 2) := by decide +kernel
theorem dX6_placeByHold_15 : decode cX6_placeByHold 15 = .ok (.bipush 42, 2) := by decide +kernel
theorem dX6_placeByHold_17 : decode cX6_placeByHold 17 = .ok (.if_icmp .ge 52, 3) := by decide +kernel
theorem dX6_placeByHold_20 : decode cX6_placeByHold 20 = .ok (.aload_n 0, 1) := by decide +kernel
theorem dX6_placeByHold_21 : decode cX6_placeByHold 21 = .ok (.getfield 12, 3) := by decide +kernel
theorem dX6_placeByHold_24 : decode cX6_placeByHold 24 = .ok (.iload 4, 2) := by decide +kernel
theorem dX6_placeByHold_26 : decode cX6_placeByHold 26 = .ok (.invokevirtual 159, 3) := by decide +kernel
theorem dX6_placeByHold_29 : decode cX6_placeByHold 29 = .ok (.istore 5, 2) := by decide +kernel
theorem dX6_placeByHold_31 : decode cX6_placeByHold 31 = .ok (.iload 5, 2) := by decide +kernel
theorem dX6_placeByHold_33 : decode cX6_placeByHold 33 = .ok (.iconst (-1), 1) := by decide +kernel
theorem dX6_placeByHold_34 : decode cX6_placeByHold 34 = .ok (.if_icmp .eq 29, 3) := by decide +kernel
theorem dX6_placeByHold_37 : decode cX6_placeByHold 37 = .ok (.aload_n 0, 1) := by decide +kernel
theorem dX6_placeByHold_38 : decode cX6_placeByHold 38 = .ok (.getfield 12, 3) := by decide +kernel
theorem dX6_placeByHold_41 : decode cX6_placeByHold 41 = .ok (.iload 5, 2) := by decide +kernel
theorem dX6_placeByHold_43 : decode cX6_placeByHold 43 = .ok (.iload 4, 2) := by decide +kernel
theorem dX6_placeByHold_45 : decode cX6_placeByHold 45 = .ok (.invokevirtual 178, 3) := by decide +kernel
theorem dX6_placeByHold_48 : decode cX6_placeByHold 48 = .ok (.iload_n 3, 1) := by decide +kernel
theorem dX6_placeByHold_49 : decode cX6_placeByHold 49 = .ok (.if_icmp .ne 14, 3) := by decide +kernel
theorem dX6_placeByHold_52 : decode cX6_placeByHold 52 = .ok (.iload_n 2, 1) := by decide +kernel
theorem dX6_placeByHold_53 : decode cX6_placeByHold 53 = .ok (.iload_n 1, 1) := by decide +kernel
theorem dX6_placeByHold_54 : decode cX6_placeByHold 54 = .ok (.if_icmp .ne 6, 3) := by decide +kernel
theorem dX6_placeByHold_57 : decode cX6_placeByHold 57 = .ok (.iload 4, 2) := by decide +kernel
theorem dX6_placeByHold_59 : decode cX6_placeByHold 59 = .ok (.ireturn, 1) := by decide +kernel
theorem dX6_placeByHold_60 : decode cX6_placeByHold 60 = .ok (.iinc 2 1, 3) := by decide +kernel
theorem dX6_placeByHold_63 : decode cX6_placeByHold 63 = .ok (.iinc 4 1, 3) := by decide +kernel
theorem dX6_placeByHold_66 : decode cX6_placeByHold 66 = .ok (.goto (-53), 3) := by decide +kernel
theorem dX6_placeByHold_69 : decode cX6_placeByHold 69 = .ok (.iinc 3 1, 3) := by decide +kernel
theorem dX6_placeByHold_72 : decode cX6_placeByHold 72 = .ok (.goto (-68), 3) := by decide +kernel
theorem dX6_placeByHold_75 : decode cX6_placeByHold 75 = .ok (.iconst (-1), 1) := by decide +kernel
theorem dX6_placeByHold_76 : decode cX6_placeByHold 76 = .ok (.ireturn, 1) := by decide +kernel
theorem dX6_writePlace_0 : decode cX6_writePlace 0 = .ok (.iload_n 1, 1) := by decide +kernel
theorem dX6_writePlace_1 : decode cX6_writePlace 1 = .ok (.iconst (-1), 1) := by decide +kernel
theorem dX6_writePlace_2 : decode cX6_writePlace 2 = .ok (.if_icmp .ne 10, 3) := by decide +kernel
theorem dX6_writePlace_5 : decode cX6_writePlace 5 = .ok (.aload_n 0, 1) := by decide +kernel
theorem dX6_writePlace_6 : decode cX6_writePlace 6 = .ok (.bipush 46, 2) := by decide +kernel
theorem dX6_writePlace_8 : decode cX6_writePlace 8 = .ok (.invokevirtual 339, 3) := by decide +kernel
theorem dX6_writePlace_11 : decode cX6_writePlace 11 = .ok (.return_, 1) := by decide +kernel
theorem dX6_writePlace_12 : decode cX6_writePlace 12 = .ok (.aload_n 0, 1) := by decide +kernel
theorem dX6_writePlace_13 : decode cX6_writePlace 13 = .ok (.bipush 48, 2) := by decide +kernel
theorem dX6_writePlace_15 : decode cX6_writePlace 15 = .ok (.iload_n 1, 1) := by decide +kernel
theorem dX6_writePlace_16 : decode cX6_writePlace 16 = .ok (.invokestatic 170, 3) := by decide +kernel
theorem dX6_writePlace_19 : decode cX6_writePlace 19 = .ok (.iadd, 1) := by decide +kernel
theorem dX6_writePlace_20 : decode cX6_writePlace 20 = .ok (.i2c, 1) := by decide +kernel
theorem dX6_writePlace_21 : decode cX6_writePlace 21 = .ok (.invokevirtual 339, 3) := by decide +kernel
theorem dX6_writePlace_24 : decode cX6_writePlace 24 = .ok (.iconst 0, 1) := by decide +kernel
theorem dX6_writePlace_25 : decode cX6_writePlace 25 = .ok (.istore_n 2, 1) := by decide +kernel
theorem dX6_writePlace_26 : decode cX6_writePlace 26 = .ok (.iload_n 2, 1) := by decide +kernel
theorem dX6_writePlace_27 : decode cX6_writePlace 27 = .ok (.iload_n 1, 1) := by decide +kernel
theorem dX6_writePlace_28 : decode cX6_writePlace 28 = .ok (.invokestatic 167, 3) := by decide +kernel
theorem dX6_writePlace_31 : decode cX6_writePlace 31 = .ok (.if_icmp .ge 15, 3) := by decide +kernel
theorem dX6_writePlace_34 : decode cX6_writePlace 34 = .ok (.aload_n 0, 1) := by decide +kernel
theorem dX6_writePlace_35 : decode cX6_writePlace 35 = .ok (.bipush 42, 2) := by decide +kernel
theorem dX6_writePlace_37 : decode cX6_writePlace 37 = .ok (.invokevirtual 339, 3) := by decide +kernel
theorem dX6_writePlace_40 : decode cX6_writePlace 40 = .ok (.iinc 2 1, 3) := by decide +kernel
theorem dX6_writePlace_43 : decode cX6_writePlace 43 = .ok (.goto (-17), 3) := by decide +kernel
theorem dX6_writePlace_46 : decode cX6_writePlace 46 = .ok (.return_, 1) := by decide +kernel
theorem dX6_writeSign_0 : decode cX6_writeSign 0 = .ok (.aload_n 0, 1) := by decide +kernel
theorem dX6_writeSign_1 : decode cX6_writeSign 1 = .ok (.getfield 74, 3) := by decide +kernel
theorem dX6_writeSign_4 : decode cX6_writeSign 4 = .ok (.bipush 28, 2) := by decide +kernel
theorem dX6_writeSign_6 : decode cX6_writeSign 6 = .ok (.if_icmp .ge 23, 3) := by decide +kernel
theorem dX6_writeSign_9 : decode cX6_writeSign 9 = .ok (.aload_n 0, 1) := by decide +kernel
theorem dX6_writeSign_10 : decode cX6_writeSign 10 = .ok (.getfield 70, 3) := by decide +kernel
theorem dX6_writeSign_13 : decode cX6_writeSign 13 = .ok (.aload_n 0, 1) := by decide +kernel
theorem dX6_writeSign_14 : decode cX6_writeSign 14 = .ok (.getfield 74, 3) := by decide +kernel
theorem dX6_writeSign_17 : decode cX6_writeSign 17 = .ok (.iload_n 1, 1) := by decide +kernel
theorem dX6_writeSign_18 : decode cX6_writeSign 18 = .ok (.castore, 1) := by decide +kernel
theorem dX6_writeSign_19 : decode cX6_writeSign 19 = .ok (.aload_n 0, 1) := by decide +kernel
theorem dX6_writeSign_20 : decode cX6_writeSign 20 = .ok (.dup, 1) := by decide +kernel
theorem dX6_writeSign_21 : decode cX6_writeSign 21 = .ok (.getfield 74, 3) := by decide +kernel
theorem dX6_writeSign_24 : decode cX6_writeSign 24 = .ok (.iconst 1, 1) := by decide +kernel
theorem dX6_writeSign_25 : decode cX6_writeSign 25 = .ok (.iadd, 1) := by decide +kernel
theorem dX6_writeSign_26 : decode cX6_writeSign 26 = .ok (.putfield 74, 3) := by decide +kernel
theorem dX6_writeSign_29 : decode cX6_writeSign 29 = .ok (.return_, 1) := by decide +kernel
theorem dX7_init_0 : decode cX7_init 0 = .ok (.aload_n 0, 1) := by decide +kernel
theorem dX7_init_1 : decode cX7_init 1 = .ok (.invokespecial 1, 3) := by decide +kernel
theorem dX7_init_4 : decode cX7_init 4 = .ok (.aload_n 0, 1) := by decide +kernel
theorem dX7_init_5 : decode cX7_init 5 = .ok (.bipush 87, 2) := by decide +kernel
theorem dX7_init_7 : decode cX7_init 7 = .ok (.newarray .int, 2) := by decide +kernel
theorem dX7_init_9 : decode cX7_init 9 = .ok (.putfield 7, 3) := by decide +kernel
theorem dX7_init_12 : decode cX7_init 12 = .ok (.aload_n 0, 1) := by decide +kernel
theorem dX7_init_13 : decode cX7_init 13 = .ok (.sipush 696, 3) := by decide +kernel
theorem dX7_init_16 : decode cX7_init 16 = .ok (.newarray .int, 2) := by decide +kernel
theorem dX7_init_18 : decode cX7_init 18 = .ok (.putfield 13, 3) := by decide +kernel
theorem dX7_init_21 : decode cX7_init 21 = .ok (.aload_n 0, 1) := by decide +kernel
theorem dX7_init_22 : decode cX7_init 22 = .ok (.bipush 87, 2) := by decide +kernel
theorem dX7_init_24 : decode cX7_init 24 = .ok (.newarray .int, 2) := by decide +kernel
theorem dX7_init_26 : decode cX7_init 26 = .ok (.putfield 16, 3) := by decide +kernel
theorem dX7_init_29 : decode cX7_init 29 = .ok (.aload_n 0, 1) := by decide +kernel
theorem dX7_init_30 : decode cX7_init 30 = .ok (.bipush 87, 2) := by decide +kernel
theorem dX7_init_32 : decode cX7_init 32 = .ok (.newarray .int, 2) := by decide +kernel
theorem dX7_init_34 : decode cX7_init 34 = .ok (.putfield 19, 3) := by decide +kernel
theorem dX7_init_37 : decode cX7_init 37 = .ok (.aload_n 0, 1) := by decide +kernel
theorem dX7_init_38 : decode cX7_init 38 = .ok (.bipush 87, 2) := by decide +kernel
theorem dX7_init_40 : decode cX7_init 40 = .ok (.newarray .int, 2) := by decide +kernel
theorem dX7_init_42 : decode cX7_init 42 = .ok (.putfield 22, 3) := by decide +kernel
theorem dX7_init_45 : decode cX7_init 45 = .ok (.aload_n 0, 1) := by decide +kernel
theorem dX7_init_46 : decode cX7_init 46 = .ok (.bipush 60, 2) := by decide +kernel
theorem dX7_init_48 : decode cX7_init 48 = .ok (.newarray .int, 2) := by decide +kernel
theorem dX7_init_50 : decode cX7_init 50 = .ok (.putfield 25, 3) := by decide +kernel
theorem dX7_init_53 : decode cX7_init 53 = .ok (.aload_n 0, 1) := by decide +kernel
theorem dX7_init_54 : decode cX7_init 54 = .ok (.iconst (-1), 1) := by decide +kernel
theorem dX7_init_55 : decode cX7_init 55 = .ok (.putfield 28, 3) := by decide +kernel
theorem dX7_init_58 : decode cX7_init 58 = .ok (.aload_n 0, 1) := by decide +kernel
theorem dX7_init_59 : decode cX7_init 59 = .ok (.bipush 32, 2) := by decide +kernel
theorem dX7_init_61 : decode cX7_init 61 = .ok (.newarray .char, 2) := by decide +kernel
theorem dX7_init_63 : decode cX7_init 63 = .ok (.putfield 32, 3) := by decide +kernel
theorem dX7_init_66 : decode cX7_init 66 = .ok (.aload_n 0, 1) := by decide +kernel
theorem dX7_init_67 : decode cX7_init 67 = .ok (.bipush 42, 2) := by decide +kernel
theorem dX7_init_69 : decode cX7_init 69 = .ok (.newarray .boolean, 2) := by decide +kernel
theorem dX7_init_71 : decode cX7_init 71 = .ok (.putfield 36, 3) := by decide +kernel
theorem dX7_init_74 : decode cX7_init 74 = .ok (.aload_n 0, 1) := by decide +kernel
theorem dX7_init_75 : decode cX7_init 75 = .ok (.sipush 186, 3) := by decide +kernel
theorem dX7_init_78 : decode cX7_init 78 = .ok (.newarray .int, 2) := by decide +kernel
theorem dX7_init_80 : decode cX7_init 80 = .ok (.putfield 40, 3) := by decide +kernel
theorem dX7_init_83 : decode cX7_init 83 = .ok (.aload_n 0, 1) := by decide +kernel
theorem dX7_init_84 : decode cX7_init 84 = .ok (.getfield 7, 3) := by decide +kernel
theorem dX7_init_87 : decode cX7_init 87 = .ok (.iconst 1, 1) := by decide +kernel
theorem dX7_init_88 : decode cX7_init 88 = .ok (.iconst (-1), 1) := by decide +kernel
theorem dX7_init_89 : decode cX7_init 89 = .ok (.iastore, 1) := by decide +kernel
theorem dX7_init_90 : decode cX7_init 90 = .ok (.aload_n 0, 1) := by decide +kernel
theorem dX7_init_91 : decode cX7_init 91 = .ok (.getfield 7, 3) := by decide +kernel
theorem dX7_init_94 : decode cX7_init 94 = .ok (.iconst 2, 1) := by decide +kernel
theorem dX7_init_95 : decode cX7_init 95 = .ok (.iconst 2, 1) := by decide +kernel
theorem dX7_init_96 : decode cX7_init 96 = .ok (.iastore, 1) := by decide +kernel
theorem dX7_init_97 : decode cX7_init 97 = .ok (.iconst 1, 1) := by decide +kernel
theorem dX7_init_98 : decode cX7_init 98 = .ok (.istore_n 1, 1) := by decide +kernel
theorem dX7_init_99 : decode cX7_init 99 = .ok (.iload_n 1, 1) := by decide +kernel
theorem dX7_init_100 : decode cX7_init 100 = .ok (.bipush 7, 2) := by decide +kernel
theorem dX7_init_102 : decode cX7_init 102 = .ok (.if_icmp .ge 19, 3) := by decide +kernel
theorem dX7_init_105 : decode cX7_init 105 = .ok (.aload_n 0, 1) := by decide +kernel
theorem dX7_init_106 : decode cX7_init 106 = .ok (.getfield 7, 3) := by decide +kernel
theorem dX7_init_109 : decode cX7_init 109 = .ok (.bipush 6, 2) := by decide +kernel
theorem dX7_init_111 : decode cX7_init 111 = .ok (.iload_n 1, 1) := by decide +kernel
theorem dX7_init_112 : decode cX7_init 112 = .ok (.iadd, 1) := by decide +kernel
theorem dX7_init_113 : decode cX7_init 113 = .ok (.iconst 1, 1) := by decide +kernel
theorem dX7_init_114 : decode cX7_init 114 = .ok (.iastore, 1) := by decide +kernel
theorem dX7_init_115 : decode cX7_init 115 = .ok (.iinc 1 1, 3) := by decide +kernel
theorem dX7_init_118 : decode cX7_init 118 = .ok (.goto (-19), 3) := by decide +kernel
theorem dX7_init_121 : decode cX7_init 121 = .ok (.iconst 0, 1) := by decide +kernel
theorem dX7_init_122 : decode cX7_init 122 = .ok (.istore_n 1, 1) := by decide +kernel
theorem dX7_init_123 : decode cX7_init 123 = .ok (.iload_n 1, 1) := by decide +kernel
theorem dX7_init_124 : decode cX7_init 124 = .ok (.bipush 42, 2) := by decide +kernel
theorem dX7_init_126 : decode cX7_init 126 = .ok (.if_icmp .ge 19, 3) := by decide +kernel
theorem dX7_init_129 : decode cX7_init 129 = .ok (.aload_n 0, 1) := by decide +kernel
theorem dX7_init_130 : decode cX7_init 130 = .ok (.getfield 7, 3) := by decide +kernel
theorem dX7_init_133 : decode cX7_init 133 = .ok (.bipush 45, 2) := by decide +kernel
theorem dX7_init_135 : decode cX7_init 135 = .ok (.iload_n 1, 1) := by decide +kernel
theorem dX7_init_136 : decode cX7_init 136 = .ok (.iadd, 1) := by decide +kernel
theorem dX7_init_137 : decode cX7_init 137 = .ok (.iconst (-1), 1) := by decide +kernel
theorem dX7_init_138 : decode cX7_init 138 = .ok (.iastore, 1) := by decide +kernel
theorem dX7_init_139 : decode cX7_init 139 = .ok (.iinc 1 1, 3) := by decide +kernel
theorem dX7_init_142 : decode cX7_init 142 = .ok (.goto (-19), 3) := by decide +kernel
theorem dX7_init_145 : decode cX7_init 145 = .ok (.return_, 1) := by decide +kernel
theorem dX7_thrown_0 : decode cX7_thrown 0 = .ok (.aload_n 0, 1) := by decide +kernel
theorem dX7_thrown_1 : decode cX7_thrown 1 = .ok (.getfield 43, 3) := by decide +kernel
theorem dX7_thrown_4 : decode cX7_thrown 4 = .ok (.ireturn, 1) := by decide +kernel
theorem dX7_fails_0 : decode cX7_fails 0 = .ok (.aload_n 0, 1) := by decide +kernel
theorem dX7_fails_1 : decode cX7_fails 1 = .ok (.iload_n 1, 1) := by decide +kernel
theorem dX7_fails_2 : decode cX7_fails 2 = .ok (.putfield 43, 3) := by decide +kernel
theorem dX7_fails_5 : decode cX7_fails 5 = .ok (.iload_n 1, 1) := by decide +kernel
theorem dX7_fails_6 : decode cX7_fails 6 = .ok (.ifCond .le 7, 3) := by decide +kernel
theorem dX7_fails_9 : decode cX7_fails 9 = .ok (.iconst 1, 1) := by decide +kernel
theorem dX7_fails_10 : decode cX7_fails 10 = .ok (.goto 4, 3) := by decide +kernel
theorem dX7_fails_13 : decode cX7_fails 13 = .ok (.iconst 0, 1) := by decide +kernel
theorem dX7_fails_14 : decode cX7_fails 14 = .ok (.ireturn, 1) := by decide +kernel
theorem dX7_refuses_0 : decode cX7_refuses 0 = .ok (.aload_n 0, 1) := by decide +kernel
theorem dX7_refuses_1 : decode cX7_refuses 1 = .ok (.iconst 1, 1) := by decide +kernel
theorem dX7_refuses_2 : decode cX7_refuses 2 = .ok (.putfield 43, 3) := by decide +kernel
theorem dX7_refuses_5 : decode cX7_refuses 5 = .ok (.aload_n 0, 1) := by decide +kernel
theorem dX7_refuses_6 : decode cX7_refuses 6 = .ok (.iload_n 1, 1) := by decide +kernel
theorem dX7_refuses_7 : decode cX7_refuses 7 = .ok (.putfield 46, 3) := by decide +kernel
theorem dX7_refuses_10 : decode cX7_refuses 10 = .ok (.aload_n 0, 1) := by decide +kernel
theorem dX7_refuses_11 : decode cX7_refuses 11 = .ok (.iload_n 2, 1) := by decide +kernel
theorem dX7_refuses_12 : decode cX7_refuses 12 = .ok (.putfield 49, 3) := by decide +kernel
theorem dX7_refuses_15 : decode cX7_refuses 15 = .ok (.aload_n 0, 1) := by decide +kernel
theorem dX7_refuses_16 : decode cX7_refuses 16 = .ok (.aload_n 0, 1) := by decide +kernel
theorem dX7_refuses_17 : decode cX7_refuses 17 = .ok (.getfield 52, 3) := by decide +kernel
theorem dX7_refuses_20 : decode cX7_refuses 20 = .ok (.ifCond .eq 10, 3) := by decide +kernel
theorem dX7_refuses_23 : decode cX7_refuses 23 = .ok (.aload_n 0, 1) := by decide +kernel
theorem dX7_refuses_24 : decode cX7_refuses 24 = .ok (.getfield 56, 3) := by decide +kernel
theorem dX7_refuses_27 : decode cX7_refuses 27 = .ok (.goto 4, 3) := by decide +kernel
theorem dX7_refuses_30 : decode cX7_refuses 30 = .ok (.iconst 0, 1) := by decide +kernel
theorem dX7_refuses_31 : decode cX7_refuses 31 = .ok (.putfield 59, 3) := by decide +kernel
theorem dX7_refuses_34 : decode cX7_refuses 34 = .ok (.iconst 0, 1) := by decide +kernel
theorem dX7_refuses_35 : decode cX7_refuses 35 = .ok (.ireturn, 1) := by decide +kernel
theorem dX7_in_0 : decode cX7_in 0 = .ok (.iload_n 0, 1) := by decide +kernel
theorem dX7_in_1 : decode cX7_in 1 = .ok (.iload_n 1, 1) := by decide +kernel
theorem dX7_in_2 : decode cX7_in 2 = .ok (.if_icmp .lt 12, 3) := by decide +kernel
theorem dX7_in_5 : decode cX7_in 5 = .ok (.iload_n 0, 1) := by decide +kernel
theorem dX7_in_6 : decode cX7_in 6 = .ok (.iload_n 2, 1) := by decide +kernel
theorem dX7_in_7 : decode cX7_in 7 = .ok (.if_icmp .gt 7, 3) := by decide +kernel
theorem dX7_in_10 : decode cX7_in 10 = .ok (.iconst 1, 1) := by decide +kernel
theorem dX7_in_11 : decode cX7_in 11 = .ok (.goto 4, 3) := by decide +kernel
theorem dX7_in_14 : decode cX7_in 14 = .ok (.iconst 0, 1) := by decide +kernel
theorem dX7_in_15 : decode cX7_in 15 = .ok (.ireturn, 1) := by decide +kernel
theorem dX7_copies_0 : decode cX7_copies 0 = .ok (.iconst 0, 1) := by decide +kernel
theorem dX7_copies_1 : decode cX7_copies 1 = .ok (.istore 4, 2) := by decide +kernel
theorem dX7_copies_3 : decode cX7_copies 3 = .ok (.iload 4, 2) := by decide +kernel
theorem dX7_copies_5 : decode cX7_copies 5 = .ok (.bipush 87, 2) := by decide +kernel
theorem dX7_copies_7 : decode cX7_copies 7 = .ok (.if_icmp .ge 21, 3) := by decide +kernel
theorem dX7_copies_10 : decode cX7_copies 10 = .ok (.aload_n 2, 1) := by decide +kernel
theorem dX7_copies_11 : decode cX7_copies 11 = .ok (.iload_n 3, 1) := by decide +kernel
theorem dX7_copies_12 : decode cX7_copies 12 = .ok (.iload 4, 2) := by decide +kernel
theorem dX7_copies_14 : decode cX7_copies 14 = .ok (.iadd, 1) := by decide +kernel
theorem dX7_copies_15 : decode cX7_copies 15 = .ok (.aload_n 0, 1) := by decide +kernel
theorem dX7_copies_16 : decode cX7_copies 16 = .ok (.iload_n 1, 1) := by decide +kernel
theorem dX7_copies_17 : decode cX7_copies 17 = .ok (.iload 4, 2) := by decide +kernel
theorem dX7_copies_19 : decode cX7_copies 19 = .ok (.iadd, 1) := by decide +kernel
theorem dX7_copies_20 : decode cX7_copies 20 = .ok (.iaload, 1) := by decide +kernel
theorem dX7_copies_21 : decode cX7_copies 21 = .ok (.iastore, 1) := by decide +kernel
theorem dX7_copies_22 : decode cX7_copies 22 = .ok (.iinc 4 1, 3) := by decide +kernel
theorem dX7_copies_25 : decode cX7_copies 25 = .ok (.goto (-22), 3) := by decide +kernel
theorem dX7_copies_28 : decode cX7_copies 28 = .ok (.return_, 1) := by decide +kernel
theorem dX7_keeps_0 : decode cX7_keeps 0 = .ok (.aload_n 0, 1) := by decide +kernel
theorem dX7_keeps_1 : decode cX7_keeps 1 = .ok (.iconst 0, 1) := by decide +kernel
theorem dX7_keeps_2 : decode cX7_keeps 2 = .ok (.putfield 43, 3) := by decide +kernel
theorem dX7_keeps_5 : decode cX7_keeps 5 = .ok (.aload_n 0, 1) := by decide +kernel
theorem dX7_keeps_6 : decode cX7_keeps 6 = .ok (.getfield 52, 3) := by decide +kernel
theorem dX7_keeps_9 : decode cX7_keeps 9 = .ok (.ifCond .eq 4, 3) := by decide +kernel
theorem dX7_keeps_12 : decode cX7_keeps 12 = .ok (.return_, 1) := by decide +kernel
theorem dX7_keeps_13 : decode cX7_keeps 13 = .ok (.aload_n 0, 1) := by decide +kernel
theorem dX7_keeps_14 : decode cX7_keeps 14 = .ok (.getfield 62, 3) := by decide +kernel
theorem dX7_keeps_17 : decode cX7_keeps 17 = .ok (.bipush 8, 2) := by decide +kernel
theorem dX7_keeps_19 : decode cX7_keeps 19 = .ok (.if_icmp .ne 43, 3) := by decide +kernel
theorem dX7_keeps_22 : decode cX7_keeps 22 = .ok (.iconst 0, 1) := by decide +kernel
theorem dX7_keeps_23 : decode cX7_keeps 23 = .ok (.istore_n 2, 1) := by decide +kernel
theorem dX7_keeps_24 : decode cX7_keeps 24 = .ok (.iload_n 2, 1) := by decide +kernel
theorem dX7_keeps_25 : decode cX7_keeps 25 = .ok (.sipush 609, 3) := by decide +kernel
theorem dX7_keeps_28 : decode cX7_keeps 28 = .ok (.if_icmp .ge 24, 3) := by decide +kernel
theorem dX7_keeps_31 : decode cX7_keeps 31 = .ok (.aload_n 0, 1) := by decide +kernel
theorem dX7_keeps_32 : decode cX7_keeps 32 = .ok (.getfield 13, 3) := by decide +kernel
theorem dX7_keeps_35 : decode cX7_keeps 35 = .ok (.iload_n 2, 1) := by decide +kernel
theorem dX7_keeps_36 : decode cX7_keeps 36 = .ok (.aload_n 0, 1) := by decide +kernel
theorem dX7_keeps_37 : decode cX7_keeps 37 = .ok (.getfield 13, 3) := by decide +kernel
theorem dX7_keeps_40 : decode cX7_keeps 40 = .ok (.iload_n 2, 1) := by decide +kernel
theorem dX7_keeps_41 : decode cX7_keeps 41 = .ok (.bipush 87, 2) := by decide +kernel
theorem dX7_keeps_43 : decode cX7_keeps 43 = .ok (.iadd, 1) := by decide +kernel
theorem dX7_keeps_44 : decode cX7_keeps 44 = .ok (.iaload, 1) := by decide +kernel
theorem dX7_keeps_45 : decode cX7_keeps 45 = .ok (.iastore, 1) := by decide +kernel
theorem dX7_keeps_46 : decode cX7_keeps 46 = .ok (.iinc 2 1, 3) := by decide +kernel
theorem dX7_keeps_49 : decode cX7_keeps 49 = .ok (.goto (-25), 3) := by decide +kernel
theorem dX7_keeps_52 : decode cX7_keeps 52 = .ok (.aload_n 0, 1) := by decide +kernel
theorem dX7_keeps_53 : decode cX7_keeps 53 = .ok (.dup, 1) := by decide +kernel
theorem dX7_keeps_54 : decode cX7_keeps 54 = .ok (.getfield 62, 3) := by decide +kernel
theorem dX7_keeps_57 : decode cX7_keeps 57 = .ok (.iconst 1, 1) := by decide +kernel
theorem dX7_keeps_58 : decode cX7_keeps 58 = .ok (.isub, 1) := by decide +kernel
theorem dX7_keeps_59 : decode cX7_keeps 59 = .ok (.putfield 62, 3) := by decide +kernel
theorem dX7_keeps_62 : decode cX7_keeps 62 = .ok (.aload_n 1, 1) := by decide +kernel
theorem dX7_keeps_63 : decode cX7_keeps 63 = .ok (.iconst 0, 1) := by decide +kernel
theorem dX7_keeps_64 : decode cX7_keeps 64 = .ok (.aload_n 0, 1) := by decide +kernel
theorem dX7_keeps_65 : decode cX7_keeps 65 = .ok (.getfield 13, 3) := by decide +kernel
theorem dX7_keeps_68 : decode cX7_keeps 68 = .ok (.bipush 87, 2) := by decide +kernel
theorem dX7_keeps_70 : decode cX7_keeps 70 = .ok (.aload_n 0, 1) := by decide +kernel
theorem dX7_keeps_71 : decode cX7_keeps 71 = .ok (.getfield 62, 3) := by decide +kernel
theorem dX7_keeps_74 : decode cX7_keeps 74 = .ok (.imul, 1) := by decide +kernel
theorem dX7_keeps_75 : decode cX7_keeps 75 = .ok (.invokestatic 65, 3) := by decide +kernel
theorem dX7_keeps_78 : decode cX7_keeps 78 = .ok (.aload_n 0, 1) := by decide +kernel
theorem dX7_keeps_79 : decode cX7_keeps 79 = .ok (.dup, 1) := by decide +kernel
theorem dX7_keeps_80 : decode cX7_keeps 80 = .ok (.getfield 62, 3) := by decide +kernel
theorem dX7_keeps_83 : decode cX7_keeps 83 = .ok (.iconst 1, 1) := by decide +kernel
theorem dX7_keeps_84 : decode cX7_keeps 84 = .ok (.iadd, 1) := by decide +kernel
theorem dX7_keeps_85 : decode cX7_keeps 85 = .ok (.putfield 62, 3) := by decide +kernel
theorem dX7_keeps_88 : decode cX7_keeps 88 = .ok (.return_, 1) := by decide +kernel
theorem dX7_isPlace_0 : decode cX7_isPlace 0 = .ok (.iload_n 0, 1) := by decide +kernel
theorem dX7_isPlace_1 : decode cX7_isPlace 1 = .ok (.iconst 0, 1) := by decide +kernel
theorem dX7_isPlace_2 : decode cX7_isPlace 2 = .ok (.bipush 41, 2) := by decide +kernel
theorem dX7_isPlace_4 : decode cX7_isPlace 4 = .ok (.invokestatic 69, 3) := by decide +kernel
theorem dX7_isPlace_7 : decode cX7_isPlace 7 = .ok (.ireturn, 1) := by decide +kernel
theorem dX7_isKind_0 : decode cX7_isKind 0 = .ok (.iload_n 1, 1) := by decide +kernel
theorem dX7_isKind_1 : decode cX7_isKind 1 = .ok (.iconst 0, 1) := by decide +kernel
theorem dX7_isKind_2 : decode cX7_isKind 2 = .ok (.aload_n 0, 1) := by decide +kernel
theorem dX7_isKind_3 : decode cX7_isKind 3 = .ok (.getfield 7, 3) := by decide +kernel
theorem dX7_isKind_6 : decode cX7_isKind 6 = .ok (.iconst 0, 1) := by decide +kernel
theorem dX7_isKind_7 : decode cX7_isKind 7 = .ok (.iaload, 1) := by decide +kernel
theorem dX7_isKind_8 : decode cX7_isKind 8 = .ok (.iconst 1, 1) := by decide +kernel
theorem dX7_isKind_9 : decode cX7_isKind 9 = .ok (.isub, 1) := by decide +kernel
theorem dX7_isKind_10 : decode cX7_isKind 10 = .ok (.invokestatic 69, 3) := by decide +kernel
theorem dX7_isKind_13 : decode cX7_isKind 13 = .ok (.ireturn, 1) := by decide +kernel
theorem dX7_isFree_0 : decode cX7_isFree 0 = .ok (.aload_n 0, 1) := by decide +kernel
theorem dX7_isFree_1 : decode cX7_isFree 1 = .ok (.getfield 7, 3) := by decide +kernel
theorem dX7_isFree_4 : decode cX7_isFree 4 = .ok (.bipush 45, 2) := by decide +kernel
theorem dX7_isFree_6 : decode cX7_isFree 6 = .ok (.iload_n 1, 1) := by decide +kernel
theorem dX7_isFree_7 : decode cX7_isFree 7 = .ok (.iadd, 1) := by decide +kernel
theorem dX7_isFree_8 : decode cX7_isFree 8 = .ok (.iaload, 1) := by decide +kernel
theorem dX7_isFree_9 : decode cX7_isFree 9 = .ok (.ifCond .ge 7, 3) := by decide +kernel
theorem dX7_isFree_12 : decode cX7_isFree 12 = .ok (.iconst 1, 1) := by decide +kernel
theorem dX7_isFree_13 : decode cX7_isFree 13 = .ok (.goto 4, 3) := by decide +kernel
theorem dX7_isFree_16 : decode cX7_isFree 16 = .ok (.iconst 0, 1) := by decide +kernel
theorem dX7_isFree_17 : decode cX7_isFree 17 = .ok (.ireturn, 1) := by decide +kernel
theorem dX7_beside_0 : decode cX7_beside 0 = .ok (.iload_n 1, 1) := by decide +kernel
theorem dX7_beside_1 : decode cX7_beside 1 = .ok (.tableswitch 74 0 2 #[27, 42, 59], 27) := by decide +kernel
theorem dX7_beside_28 : decode cX7_beside 28 = .ok (.iload_n 0, 1) := by decide +kernel
theorem dX7_beside_29 : decode cX7_beside 29 = .ok (.bipush 7, 2) := by decide +kernel
theorem dX7_beside_31 : decode cX7_beside 31 = .ok (.if_icmp .ge 7, 3) := by decide +kernel
theorem dX7_beside_34 : decode cX7_beside 34 = .ok (.iconst (-1), 1) := by decide +kernel
theorem dX7_beside_35 : decode cX7_beside 35 = .ok (.goto 7, 3) := by decide +kernel
theorem dX7_beside_38 : decode cX7_beside 38 = .ok (.iload_n 0, 1) := by decide +kernel
theorem dX7_beside_39 : decode cX7_beside 39 = .ok (.bipush 7, 2) := by decide +kernel
theorem dX7_beside_41 : decode cX7_beside 41 = .ok (.isub, 1) := by decide +kernel
theorem dX7_beside_42 : decode cX7_beside 42 = .ok (.ireturn, 1) := by decide +kernel
theorem dX7_beside_43 : decode cX7_beside 43 = .ok (.iload_n 0, 1) := by decide +kernel
theorem dX7_beside_44 : decode cX7_beside 44 = .ok (.bipush 7, 2) := by decide +kernel
theorem dX7_beside_46 : decode cX7_beside 46 = .ok (.irem, 1) := by decide +kernel
theorem dX7_beside_47 : decode cX7_beside 47 = .ok (.bipush 6, 2) := by decide +kernel
theorem dX7_beside_49 : decode cX7_beside 49 = .ok (.if_icmp .ne 7, 3) := by decide +kernel
theorem dX7_beside_52 : decode cX7_beside 52 = .ok (.iconst (-1), 1) := by decide +kernel
theorem dX7_beside_53 : decode cX7_beside 53 = .ok (.goto 6, 3) := by decide +kernel
theorem dX7_beside_56 : decode cX7_beside 56 = .ok (.iload_n 0, 1) := by decide +kernel
theorem dX7_beside_57 : decode cX7_beside 57 = .ok (.iconst 1, 1) := by decide +kernel
theorem dX7_beside_58 : decode cX7_beside 58 = .ok (.iadd, 1) := by decide +kernel
theorem dX7_beside_59 : decode cX7_beside 59 = .ok (.ireturn, 1) := by decide +kernel
theorem dX7_beside_60 : decode cX7_beside 60 = .ok (.iload_n 0, 1) := by decide +kernel
theorem dX7_beside_61 : decode cX7_beside 61 = .ok (.bipush 35, 2) := by decide +kernel
theorem dX7_beside_63 : decode cX7_beside 63 = .ok (.if_icmp .lt 7, 3) := by decide +kernel
theorem dX7_beside_66 : decode cX7_beside 66 = .ok (.iconst (-1), 1) := by decide +kernel
theorem dX7_beside_67 : decode cX7_beside 67 = .ok (.goto 7, 3) := by decide +kernel
theorem dX7_beside_70 : decode cX7_beside 70 = .ok (.iload_n 0, 1) := by decide +kernel
theorem dX7_beside_71 : decode cX7_beside 71 = .ok (.bipush 7, 2) := by decide +kernel
theorem dX7_beside_73 : decode cX7_beside 73 = .ok (.iadd, 1) := by decide +kernel
theorem dX7_beside_74 : decode cX7_beside 74 = .ok (.ireturn, 1) := by decide +kernel
theorem dX7_beside_75 : decode cX7_beside 75 = .ok (.iload_n 0, 1) := by decide +kernel
theorem dX7_beside_76 : decode cX7_beside 76 = .ok (.bipush 7, 2) := by decide +kernel
theorem dX7_beside_78 : decode cX7_beside 78 = .ok (.irem, 1) := by decide +kernel
theorem dX7_beside_79 : decode cX7_beside 79 = .ok (.ifCond .ne 7, 3) := by decide +kernel
theorem dX7_beside_82 : decode cX7_beside 82 = .ok (.iconst (-1), 1) := by decide +kernel
theorem dX7_beside_83 : decode cX7_beside 83 = .ok (.goto 6, 3) := by decide +kernel
theorem dX7_beside_86 : decode cX7_beside 86 = .ok (.iload_n 0, 1) := by decide +kernel
theorem dX7_beside_87 : decode cX7_beside 87 = .ok (.iconst 1, 1) := by decide +kernel
theorem dX7_beside_88 : decode cX7_beside 88 = .ok (.isub, 1) := by decide +kernel
theorem dX7_beside_89 : decode cX7_beside 89 = .ok (.ireturn, 1) := by decide +kernel
theorem dX7_glue_0 : decode cX7_glue 0 = .ok (.aload_n 0, 1) := by decide +kernel
theorem dX7_glue_1 : decode cX7_glue 1 = .ok (.getfield 7, 3) := by decide +kernel
theorem dX7_glue_4 : decode cX7_glue 4 = .ok (.bipush 13, 2) := by decide +kernel
theorem dX7_glue_6 : decode cX7_glue 6 = .ok (.iconst 4, 1) := by decide +kernel
theorem dX7_glue_7 : decode cX7_glue 7 = .ok (.iload_n 1, 1) := by decide +kernel
theorem dX7_glue_8 : decode cX7_glue 8 = .ok (.iconst 4, 1) := by decide +kernel
theorem dX7_glue_9 : decode cX7_glue 9 = .ok (.idiv, 1) := by decide +kernel
theorem dX7_glue_10 : decode cX7_glue 10 = .ok (.imul, 1) := by decide +kernel
theorem dX7_glue_11 : decode cX7_glue 11 = .ok (.iadd, 1) := by decide +kernel
theorem dX7_glue_12 : decode cX7_glue 12 = .ok (.iload_n 2, 1) := by decide +kernel
theorem dX7_glue_13 : decode cX7_glue 13 = .ok (.iload_n 1, 1) := by decide +kernel
theorem dX7_glue_14 : decode cX7_glue 14 = .ok (.iconst 4, 1) := by decide +kernel
theorem dX7_glue_15 : decode cX7_glue 15 = .ok (.irem, 1) := by decide +kernel
theorem dX7_glue_16 : decode cX7_glue 16 = .ok (.isub, 1) := by decide +kernel
theorem dX7_glue_17 : decode cX7_glue 17 = .ok (.iconst 4, 1) := by decide +kernel
theorem dX7_glue_18 : decode cX7_glue 18 = .ok (.iadd, 1) := by decide +kernel
theorem dX7_glue_19 : decode cX7_glue 19 = .ok (.iconst 4, 1) := by decide +kernel
theorem dX7_glue_20 : decode cX7_glue 20 = .ok (.irem, 1) := by decide +kernel
theorem dX7_glue_21 : decode cX7_glue 21 = .ok (.iadd, 1) := by decide +kernel
theorem dX7_glue_22 : decode cX7_glue 22 = .ok (.iaload, 1) := by decide +kernel
theorem dX7_glue_23 : decode cX7_glue 23 = .ok (.ireturn, 1) := by decide +kernel
theorem dX7_heldAt_0 : decode cX7_heldAt 0 = .ok (.iload_n 1, 1) := by decide +kernel
theorem dX7_heldAt_1 : decode cX7_heldAt 1 = .ok (.iload_n 3, 1) := by decide +kernel
theorem dX7_heldAt_2 : decode cX7_heldAt 2 = .ok (.invokestatic 73, 3) := by decide +kernel
theorem dX7_heldAt_5 : decode cX7_heldAt 5 = .ok (.istore 4, 2) := by decide +kernel
theorem dX7_heldAt_7 : decode cX7_heldAt 7 = .ok (.iload 4, 2) := by decide +kernel
theorem dX7_heldAt_9 : decode cX7_heldAt 9 = .ok (.ifCond .lt 12, 3) := by decide +kernel
theorem dX7_heldAt_12 : decode cX7_heldAt 12 = .ok (.aload_n 0, 1) := by decide +kernel
theorem dX7_heldAt_13 : decode cX7_heldAt 13 = .ok (.iload 4, 2) := by decide +kernel
theorem dX7_heldAt_15 : decode cX7_heldAt 15 = .ok (.invokevirtual 77, 3) := by decide +kernel
theorem dX7_heldAt_18 : decode cX7_heldAt 18 = .ok (.ifCond .eq 5, 3) := by decide +kernel
theorem dX7_heldAt_21 : decode cX7_heldAt 21 = .ok (.iconst 0, 1) := by decide +kernel
theorem dX7_heldAt_22 : decode cX7_heldAt 22 = .ok (.ireturn, 1) := by decide +kernel
theorem dX7_heldAt_23 : decode cX7_heldAt 23 = .ok (.aload_n 0, 1) := by decide +kernel
theorem dX7_heldAt_24 : decode cX7_heldAt 24 = .ok (.iload_n 2, 1) := by decide +kernel
theorem dX7_heldAt_25 : decode cX7_heldAt 25 = .ok (.iload_n 3, 1) := by decide +kernel
theorem dX7_heldAt_26 : decode cX7_heldAt 26 = .ok (.invokevirtual 81, 3) := by decide +kernel
theorem dX7_heldAt_29 : decode cX7_heldAt 29 = .ok (.istore 5, 2) := by decide +kernel
theorem dX7_heldAt_31 : decode cX7_heldAt 31 = .ok (.iload 5, 2) := by decide +kernel
theorem dX7_heldAt_33 : decode cX7_heldAt 33 = .ok (.aload_n 0, 1) := by decide +kernel
theorem dX7_heldAt_34 : decode cX7_heldAt 34 = .ok (.aload_n 0, 1) := by decide +kernel
theorem dX7_heldAt_35 : decode cX7_heldAt 35 = .ok (.getfield 7, 3) := by decide +kernel
theorem dX7_heldAt_38 : decode cX7_heldAt 38 = .ok (.bipush 45, 2) := by decide +kernel
theorem dX7_heldAt_40 : decode cX7_heldAt 40 = .ok (.iload 4, 2) := by decide +kernel
theorem dX7_heldAt_42 : decode cX7_heldAt 42 = .ok (.iadd, 1) := by decide +kernel
theorem dX7_heldAt_43 : decode cX7_heldAt 43 = .ok (.iaload, 1) := by decide +kernel
theorem dX7_heldAt_44 : decode cX7_heldAt 44 = .ok (.iload_n 3, 1) := by decide +kernel
theorem dX7_heldAt_45 : decode cX7_heldAt 45 = .ok (.iconst 2, 1) := by decide +kernel
theorem dX7_heldAt_46 : decode cX7_heldAt 46 = .ok (.iadd, 1) := by decide +kernel
theorem dX7_heldAt_47 : decode cX7_heldAt 47 = .ok (.iconst 4, 1) := by decide +kernel
theorem dX7_heldAt_48 : decode cX7_heldAt 48 = .ok (.irem, 1) := by decide +kernel
theorem dX7_heldAt_49 : decode cX7_heldAt 49 = .ok (.invokevirtual 81, 3) := by decide +kernel
theorem dX7_heldAt_52 : decode cX7_heldAt 52 = .ok (.if_icmp .ne 16, 3) := by decide +kernel
theorem dX7_heldAt_55 : decode cX7_heldAt 55 = .ok (.aload_n 0, 1) := by decide +kernel
theorem dX7_heldAt_56 : decode cX7_heldAt 56 = .ok (.getfield 7, 3) := by decide +kernel
theorem dX7_heldAt_59 : decode cX7_heldAt 59 = .ok (.bipush 6, 2) := by decide +kernel
theorem dX7_heldAt_61 : decode cX7_heldAt 61 = .ok (.iload 5, 2) := by decide +kernel
theorem dX7_heldAt_63 : decode cX7_heldAt 63 = .ok (.iadd, 1) := by decide +kernel
theorem dX7_heldAt_64 : decode cX7_heldAt 64 = .ok (.iaload, 1) := by decide +kernel
theorem dX7_heldAt_65 : decode cX7_heldAt 65 = .ok (.goto 4, 3) := by decide +kernel
theorem dX7_heldAt_68 : decode cX7_heldAt 68 = .ok (.iconst 0, 1) := by decide +kernel
theorem dX7_heldAt_69 : decode cX7_heldAt 69 = .ok (.ireturn, 1) := by decide +kernel
theorem dX7_held_0 : decode cX7_held 0 = .ok (.iconst 0, 1) := by decide +kernel
theorem dX7_held_1 : decode cX7_held 1 = .ok (.istore_n 3, 1) := by decide +kernel
theorem dX7_held_2 : decode cX7_held 2 = .ok (.iconst 0, 1) := by decide +kernel
theorem dX7_held_3 : decode cX7_held 3 = .ok (.istore 4, 2) := by decide +kernel
theorem dX7_held_5 : decode cX7_held 5 = .ok (.iload 4, 2) := by decide +kernel
theorem dX7_held_7 : decode cX7_held 7 = .ok (.iconst 4, 1) := by decide +kernel
theorem dX7_held_8 : decode cX7_held 8 = .ok (.if_icmp .ge 20, 3) := by decide +kernel
theorem dX7_held_11 : decode cX7_held 11 = .ok (.iload_n 3, 1) := by decide +kernel
theorem dX7_held_12 : decode cX7_held 12 = .ok (.aload_n 0, 1) := by decide +kernel
theorem dX7_held_13 : decode cX7_held 13 = .ok (.iload_n 1, 1) := by decide +kernel
theorem dX7_held_14 : decode cX7_held 14 = .ok (.iload_n 2, 1) := by decide +kernel
theorem dX7_held_15 : decode cX7_held 15 = .ok (.iload 4, 2) := by decide +kernel
theorem dX7_held_17 : decode cX7_held 17 = .ok (.invokevirtual 84, 3) := by decide +kernel
theorem dX7_held_20 : decode cX7_held 20 = .ok (.iadd, 1) := by decide +kernel
theorem dX7_held_21 : decode cX7_held 21 = .ok (.istore_n 3, 1) := by decide +kernel
theorem dX7_held_22 : decode cX7_held 22 = .ok (.iinc 4 1, 3) := by decide +kernel
theorem dX7_held_25 : decode cX7_held 25 = .ok (.goto (-20), 3) := by decide +kernel
theorem dX7_held_28 : decode cX7_held 28 = .ok (.iload_n 3, 1) := by decide +kernel
theorem dX7_held_29 : decode cX7_held 29 = .ok (.ireturn, 1) := by decide +kernel
theorem dX7_errorsOf_0 : decode cX7_errorsOf 0 = .ok (.iconst 0, 1) := by decide +kernel
theorem dX7_errorsOf_1 : decode cX7_errorsOf 1 = .ok (.istore_n 3, 1) := by decide +kernel
theorem dX7_errorsOf_2 : decode cX7_errorsOf 2 = .ok (.iconst 0, 1) := by decide +kernel
theorem dX7_errorsOf_3 : decode cX7_errorsOf 3 = .ok (.istore 4, 2) := by decide +kernel
theorem dX7_errorsOf_5 : decode cX7_errorsOf 5 = .ok (.iload 4, 2) := by decide +kernel
theorem dX7_errorsOf_7 : decode cX7_errorsOf 7 = .ok (.iconst 4, 1) := by decide +kernel
theorem dX7_errorsOf_8 : decode cX7_errorsOf 8 = .ok (.if_icmp .ge 90, 3) := by decide +kernel
theorem dX7_errorsOf_11 : decode cX7_errorsOf 11 = .ok (.iload_n 1, 1) := by decide +kernel
theorem dX7_errorsOf_12 : decode cX7_errorsOf 12 = .ok (.iload 4, 2) := by decide +kernel
theorem dX7_errorsOf_14 : decode cX7_errorsOf 14 = .ok (.invokestatic 73, 3) := by decide +kernel
theorem dX7_errorsOf_17 : decode cX7_errorsOf 17 = .ok (.istore 5, 2) := by decide +kernel
theorem dX7_errorsOf_19 : decode cX7_errorsOf 19 = .ok (.iload 5, 2) := by decide +kernel
theorem dX7_errorsOf_21 : decode cX7_errorsOf 21 = .ok (.ifCond .lt 71, 3) := by decide +kernel
theorem dX7_errorsOf_24 : decode cX7_errorsOf 24 = .ok (.aload_n 0, 1) := by decide +kernel
theorem dX7_errorsOf_25 : decode cX7_errorsOf 25 = .ok (.iload 5, 2) := by decide +kernel
theorem dX7_errorsOf_27 : decode cX7_errorsOf 27 = .ok (.invokevirtual 77, 3) := by decide +kernel
theorem dX7_errorsOf_30 : decode cX7_errorsOf 30 = .ok (.ifCond .eq 6, 3) := by decide +kernel
theorem dX7_errorsOf_33 : decode cX7_errorsOf 33 = .ok (.goto 59, 3) := by decide +kernel
theorem dX7_errorsOf_36 : decode cX7_errorsOf 36 = .ok (.aload_n 0, 1) := by decide +kernel
theorem dX7_errorsOf_37 : decode cX7_errorsOf 37 = .ok (.iload_n 2, 1) := by decide +kernel
theorem dX7_errorsOf_38 : decode cX7_errorsOf 38 = .ok (.iload 4, 2) := by decide +kernel
theorem dX7_errorsOf_40 : decode cX7_errorsOf 40 = .ok (.invokevirtual 81, 3) := by decide +kernel
theorem dX7_errorsOf_43 : decode cX7_errorsOf 43 = .ok (.istore 6, 2) := by decide +kernel
theorem dX7_errorsOf_45 : decode cX7_errorsOf 45 = .ok (.aload_n 0, 1) := by decide +kernel
theorem dX7_errorsOf_46 : decode cX7_errorsOf 46 = .ok (.aload_n 0, 1) := by decide +kernel
theorem dX7_errorsOf_47 : decode cX7_errorsOf 47 = .ok (.getfield 7, 3) := by decide +kernel
theorem dX7_errorsOf_50 : decode cX7_errorsOf 50 = .ok (.bipush 45, 2) := by decide +kernel
theorem dX7_errorsOf_52 : decode cX7_errorsOf 52 = .ok (.iload 5, 2) := by decide +kernel
theorem dX7_errorsOf_54 : decode cX7_errorsOf 54 = .ok (.iadd, 1) := by decide +kernel
theorem dX7_errorsOf_55 : decode cX7_errorsOf 55 = .ok (.iaload, 1) := by decide +kernel
theorem dX7_errorsOf_56 : decode cX7_errorsOf 56 = .ok (.iload 4, 2) := by decide +kernel
theorem dX7_errorsOf_58 : decode cX7_errorsOf 58 = .ok (.iconst 2, 1) := by decide +kernel
theorem dX7_errorsOf_59 : decode cX7_errorsOf 59 = .ok (.iadd, 1) := by decide +kernel
theorem dX7_errorsOf_60 : decode cX7_errorsOf 60 = .ok (.iconst 4, 1) := by decide +kernel
theorem dX7_errorsOf_61 : decode cX7_errorsOf 61 = .ok (.irem, 1) := by decide +kernel
theorem dX7_errorsOf_62 : decode cX7_errorsOf 62 = .ok (.invokevirtual 81, 3) := by decide +kernel
theorem dX7_errorsOf_65 : decode cX7_errorsOf 65 = .ok (.istore 7, 2) := by decide +kernel
theorem dX7_errorsOf_67 : decode cX7_errorsOf 67 = .ok (.iload_n 3, 1) := by decide +kernel
theorem dX7_errorsOf_68 : decode cX7_errorsOf 68 = .ok (.iload 6, 2) := by decide +kernel
theorem dX7_errorsOf_70 : decode cX7_errorsOf 70 = .ok (.iload 7, 2) := by decide +kernel
theorem dX7_errorsOf_72 : decode cX7_errorsOf 72 = .ok (.if_icmp .eq 17, 3) := by decide +kernel
theorem dX7_errorsOf_75 : decode cX7_errorsOf 75 = .ok (.iload 6, 2) := by decide +kernel
theorem dX7_errorsOf_77 : decode cX7_errorsOf 77 = .ok (.ifCond .le 12, 3) := by decide +kernel
theorem dX7_errorsOf_80 : decode cX7_errorsOf 80 = .ok (.iload 7, 2) := by decide +kernel
theorem dX7_errorsOf_82 : decode cX7_errorsOf 82 = .ok (.ifCond .le 7, 3) := by decide +kernel
theorem dX7_errorsOf_85 : decode cX7_errorsOf 85 = .ok (.iconst 1, 1) := by decide +kernel
theorem dX7_errorsOf_86 : decode cX7_errorsOf 86 = .ok (.goto 4, 3) := by decide +kernel
theorem dX7_errorsOf_89 : decode cX7_errorsOf 89 = .ok (.iconst 0, 1) := by decide +kernel
theorem dX7_errorsOf_90 : decode cX7_errorsOf 90 = .ok (.iadd, 1) := by decide +kernel
theorem dX7_errorsOf_91 : decode cX7_errorsOf 91 = .ok (.istore_n 3, 1) := by decide +kernel
theorem dX7_errorsOf_92 : decode cX7_errorsOf 92 = .ok (.iinc 4 1, 3) := by decide +kernel
theorem dX7_errorsOf_95 : decode cX7_errorsOf 95 = .ok (.goto (-90), 3) := by decide +kernel
theorem dX7_errorsOf_98 : decode cX7_errorsOf 98 = .ok (.iload_n 3, 1) := by decide +kernel
theorem dX7_errorsOf_99 : decode cX7_errorsOf 99 = .ok (.ireturn, 1) := by decide +kernel
theorem dX7_bricks_0 : decode cX7_bricks 0 = .ok (.iconst 0, 1) := by decide +kernel
theorem dX7_bricks_1 : decode cX7_bricks 1 = .ok (.istore_n 1, 1) := by decide +kernel
theorem dX7_bricks_2 : decode cX7_bricks 2 = .ok (.iconst 0, 1) := by decide +kernel
theorem dX7_bricks_3 : decode cX7_bricks 3 = .ok (.istore_n 2, 1) := by decide +kernel
theorem dX7_bricks_4 : decode cX7_bricks 4 = .ok (.iload_n 2, 1) := by decide +kernel
theorem dX7_bricks_5 : decode cX7_bricks 5 = .ok (.bipush 42, 2) := by decide +kernel
theorem dX7_bricks_7 : decode cX7_bricks 7 = .ok (.if_icmp .ge 25, 3) := by decide +kernel
theorem dX7_bricks_10 : decode cX7_bricks 10 = .ok (.iload_n 1, 1) := by decide +kernel
theorem dX7_bricks_11 : decode cX7_bricks 11 = .ok (.aload_n 0, 1) := by decide +kernel
theorem dX7_bricks_12 : decode cX7_bricks 12 = .ok (.iload_n 2, 1) := by decide +kernel
theorem dX7_bricks_13 : decode cX7_bricks 13 = .ok (.invokevirtual 77, 3) := by decide +kernel
theorem dX7_bricks_16 : decode cX7_bricks 16 = .ok (.ifCond .eq 7, 3) := by decide +kernel
theorem dX7_bricks_19 : decode cX7_bricks 19 = .ok (.iconst 0, 1) := by decide +kernel
theorem dX7_bricks_20 : decode cX7_bricks 20 = .ok (.goto 4, 3) := by decide +kernel
theorem dX7_bricks_23 : decode cX7_bricks 23 = .ok (.iconst 1, 1) := by decide +kernel
theorem dX7_bricks_24 : decode cX7_bricks 24 = .ok (.iadd, 1) := by decide +kernel
theorem dX7_bricks_25 : decode cX7_bricks 25 = .ok (.istore_n 1, 1) := by decide +kernel
theorem dX7_bricks_26 : decode cX7_bricks 26 = .ok (.iinc 2 1, 3) := by decide +kernel
theorem dX7_bricks_29 : decode cX7_bricks 29 = .ok (.goto (-25), 3) := by decide +kernel
theorem dX7_bricks_32 : decode cX7_bricks 32 = .ok (.iload_n 1, 1) := by decide +kernel
theorem dX7_bricks_33 : decode cX7_bricks 33 = .ok (.ireturn, 1) := by decide +kernel
theorem dX7_standing0_0 : decode cX7_standing0 0 = .ok (.iconst 0, 1) := by decide +kernel
theorem dX7_standing0_1 : decode cX7_standing0 1 = .ok (.istore_n 1, 1) := by decide +kernel
theorem dX7_standing0_2 : decode cX7_standing0 2 = .ok (.iconst 0, 1) := by decide +kernel
theorem dX7_standing0_3 : decode cX7_standing0 3 = .ok (.istore_n 2, 1) := by decide +kernel
theorem dX7_standing0_4 : decode cX7_standing0 4 = .ok (.iload_n 2, 1) := by decide +kernel
theorem dX7_standing0_5 : decode cX7_standing0 5 = .ok (.bipush 42, 2) := by decide +kernel
theorem dX7_standing0_7 : decode cX7_standing0 7 = .ok (.if_icmp .ge 30, 3) := by decide +kernel
theorem dX7_standing0_10 : decode cX7_standing0 10 = .ok (.aload_n 0, 1) := by decide +kernel
theorem dX7_standing0_11 : decode cX7_standing0 11 = .ok (.getfield 36, 3) := by decide +kernel
theorem dX7_standing0_14 : decode cX7_standing0 14 = .ok (.iload_n 2, 1) := by decide +kernel
theorem dX7_standing0_15 : decode cX7_standing0 15 = .ok (.iload_n 2, 1) := by decide +kernel
theorem dX7_standing0_16 : decode cX7_standing0 16 = .ok (.aload_n 0, 1) := by decide +kernel
theorem dX7_standing0_17 : decode cX7_standing0 17 = .ok (.getfield 7, 3) := by decide +kernel
theorem dX7_standing0_20 : decode cX7_standing0 20 = .ok (.iconst 1, 1) := by decide +kernel
theorem dX7_standing0_21 : decode cX7_standing0 21 = .ok (.iaload, 1) := by decide +kernel
theorem dX7_standing0_22 : decode cX7_standing0 22 = .ok (.if_icmp .ne 7, 3) := by decide +kernel
theorem dX7_standing0_25 : decode cX7_standing0 25 = .ok (.iconst 1, 1) := by decide +kernel
theorem dX7_standing0_26 : decode cX7_standing0 26 = .ok (.goto 4, 3) := by decide +kernel
theorem dX7_standing0_29 : decode cX7_standing0 29 = .ok (.iconst 0, 1) := by decide +kernel
theorem dX7_standing0_30 : decode cX7_standing0 30 = .ok (.bastore, 1) := by decide +kernel
theorem dX7_standing0_31 : decode cX7_standing0 31 = .ok (.iinc 2 1, 3) := by decide +kernel
theorem dX7_standing0_34 : decode cX7_standing0 34 = .ok (.goto (-30), 3) := by decide +kernel
theorem dX7_standing0_37 : decode cX7_standing0 37 = .ok (.aload_n 0, 1) := by decide +kernel
theorem dX7_standing0_38 : decode cX7_standing0 38 = .ok (.getfield 7, 3) := by decide +kernel
theorem dX7_standing0_41 : decode cX7_standing0 41 = .ok (.iconst 1, 1) := by decide +kernel
theorem dX7_standing0_42 : decode cX7_standing0 42 = .ok (.iaload, 1) := by decide +kernel
theorem dX7_standing0_43 : decode cX7_standing0 43 = .ok (.ifCond .lt 7, 3) := by decide +kernel
theorem dX7_standing0_46 : decode cX7_standing0 46 = .ok (.iconst 1, 1) := by decide +kernel
theorem dX7_standing0_47 : decode cX7_standing0 47 = .ok (.goto 4, 3) := by decide +kernel
theorem dX7_standing0_50 : decode cX7_standing0 50 = .ok (.iconst 0, 1) := by decide +kernel
theorem dX7_standing0_51 : decode cX7_standing0 51 = .ok (.istore_n 2, 1) := by decide +kernel
theorem dX7_standing0_52 : decode cX7_standing0 52 = .ok (.iload_n 2, 1) := by decide +kernel
theorem dX7_standing0_53 : decode cX7_standing0 53 = .ok (.ifCond .eq 106, 3) := by decide +kernel
theorem dX7_standing0_56 : decode cX7_standing0 56 = .ok (.iconst 0, 1) := by decide +kernel
theorem dX7_standing0_57 : decode cX7_standing0 57 = .ok (.istore_n 2, 1) := by decide +kernel
theorem dX7_standing0_58 : decode cX7_standing0 58 = .ok (.iconst 0, 1) := by decide +kernel
theorem dX7_standing0_59 : decode cX7_standing0 59 = .ok (.istore_n 3, 1) := by decide +kernel
theorem dX7_standing0_60 : decode cX7_standing0 60 = .ok (.iload_n 3, 1) := by decide +kernel
theorem dX7_standing0_61 : decode cX7_standing0 61 = .ok (.bipush 42, 2) := by decide +kernel
theorem dX7_standing0_63 : decode cX7_standing0 63 = .ok (.if_icmp .ge 93, 3) := by decide +kernel
theorem dX7_standing0_66 : decode cX7_standing0 66 = .ok (.aload_n 0, 1) := by decide +kernel
theorem dX7_standing0_67 : decode cX7_standing0 67 = .ok (.getfield 36, 3) := by decide +kernel
theorem dX7_standing0_70 : decode cX7_standing0 70 = .ok (.iload_n 3, 1) := by decide +kernel
theorem dX7_standing0_71 : decode cX7_standing0 71 = .ok (.baload, 1) := by decide +kernel
theorem dX7_standing0_72 : decode cX7_standing0 72 = .ok (.ifCond .ne 78, 3) := by decide +kernel
theorem dX7_standing0_75 : decode cX7_standing0 75 = .ok (.aload_n 0, 1) := by decide +kernel
theorem dX7_standing0_76 : decode cX7_standing0 76 = .ok (.iload_n 3, 1) := by decide +kernel
theorem dX7_standing0_77 : decode cX7_standing0 77 = .ok (.invokevirtual 77, 3) := by decide +kernel
theorem dX7_standing0_80 : decode cX7_standing0 80 = .ok (.ifCond .eq 6, 3) := by decide +kernel
theorem dX7_standing0_83 : decode cX7_standing0 83 = .ok (.goto 67, 3) := by decide +kernel
theorem dX7_standing0_86 : decode cX7_standing0 86 = .ok (.iconst 0, 1) := by decide +kernel
theorem dX7_standing0_87 : decode cX7_standing0 87 = .ok (.istore 4, 2) := by decide +kernel
theorem dX7_standing0_89 : decode cX7_standing0 89 = .ok (.iload 4, 2) := by decide +kernel
theorem dX7_standing0_91 : decode cX7_standing0 91 = .ok (.iconst 4, 1) := by decide +kernel
theorem dX7_standing0_92 : decode cX7_standing0 92 = .ok (.if_icmp .ge 49, 3) := by decide +kernel
theorem dX7_standing0_95 : decode cX7_standing0 95 = .ok (.aload_n 0, 1) := by decide +kernel
theorem dX7_standing0_96 : decode cX7_standing0 96 = .ok (.iload_n 3, 1) := by decide +kernel
theorem dX7_standing0_97 : decode cX7_standing0 97 = .ok (.aload_n 0, 1) := by decide +kernel
theorem dX7_standing0_98 : decode cX7_standing0 98 = .ok (.getfield 7, 3) := by decide +kernel
theorem dX7_standing0_101 : decode cX7_standing0 101 = .ok (.bipush 45, 2) := by decide +kernel
theorem dX7_standing0_103 : decode cX7_standing0 103 = .ok (.iload_n 3, 1) := by decide +kernel
theorem dX7_standing0_104 : decode cX7_standing0 104 = .ok (.iadd, 1) := by decide +kernel
theorem dX7_standing0_105 : decode cX7_standing0 105 = .ok (.iaload, 1) := by decide +kernel
theorem dX7_standing0_106 : decode cX7_standing0 106 = .ok (.iload 4, 2) := by decide +kernel
theorem dX7_standing0_108 : decode cX7_standing0 108 = .ok (.invokevirtual 84, 3) := by decide +kernel
theorem dX7_standing0_111 : decode cX7_standing0 111 = .ok (.ifCond .le 24, 3) := by decide +kernel
theorem dX7_standing0_114 : decode cX7_standing0 114 = .ok (.aload_n 0, 1) := by decide +kernel
theorem dX7_standing0_115 : decode cX7_standing0 115 = .ok (.getfield 36, 3) := by decide +kernel
theorem dX7_standing0_118 : decode cX7_standing0 118 = .ok (.iload_n 3, 1) := by decide +kernel
theorem dX7_standing0_119 : decode cX7_standing0 119 = .ok (.iload 4, 2) := by decide +kernel
theorem dX7_standing0_121 : decode cX7_standing0 121 = .ok (.invokestatic 73, 3) := by decide +kernel
theorem dX7_standing0_124 : decode cX7_standing0 124 = .ok (.baload, 1) := by decide +kernel
theorem dX7_standing0_125 : decode cX7_standing0 125 = .ok (.ifCond .eq 10, 3) := by decide +kernel
theorem dX7_standing0_128 : decode cX7_standing0 128 = .ok (.aload_n 0, 1) := by decide +kernel
theorem dX7_standing0_129 : decode cX7_standing0 129 = .ok (.getfield 36, 3) := by decide +kernel
theorem dX7_standing0_132 : decode cX7_standing0 132 = .ok (.iload_n 3, 1) := by decide +kernel
theorem dX7_standing0_133 : decode cX7_standing0 133 = .ok (.iconst 1, 1) := by decide +kernel
theorem dX7_standing0_134 : decode cX7_standing0 134 = .ok (.bastore, 1) := by decide +kernel
theorem dX7_standing0_135 : decode cX7_standing0 135 = .ok (.iinc 4 1, 3) := by decide +kernel
theorem dX7_standing0_138 : decode cX7_standing0 138 = .ok (.goto (-49), 3) := by decide +kernel
theorem dX7_standing0_141 : decode cX7_standing0 141 = .ok (.iload_n 2, 1) := by decide +kernel
theorem dX7_standing0_142 : decode cX7_standing0 142 = .ok (.aload_n 0, 1) := by decide +kernel
theorem dX7_standing0_143 : decode cX7_standing0 143 = .ok (.getfield 36, 3) := by decide +kernel
theorem dX7_standing0_146 : decode cX7_standing0 146 = .ok (.iload_n 3, 1) := by decide +kernel
theorem dX7_standing0_147 : decode cX7_standing0 147 = .ok (.baload, 1) := by decide +kernel
theorem dX7_standing0_148 : decode cX7_standing0 148 = .ok (.ior, 1) := by decide +kernel
theorem dX7_standing0_149 : decode cX7_standing0 149 = .ok (.istore_n 2, 1) := by decide +kernel
theorem dX7_standing0_150 : decode cX7_standing0 150 = .ok (.iinc 3 1, 3) := by decide +kernel
theorem dX7_standing0_153 : decode cX7_standing0 153 = .ok (.goto (-93), 3) := by decide +kernel
theorem dX7_standing0_156 : decode cX7_standing0 156 = .ok (.goto (-104), 3) := by decide +kernel
theorem dX7_standing0_159 : decode cX7_standing0 159 = .ok (.iconst 0, 1) := by decide +kernel
theorem dX7_standing0_160 : decode cX7_standing0 160 = .ok (.istore_n 3, 1) := by decide +kernel
theorem dX7_standing0_161 : decode cX7_standing0 161 = .ok (.iload_n 3, 1) := by decide +kernel
theorem dX7_standing0_162 : decode cX7_standing0 162 = .ok (.bipush 42, 2) := by decide +kernel
theorem dX7_standing0_164 : decode cX7_standing0 164 = .ok (.if_icmp .ge 26, 3) := by decide +kernel
theorem dX7_standing0_167 : decode cX7_standing0 167 = .ok (.iload_n 1, 1) := by decide +kernel
theorem dX7_standing0_168 : decode cX7_standing0 168 = .ok (.aload_n 0, 1) := by decide +kernel
theorem dX7_standing0_169 : decode cX7_standing0 169 = .ok (.getfield 36, 3) := by decide +kernel
theorem dX7_standing0_172 : decode cX7_standing0 172 = .ok (.iload_n 3, 1) := by decide +kernel
theorem dX7_standing0_173 : decode cX7_standing0 173 = .ok (.baload, 1) := by decide +kernel
theorem dX7_standing0_174 : decode cX7_standing0 174 = .ok (.ifCond .eq 7, 3) := by decide +kernel
theorem dX7_standing0_177 : decode cX7_standing0 177 = .ok (.iconst 1, 1) := by decide +kernel
theorem dX7_standing0_178 : decode cX7_standing0 178 = .ok (.goto 4, 3) := by decide +kernel
theorem dX7_standing0_181 : decode cX7_standing0 181 = .ok (.iconst 0, 1) := by decide +kernel
theorem dX7_standing0_182 : decode cX7_standing0 182 = .ok (.iadd, 1) := by decide +kernel
theorem dX7_standing0_183 : decode cX7_standing0 183 = .ok (.istore_n 1, 1) := by decide +kernel
theorem dX7_standing0_184 : decode cX7_standing0 184 = .ok (.iinc 3 1, 3) := by decide +kernel
theorem dX7_standing0_187 : decode cX7_standing0 187 = .ok (.goto (-26), 3) := by decide +kernel
theorem dX7_standing0_190 : decode cX7_standing0 190 = .ok (.iload_n 1, 1) := by decide +kernel
theorem dX7_standing0_191 : decode cX7_standing0 191 = .ok (.ireturn, 1) := by decide +kernel
theorem dX7_fallsBy_0 : decode cX7_fallsBy 0 = .ok (.aload_n 0, 1) := by decide +kernel
theorem dX7_fallsBy_1 : decode cX7_fallsBy 1 = .ok (.invokevirtual 88, 3) := by decide +kernel
theorem dX7_fallsBy_4 : decode cX7_fallsBy 4 = .ok (.istore_n 2, 1) := by decide +kernel
theorem dX7_fallsBy_5 : decode cX7_fallsBy 5 = .ok (.iload_n 1, 1) := by decide +kernel
theorem dX7_fallsBy_6 : decode cX7_fallsBy 6 = .ok (.aload_n 0, 1) := by decide +kernel
theorem dX7_fallsBy_7 : decode cX7_fallsBy 7 = .ok (.getfield 7, 3) := by decide +kernel
theorem dX7_fallsBy_10 : decode cX7_fallsBy 10 = .ok (.iconst 1, 1) := by decide +kernel
theorem dX7_fallsBy_11 : decode cX7_fallsBy 11 = .ok (.iaload, 1) := by decide +kernel
theorem dX7_fallsBy_12 : decode cX7_fallsBy 12 = .ok (.if_icmp .ne 7, 3) := by decide +kernel
theorem dX7_fallsBy_15 : decode cX7_fallsBy 15 = .ok (.iload_n 2, 1) := by decide +kernel
theorem dX7_fallsBy_16 : decode cX7_fallsBy 16 = .ok (.iconst 1, 1) := by decide +kernel
theorem dX7_fallsBy_17 : decode cX7_fallsBy 17 = .ok (.isub, 1) := by decide +kernel
theorem dX7_fallsBy_18 : decode cX7_fallsBy 18 = .ok (.ireturn, 1) := by decide +kernel
theorem dX7_fallsBy_19 : decode cX7_fallsBy 19 = .ok (.aload_n 0, 1) := by decide +kernel
theorem dX7_fallsBy_20 : decode cX7_fallsBy 20 = .ok (.getfield 36, 3) := by decide +kernel
theorem dX7_fallsBy_23 : decode cX7_fallsBy 23 = .ok (.iload_n 1, 1) := by decide +kernel
theorem dX7_fallsBy_24 : decode cX7_fallsBy 24 = .ok (.baload, 1) := by decide +kernel
theorem dX7_fallsBy_25 : decode cX7_fallsBy 25 = .ok (.ifCond .eq 7, 3) := by decide +kernel
theorem dX7_fallsBy_28 : decode cX7_fallsBy 28 = .ok (.iconst 1, 1) := by decide +kernel
theorem dX7_fallsBy_29 : decode cX7_fallsBy 29 = .ok (.goto 4, 3) := by decide +kernel
theorem dX7_fallsBy_32 : decode cX7_fallsBy 32 = .ok (.iconst 0, 1) := by decide +kernel
theorem dX7_fallsBy_33 : decode cX7_fallsBy 33 = .ok (.istore_n 3, 1) := by decide +kernel
theorem dX7_fallsBy_34 : decode cX7_fallsBy 34 = .ok (.aload_n 0, 1) := by decide +kernel
theorem dX7_fallsBy_35 : decode cX7_fallsBy 35 = .ok (.getfield 7, 3) := by decide +kernel
theorem dX7_fallsBy_38 : decode cX7_fallsBy 38 = .ok (.bipush 45, 2) := by decide +kernel
theorem dX7_fallsBy_40 : decode cX7_fallsBy 40 = .ok (.iload_n 1, 1) := by decide +kernel
theorem dX7_fallsBy_41 : decode cX7_fallsBy 41 = .ok (.iadd, 1) := by decide +kernel
theorem dX7_fallsBy_42 : decode cX7_fallsBy 42 = .ok (.iaload, 1) := by decide +kernel
theorem dX7_fallsBy_43 : decode cX7_fallsBy 43 = .ok (.istore 4, 2) := by decide +kernel
theorem dX7_fallsBy_45 : decode cX7_fallsBy 45 = .ok (.aload_n 0, 1) := by decide +kernel
theorem dX7_fallsBy_46 : decode cX7_fallsBy 46 = .ok (.getfield 7, 3) := by decide +kernel
theorem dX7_fallsBy_49 : decode cX7_fallsBy 49 = .ok (.bipush 45, 2) := by decide +kernel
theorem dX7_fallsBy_51 : decode cX7_fallsBy 51 = .ok (.iload_n 1, 1) := by decide +kernel
theorem dX7_fallsBy_52 : decode cX7_fallsBy 52 = .ok (.iadd, 1) := by decide +kernel
theorem dX7_fallsBy_53 : decode cX7_fallsBy 53 = .ok (.iconst (-1), 1) := by decide +kernel
theorem dX7_fallsBy_54 : decode cX7_fallsBy 54 = .ok (.iastore, 1) := by decide +kernel
theorem dX7_fallsBy_55 : decode cX7_fallsBy 55 = .ok (.aload_n 0, 1) := by decide +kernel
theorem dX7_fallsBy_56 : decode cX7_fallsBy 56 = .ok (.invokevirtual 88, 3) := by decide +kernel
theorem dX7_fallsBy_59 : decode cX7_fallsBy 59 = .ok (.istore 5, 2) := by decide +kernel
theorem dX7_fallsBy_61 : decode cX7_fallsBy 61 = .ok (.aload_n 0, 1) := by decide +kernel
theorem dX7_fallsBy_62 : decode cX7_fallsBy 62 = .ok (.getfield 7, 3) := by decide +kernel
theorem dX7_fallsBy_65 : decode cX7_fallsBy 65 = .ok (.bipush 45, 2) := by decide +kernel
theorem dX7_fallsBy_67 : decode cX7_fallsBy 67 = .ok (.iload_n 1, 1) := by decide +kernel
theorem dX7_fallsBy_68 : decode cX7_fallsBy 68 = .ok (.iadd, 1) := by decide +kernel
theorem dX7_fallsBy_69 : decode cX7_fallsBy 69 = .ok (.iload 4, 2) := by decide +kernel
theorem dX7_fallsBy_71 : decode cX7_fallsBy 71 = .ok (.iastore, 1) := by decide +kernel
theorem dX7_fallsBy_72 : decode cX7_fallsBy 72 = .ok (.iload_n 2, 1) := by decide +kernel
theorem dX7_fallsBy_73 : decode cX7_fallsBy 73 = .ok (.iload_n 3, 1) := by decide +kernel
theorem dX7_fallsBy_74 : decode cX7_fallsBy 74 = .ok (.isub, 1) := by decide +kernel
theorem dX7_fallsBy_75 : decode cX7_fallsBy 75 = .ok (.iload 5, 2) := by decide +kernel
theorem dX7_fallsBy_77 : decode cX7_fallsBy 77 = .ok (.isub, 1) := by decide +kernel
theorem dX7_fallsBy_78 : decode cX7_fallsBy 78 = .ok (.ireturn, 1) := by decide +kernel
theorem dX7_kind_0 : decode cX7_kind 0 = .ok (.iload_n 1, 1) := by decide +kernel
theorem dX7_kind_1 : decode cX7_kind 1 = .ok (.iconst 0, 1) := by decide +kernel
theorem dX7_kind_2 : decode cX7_kind 2 = .ok (.bipush 6, 2) := by decide +kernel
theorem dX7_kind_4 : decode cX7_kind 4 = .ok (.invokestatic 69, 3) := by decide +kernel
theorem dX7_kind_7 : decode cX7_kind 7 = .ok (.ifCond .eq 34, 3) := by decide +kernel
theorem dX7_kind_10 : decode cX7_kind 10 = .ok (.iload_n 2, 1) := by decide +kernel
theorem dX7_kind_11 : decode cX7_kind 11 = .ok (.iconst 0, 1) := by decide +kernel
theorem dX7_kind_12 : decode cX7_kind 12 = .ok (.bipush 6, 2) := by decide +kernel
