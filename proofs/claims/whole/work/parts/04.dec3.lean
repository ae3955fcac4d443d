theorem dX7_kind_14 : decode cX7_kind 14 = .ok (.invokestatic 69, 3) := by decide +kernel
theorem dX7_kind_17 : decode cX7_kind 17 = .ok (.ifCond .eq 24, 3) := by decide +kernel
theorem dX7_kind_20 : decode cX7_kind 20 = .ok (.iload_n 3, 1) := by decide +kernel
theorem dX7_kind_21 : decode cX7_kind 21 = .ok (.iconst 0, 1) := by decide +kernel
theorem dX7_kind_22 : decode cX7_kind 22 = .ok (.bipush 6, 2) := by decide +kernel
theorem dX7_kind_24 : decode cX7_kind 24 = .ok (.invokestatic 69, 3) := by decide +kernel
theorem dX7_kind_27 : decode cX7_kind 27 = .ok (.ifCond .eq 14, 3) := by decide +kernel
theorem dX7_kind_30 : decode cX7_kind 30 = .ok (.iload 4, 2) := by decide +kernel
theorem dX7_kind_32 : decode cX7_kind 32 = .ok (.iconst 0, 1) := by decide +kernel
theorem dX7_kind_33 : decode cX7_kind 33 = .ok (.bipush 6, 2) := by decide +kernel
theorem dX7_kind_35 : decode cX7_kind 35 = .ok (.invokestatic 69, 3) := by decide +kernel
theorem dX7_kind_38 : decode cX7_kind 38 = .ok (.ifCond .ne 10, 3) := by decide +kernel
theorem dX7_kind_41 : decode cX7_kind 41 = .ok (.aload_n 0, 1) := by decide +kernel
theorem dX7_kind_42 : decode cX7_kind 42 = .ok (.iconst 1, 1) := by decide +kernel
theorem dX7_kind_43 : decode cX7_kind 43 = .ok (.iconst 0, 1) := by decide +kernel
theorem dX7_kind_44 : decode cX7_kind 44 = .ok (.invokevirtual 92, 3) := by decide +kernel
theorem dX7_kind_47 : decode cX7_kind 47 = .ok (.ireturn, 1) := by decide +kernel
theorem dX7_kind_48 : decode cX7_kind 48 = .ok (.aload_n 0, 1) := by decide +kernel
theorem dX7_kind_49 : decode cX7_kind 49 = .ok (.getfield 7, 3) := by decide +kernel
theorem dX7_kind_52 : decode cX7_kind 52 = .ok (.iconst 0, 1) := by decide +kernel
theorem dX7_kind_53 : decode cX7_kind 53 = .ok (.iaload, 1) := by decide +kernel
theorem dX7_kind_54 : decode cX7_kind 54 = .ok (.bipush 8, 2) := by decide +kernel
theorem dX7_kind_56 : decode cX7_kind 56 = .ok (.if_icmp .ne 11, 3) := by decide +kernel
theorem dX7_kind_59 : decode cX7_kind 59 = .ok (.aload_n 0, 1) := by decide +kernel
theorem dX7_kind_60 : decode cX7_kind 60 = .ok (.iconst 2, 1) := by decide +kernel
theorem dX7_kind_61 : decode cX7_kind 61 = .ok (.bipush 8, 2) := by decide +kernel
theorem dX7_kind_63 : decode cX7_kind 63 = .ok (.invokevirtual 92, 3) := by decide +kernel
theorem dX7_kind_66 : decode cX7_kind 66 = .ok (.ireturn, 1) := by decide +kernel
theorem dX7_kind_67 : decode cX7_kind 67 = .ok (.aload_n 0, 1) := by decide +kernel
theorem dX7_kind_68 : decode cX7_kind 68 = .ok (.aload_n 0, 1) := by decide +kernel
theorem dX7_kind_69 : decode cX7_kind 69 = .ok (.getfield 7, 3) := by decide +kernel
theorem dX7_kind_72 : decode cX7_kind 72 = .ok (.invokevirtual 95, 3) := by decide +kernel
theorem dX7_kind_75 : decode cX7_kind 75 = .ok (.bipush 13, 2) := by decide +kernel
theorem dX7_kind_77 : decode cX7_kind 77 = .ok (.iconst 4, 1) := by decide +kernel
theorem dX7_kind_78 : decode cX7_kind 78 = .ok (.aload_n 0, 1) := by decide +kernel
theorem dX7_kind_79 : decode cX7_kind 79 = .ok (.getfield 7, 3) := by decide +kernel
theorem dX7_kind_82 : decode cX7_kind 82 = .ok (.iconst 0, 1) := by decide +kernel
theorem dX7_kind_83 : decode cX7_kind 83 = .ok (.iaload, 1) := by decide +kernel
theorem dX7_kind_84 : decode cX7_kind 84 = .ok (.imul, 1) := by decide +kernel
theorem dX7_kind_85 : decode cX7_kind 85 = .ok (.iadd, 1) := by decide +kernel
theorem dX7_kind_86 : decode cX7_kind 86 = .ok (.istore 5, 2) := by decide +kernel
theorem dX7_kind_88 : decode cX7_kind 88 = .ok (.aload_n 0, 1) := by decide +kernel
theorem dX7_kind_89 : decode cX7_kind 89 = .ok (.getfield 7, 3) := by decide +kernel
theorem dX7_kind_92 : decode cX7_kind 92 = .ok (.iload 5, 2) := by decide +kernel
theorem dX7_kind_94 : decode cX7_kind 94 = .ok (.iload_n 1, 1) := by decide +kernel
theorem dX7_kind_95 : decode cX7_kind 95 = .ok (.iastore, 1) := by decide +kernel
theorem dX7_kind_96 : decode cX7_kind 96 = .ok (.aload_n 0, 1) := by decide +kernel
theorem dX7_kind_97 : decode cX7_kind 97 = .ok (.getfield 7, 3) := by decide +kernel
theorem dX7_kind_100 : decode cX7_kind 100 = .ok (.iload 5, 2) := by decide +kernel
theorem dX7_kind_102 : decode cX7_kind 102 = .ok (.iconst 1, 1) := by decide +kernel
theorem dX7_kind_103 : decode cX7_kind 103 = .ok (.iadd, 1) := by decide +kernel
theorem dX7_kind_104 : decode cX7_kind 104 = .ok (.iload_n 2, 1) := by decide +kernel
theorem dX7_kind_105 : decode cX7_kind 105 = .ok (.iastore, 1) := by decide +kernel
theorem dX7_kind_106 : decode cX7_kind 106 = .ok (.aload_n 0, 1) := by decide +kernel
theorem dX7_kind_107 : decode cX7_kind 107 = .ok (.getfield 7, 3) := by decide +kernel
theorem dX7_kind_110 : decode cX7_kind 110 = .ok (.iload 5, 2) := by decide +kernel
theorem dX7_kind_112 : decode cX7_kind 112 = .ok (.iconst 2, 1) := by decide +kernel
theorem dX7_kind_113 : decode cX7_kind 113 = .ok (.iadd, 1) := by decide +kernel
theorem dX7_kind_114 : decode cX7_kind 114 = .ok (.iload_n 3, 1) := by decide +kernel
theorem dX7_kind_115 : decode cX7_kind 115 = .ok (.iastore, 1) := by decide +kernel
theorem dX7_kind_116 : decode cX7_kind 116 = .ok (.aload_n 0, 1) := by decide +kernel
theorem dX7_kind_117 : decode cX7_kind 117 = .ok (.getfield 7, 3) := by decide +kernel
theorem dX7_kind_120 : decode cX7_kind 120 = .ok (.iload 5, 2) := by decide +kernel
theorem dX7_kind_122 : decode cX7_kind 122 = .ok (.iconst 3, 1) := by decide +kernel
theorem dX7_kind_123 : decode cX7_kind 123 = .ok (.iadd, 1) := by decide +kernel
theorem dX7_kind_124 : decode cX7_kind 124 = .ok (.iload 4, 2) := by decide +kernel
theorem dX7_kind_126 : decode cX7_kind 126 = .ok (.iastore, 1) := by decide +kernel
theorem dX7_kind_127 : decode cX7_kind 127 = .ok (.aload_n 0, 1) := by decide +kernel
theorem dX7_kind_128 : decode cX7_kind 128 = .ok (.getfield 7, 3) := by decide +kernel
theorem dX7_kind_131 : decode cX7_kind 131 = .ok (.iconst 0, 1) := by decide +kernel
theorem dX7_kind_132 : decode cX7_kind 132 = .ok (.dup2, 1) := by decide +kernel
theorem dX7_kind_133 : decode cX7_kind 133 = .ok (.iaload, 1) := by decide +kernel
theorem dX7_kind_134 : decode cX7_kind 134 = .ok (.iconst 1, 1) := by decide +kernel
theorem dX7_kind_135 : decode cX7_kind 135 = .ok (.iadd, 1) := by decide +kernel
theorem dX7_kind_136 : decode cX7_kind 136 = .ok (.iastore, 1) := by decide +kernel
theorem dX7_kind_137 : decode cX7_kind 137 = .ok (.aload_n 0, 1) := by decide +kernel
theorem dX7_kind_138 : decode cX7_kind 138 = .ok (.getfield 7, 3) := by decide +kernel
theorem dX7_kind_141 : decode cX7_kind 141 = .ok (.iconst 0, 1) := by decide +kernel
theorem dX7_kind_142 : decode cX7_kind 142 = .ok (.iaload, 1) := by decide +kernel
theorem dX7_kind_143 : decode cX7_kind 143 = .ok (.iconst 1, 1) := by decide +kernel
theorem dX7_kind_144 : decode cX7_kind 144 = .ok (.isub, 1) := by decide +kernel
theorem dX7_kind_145 : decode cX7_kind 145 = .ok (.ireturn, 1) := by decide +kernel
theorem dX7_lay_0 : decode cX7_lay 0 = .ok (.iload_n 1, 1) := by decide +kernel
theorem dX7_lay_1 : decode cX7_lay 1 = .ok (.invokestatic 99, 3) := by decide +kernel
theorem dX7_lay_4 : decode cX7_lay 4 = .ok (.ifCond .eq 12, 3) := by decide +kernel
theorem dX7_lay_7 : decode cX7_lay 7 = .ok (.iload_n 3, 1) := by decide +kernel
theorem dX7_lay_8 : decode cX7_lay 8 = .ok (.iconst 0, 1) := by decide +kernel
theorem dX7_lay_9 : decode cX7_lay 9 = .ok (.iconst 3, 1) := by decide +kernel
theorem dX7_lay_10 : decode cX7_lay 10 = .ok (.invokestatic 69, 3) := by decide +kernel
theorem dX7_lay_13 : decode cX7_lay 13 = .ok (.ifCond .ne 10, 3) := by decide +kernel
theorem dX7_lay_16 : decode cX7_lay 16 = .ok (.aload_n 0, 1) := by decide +kernel
theorem dX7_lay_17 : decode cX7_lay 17 = .ok (.iconst 1, 1) := by decide +kernel
theorem dX7_lay_18 : decode cX7_lay 18 = .ok (.iconst 0, 1) := by decide +kernel
theorem dX7_lay_19 : decode cX7_lay 19 = .ok (.invokevirtual 92, 3) := by decide +kernel
theorem dX7_lay_22 : decode cX7_lay 22 = .ok (.ireturn, 1) := by decide +kernel
theorem dX7_lay_23 : decode cX7_lay 23 = .ok (.aload_n 0, 1) := by decide +kernel
theorem dX7_lay_24 : decode cX7_lay 24 = .ok (.iload_n 2, 1) := by decide +kernel
theorem dX7_lay_25 : decode cX7_lay 25 = .ok (.invokevirtual 102, 3) := by decide +kernel
theorem dX7_lay_28 : decode cX7_lay 28 = .ok (.ifCond .ne 10, 3) := by decide +kernel
theorem dX7_lay_31 : decode cX7_lay 31 = .ok (.aload_n 0, 1) := by decide +kernel
theorem dX7_lay_32 : decode cX7_lay 32 = .ok (.iconst 3, 1) := by decide +kernel
theorem dX7_lay_33 : decode cX7_lay 33 = .ok (.iload_n 2, 1) := by decide +kernel
theorem dX7_lay_34 : decode cX7_lay 34 = .ok (.invokevirtual 92, 3) := by decide +kernel
theorem dX7_lay_37 : decode cX7_lay 37 = .ok (.ireturn, 1) := by decide +kernel
theorem dX7_lay_38 : decode cX7_lay 38 = .ok (.aload_n 0, 1) := by decide +kernel
theorem dX7_lay_39 : decode cX7_lay 39 = .ok (.iload_n 1, 1) := by decide +kernel
theorem dX7_lay_40 : decode cX7_lay 40 = .ok (.invokevirtual 77, 3) := by decide +kernel
theorem dX7_lay_43 : decode cX7_lay 43 = .ok (.ifCond .ne 20, 3) := by decide +kernel
theorem dX7_lay_46 : decode cX7_lay 46 = .ok (.aload_n 0, 1) := by decide +kernel
theorem dX7_lay_47 : decode cX7_lay 47 = .ok (.iconst 4, 1) := by decide +kernel
theorem dX7_lay_48 : decode cX7_lay 48 = .ok (.aload_n 0, 1) := by decide +kernel
theorem dX7_lay_49 : decode cX7_lay 49 = .ok (.getfield 7, 3) := by decide +kernel
theorem dX7_lay_52 : decode cX7_lay 52 = .ok (.bipush 45, 2) := by decide +kernel
theorem dX7_lay_54 : decode cX7_lay 54 = .ok (.iload_n 1, 1) := by decide +kernel
theorem dX7_lay_55 : decode cX7_lay 55 = .ok (.iadd, 1) := by decide +kernel
theorem dX7_lay_56 : decode cX7_lay 56 = .ok (.iaload, 1) := by decide +kernel
theorem dX7_lay_57 : decode cX7_lay 57 = .ok (.iconst 4, 1) := by decide +kernel
theorem dX7_lay_58 : decode cX7_lay 58 = .ok (.idiv, 1) := by decide +kernel
theorem dX7_lay_59 : decode cX7_lay 59 = .ok (.invokevirtual 92, 3) := by decide +kernel
theorem dX7_lay_62 : decode cX7_lay 62 = .ok (.ireturn, 1) := by decide +kernel
theorem dX7_lay_63 : decode cX7_lay 63 = .ok (.aload_n 0, 1) := by decide +kernel
theorem dX7_lay_64 : decode cX7_lay 64 = .ok (.iload_n 1, 1) := by decide +kernel
theorem dX7_lay_65 : decode cX7_lay 65 = .ok (.iconst 4, 1) := by decide +kernel
theorem dX7_lay_66 : decode cX7_lay 66 = .ok (.iload_n 2, 1) := by decide +kernel
theorem dX7_lay_67 : decode cX7_lay 67 = .ok (.imul, 1) := by decide +kernel
theorem dX7_lay_68 : decode cX7_lay 68 = .ok (.iload_n 3, 1) := by decide +kernel
theorem dX7_lay_69 : decode cX7_lay 69 = .ok (.iadd, 1) := by decide +kernel
theorem dX7_lay_70 : decode cX7_lay 70 = .ok (.invokevirtual 105, 3) := by decide +kernel
theorem dX7_lay_73 : decode cX7_lay 73 = .ok (.istore 4, 2) := by decide +kernel
theorem dX7_lay_75 : decode cX7_lay 75 = .ok (.aload_n 0, 1) := by decide +kernel
theorem dX7_lay_76 : decode cX7_lay 76 = .ok (.getfield 7, 3) := by decide +kernel
theorem dX7_lay_79 : decode cX7_lay 79 = .ok (.iconst 1, 1) := by decide +kernel
theorem dX7_lay_80 : decode cX7_lay 80 = .ok (.iaload, 1) := by decide +kernel
theorem dX7_lay_81 : decode cX7_lay 81 = .ok (.ifCond .lt 29, 3) := by decide +kernel
theorem dX7_lay_84 : decode cX7_lay 84 = .ok (.iload 4, 2) := by decide +kernel
theorem dX7_lay_86 : decode cX7_lay 86 = .ok (.aload_n 0, 1) := by decide +kernel
theorem dX7_lay_87 : decode cX7_lay 87 = .ok (.getfield 7, 3) := by decide +kernel
theorem dX7_lay_90 : decode cX7_lay 90 = .ok (.iconst 2, 1) := by decide +kernel
theorem dX7_lay_91 : decode cX7_lay 91 = .ok (.iaload, 1) := by decide +kernel
theorem dX7_lay_92 : decode cX7_lay 92 = .ok (.if_icmp .ge 18, 3) := by decide +kernel
theorem dX7_lay_95 : decode cX7_lay 95 = .ok (.aload_n 0, 1) := by decide +kernel
theorem dX7_lay_96 : decode cX7_lay 96 = .ok (.iconst 5, 1) := by decide +kernel
theorem dX7_lay_97 : decode cX7_lay 97 = .ok (.aload_n 0, 1) := by decide +kernel
theorem dX7_lay_98 : decode cX7_lay 98 = .ok (.getfield 7, 3) := by decide +kernel
theorem dX7_lay_101 : decode cX7_lay 101 = .ok (.iconst 2, 1) := by decide +kernel
theorem dX7_lay_102 : decode cX7_lay 102 = .ok (.iaload, 1) := by decide +kernel
theorem dX7_lay_103 : decode cX7_lay 103 = .ok (.iload 4, 2) := by decide +kernel
theorem dX7_lay_105 : decode cX7_lay 105 = .ok (.isub, 1) := by decide +kernel
theorem dX7_lay_106 : decode cX7_lay 106 = .ok (.invokevirtual 92, 3) := by decide +kernel
theorem dX7_lay_109 : decode cX7_lay 109 = .ok (.ireturn, 1) := by decide +kernel
theorem dX7_lay_110 : decode cX7_lay 110 = .ok (.aload_n 0, 1) := by decide +kernel
theorem dX7_lay_111 : decode cX7_lay 111 = .ok (.aload_n 0, 1) := by decide +kernel
theorem dX7_lay_112 : decode cX7_lay 112 = .ok (.getfield 7, 3) := by decide +kernel
theorem dX7_lay_115 : decode cX7_lay 115 = .ok (.invokevirtual 95, 3) := by decide +kernel
theorem dX7_lay_118 : decode cX7_lay 118 = .ok (.aload_n 0, 1) := by decide +kernel
theorem dX7_lay_119 : decode cX7_lay 119 = .ok (.getfield 7, 3) := by decide +kernel
theorem dX7_lay_122 : decode cX7_lay 122 = .ok (.iconst 1, 1) := by decide +kernel
theorem dX7_lay_123 : decode cX7_lay 123 = .ok (.iaload, 1) := by decide +kernel
theorem dX7_lay_124 : decode cX7_lay 124 = .ok (.ifCond .ge 7, 3) := by decide +kernel
theorem dX7_lay_127 : decode cX7_lay 127 = .ok (.iconst 1, 1) := by decide +kernel
theorem dX7_lay_128 : decode cX7_lay 128 = .ok (.goto 4, 3) := by decide +kernel
theorem dX7_lay_131 : decode cX7_lay 131 = .ok (.iconst 0, 1) := by decide +kernel
theorem dX7_lay_132 : decode cX7_lay 132 = .ok (.istore 5, 2) := by decide +kernel
theorem dX7_lay_134 : decode cX7_lay 134 = .ok (.iload 5, 2) := by decide +kernel
theorem dX7_lay_136 : decode cX7_lay 136 = .ok (.ifCond .eq 10, 3) := by decide +kernel
theorem dX7_lay_139 : decode cX7_lay 139 = .ok (.aload_n 0, 1) := by decide +kernel
theorem dX7_lay_140 : decode cX7_lay 140 = .ok (.getfield 7, 3) := by decide +kernel
theorem dX7_lay_143 : decode cX7_lay 143 = .ok (.iconst 1, 1) := by decide +kernel
theorem dX7_lay_144 : decode cX7_lay 144 = .ok (.iload_n 1, 1) := by decide +kernel
theorem dX7_lay_145 : decode cX7_lay 145 = .ok (.iastore, 1) := by decide +kernel
theorem dX7_lay_146 : decode cX7_lay 146 = .ok (.aload_n 0, 1) := by decide +kernel
theorem dX7_lay_147 : decode cX7_lay 147 = .ok (.getfield 7, 3) := by decide +kernel
theorem dX7_lay_150 : decode cX7_lay 150 = .ok (.bipush 45, 2) := by decide +kernel
theorem dX7_lay_152 : decode cX7_lay 152 = .ok (.iload_n 1, 1) := by decide +kernel
theorem dX7_lay_153 : decode cX7_lay 153 = .ok (.iadd, 1) := by decide +kernel
theorem dX7_lay_154 : decode cX7_lay 154 = .ok (.iconst 4, 1) := by decide +kernel
theorem dX7_lay_155 : decode cX7_lay 155 = .ok (.iload_n 2, 1) := by decide +kernel
theorem dX7_lay_156 : decode cX7_lay 156 = .ok (.imul, 1) := by decide +kernel
theorem dX7_lay_157 : decode cX7_lay 157 = .ok (.iload_n 3, 1) := by decide +kernel
theorem dX7_lay_158 : decode cX7_lay 158 = .ok (.iadd, 1) := by decide +kernel
theorem dX7_lay_159 : decode cX7_lay 159 = .ok (.iastore, 1) := by decide +kernel
theorem dX7_lay_160 : decode cX7_lay 160 = .ok (.aload_n 0, 1) := by decide +kernel
theorem dX7_lay_161 : decode cX7_lay 161 = .ok (.getfield 7, 3) := by decide +kernel
theorem dX7_lay_164 : decode cX7_lay 164 = .ok (.iconst 3, 1) := by decide +kernel
theorem dX7_lay_165 : decode cX7_lay 165 = .ok (.dup2, 1) := by decide +kernel
theorem dX7_lay_166 : decode cX7_lay 166 = .ok (.iaload, 1) := by decide +kernel
theorem dX7_lay_167 : decode cX7_lay 167 = .ok (.iconst 1, 1) := by decide +kernel
theorem dX7_lay_168 : decode cX7_lay 168 = .ok (.iadd, 1) := by decide +kernel
theorem dX7_lay_169 : decode cX7_lay 169 = .ok (.iastore, 1) := by decide +kernel
theorem dX7_lay_170 : decode cX7_lay 170 = .ok (.iload 5, 2) := by decide +kernel
theorem dX7_lay_172 : decode cX7_lay 172 = .ok (.ifCond .eq 7, 3) := by decide +kernel
theorem dX7_lay_175 : decode cX7_lay 175 = .ok (.iconst 0, 1) := by decide +kernel
theorem dX7_lay_176 : decode cX7_lay 176 = .ok (.goto 5, 3) := by decide +kernel
theorem dX7_lay_179 : decode cX7_lay 179 = .ok (.iload 4, 2) := by decide +kernel
theorem dX7_lay_181 : decode cX7_lay 181 = .ok (.ireturn, 1) := by decide +kernel
theorem dX7_takeOut_0 : decode cX7_takeOut 0 = .ok (.iload_n 1, 1) := by decide +kernel
theorem dX7_takeOut_1 : decode cX7_takeOut 1 = .ok (.invokestatic 99, 3) := by decide +kernel
theorem dX7_takeOut_4 : decode cX7_takeOut 4 = .ok (.ifCond .ne 10, 3) := by decide +kernel
theorem dX7_takeOut_7 : decode cX7_takeOut 7 = .ok (.aload_n 0, 1) := by decide +kernel
theorem dX7_takeOut_8 : decode cX7_takeOut 8 = .ok (.iconst 1, 1) := by decide +kernel
theorem dX7_takeOut_9 : decode cX7_takeOut 9 = .ok (.iconst 0, 1) := by decide +kernel
theorem dX7_takeOut_10 : decode cX7_takeOut 10 = .ok (.invokevirtual 92, 3) := by decide +kernel
theorem dX7_takeOut_13 : decode cX7_takeOut 13 = .ok (.ireturn, 1) := by decide +kernel
theorem dX7_takeOut_14 : decode cX7_takeOut 14 = .ok (.aload_n 0, 1) := by decide +kernel
theorem dX7_takeOut_15 : decode cX7_takeOut 15 = .ok (.iload_n 1, 1) := by decide +kernel
theorem dX7_takeOut_16 : decode cX7_takeOut 16 = .ok (.invokevirtual 77, 3) := by decide +kernel
theorem dX7_takeOut_19 : decode cX7_takeOut 19 = .ok (.ifCond .eq 11, 3) := by decide +kernel
theorem dX7_takeOut_22 : decode cX7_takeOut 22 = .ok (.aload_n 0, 1) := by decide +kernel
theorem dX7_takeOut_23 : decode cX7_takeOut 23 = .ok (.bipush 6, 2) := by decide +kernel
theorem dX7_takeOut_25 : decode cX7_takeOut 25 = .ok (.iload_n 1, 1) := by decide +kernel
theorem dX7_takeOut_26 : decode cX7_takeOut 26 = .ok (.invokevirtual 92, 3) := by decide +kernel
theorem dX7_takeOut_29 : decode cX7_takeOut 29 = .ok (.ireturn, 1) := by decide +kernel
theorem dX7_takeOut_30 : decode cX7_takeOut 30 = .ok (.aload_n 0, 1) := by decide +kernel
theorem dX7_takeOut_31 : decode cX7_takeOut 31 = .ok (.iload_n 1, 1) := by decide +kernel
theorem dX7_takeOut_32 : decode cX7_takeOut 32 = .ok (.invokevirtual 108, 3) := by decide +kernel
theorem dX7_takeOut_35 : decode cX7_takeOut 35 = .ok (.istore_n 2, 1) := by decide +kernel
theorem dX7_takeOut_36 : decode cX7_takeOut 36 = .ok (.iload_n 2, 1) := by decide +kernel
theorem dX7_takeOut_37 : decode cX7_takeOut 37 = .ok (.ifCond .le 11, 3) := by decide +kernel
theorem dX7_takeOut_40 : decode cX7_takeOut 40 = .ok (.aload_n 0, 1) := by decide +kernel
theorem dX7_takeOut_41 : decode cX7_takeOut 41 = .ok (.bipush 7, 2) := by decide +kernel
theorem dX7_takeOut_43 : decode cX7_takeOut 43 = .ok (.iload_n 2, 1) := by decide +kernel
theorem dX7_takeOut_44 : decode cX7_takeOut 44 = .ok (.invokevirtual 92, 3) := by decide +kernel
theorem dX7_takeOut_47 : decode cX7_takeOut 47 = .ok (.ireturn, 1) := by decide +kernel
theorem dX7_takeOut_48 : decode cX7_takeOut 48 = .ok (.aload_n 0, 1) := by decide +kernel
theorem dX7_takeOut_49 : decode cX7_takeOut 49 = .ok (.aload_n 0, 1) := by decide +kernel
theorem dX7_takeOut_50 : decode cX7_takeOut 50 = .ok (.getfield 7, 3) := by decide +kernel
theorem dX7_takeOut_53 : decode cX7_takeOut 53 = .ok (.invokevirtual 95, 3) := by decide +kernel
theorem dX7_takeOut_56 : decode cX7_takeOut 56 = .ok (.aload_n 0, 1) := by decide +kernel
theorem dX7_takeOut_57 : decode cX7_takeOut 57 = .ok (.getfield 7, 3) := by decide +kernel
theorem dX7_takeOut_60 : decode cX7_takeOut 60 = .ok (.bipush 45, 2) := by decide +kernel
theorem dX7_takeOut_62 : decode cX7_takeOut 62 = .ok (.iload_n 1, 1) := by decide +kernel
theorem dX7_takeOut_63 : decode cX7_takeOut 63 = .ok (.iadd, 1) := by decide +kernel
theorem dX7_takeOut_64 : decode cX7_takeOut 64 = .ok (.iaload, 1) := by decide +kernel
theorem dX7_takeOut_65 : decode cX7_takeOut 65 = .ok (.iconst 4, 1) := by decide +kernel
theorem dX7_takeOut_66 : decode cX7_takeOut 66 = .ok (.idiv, 1) := by decide +kernel
theorem dX7_takeOut_67 : decode cX7_takeOut 67 = .ok (.istore_n 3, 1) := by decide +kernel
theorem dX7_takeOut_68 : decode cX7_takeOut 68 = .ok (.iload_n 1, 1) := by decide +kernel
theorem dX7_takeOut_69 : decode cX7_takeOut 69 = .ok (.aload_n 0, 1) := by decide +kernel
theorem dX7_takeOut_70 : decode cX7_takeOut 70 = .ok (.getfield 7, 3) := by decide +kernel
theorem dX7_takeOut_73 : decode cX7_takeOut 73 = .ok (.iconst 1, 1) := by decide +kernel
theorem dX7_takeOut_74 : decode cX7_takeOut 74 = .ok (.iaload, 1) := by decide +kernel
theorem dX7_takeOut_75 : decode cX7_takeOut 75 = .ok (.if_icmp .ne 10, 3) := by decide +kernel
theorem dX7_takeOut_78 : decode cX7_takeOut 78 = .ok (.aload_n 0, 1) := by decide +kernel
theorem dX7_takeOut_79 : decode cX7_takeOut 79 = .ok (.getfield 7, 3) := by decide +kernel
theorem dX7_takeOut_82 : decode cX7_takeOut 82 = .ok (.iconst 1, 1) := by decide +kernel
theorem dX7_takeOut_83 : decode cX7_takeOut 83 = .ok (.iconst (-1), 1) := by decide +kernel
theorem dX7_takeOut_84 : decode cX7_takeOut 84 = .ok (.iastore, 1) := by decide +kernel
theorem dX7_takeOut_85 : decode cX7_takeOut 85 = .ok (.aload_n 0, 1) := by decide +kernel
theorem dX7_takeOut_86 : decode cX7_takeOut 86 = .ok (.getfield 7, 3) := by decide +kernel
theorem dX7_takeOut_89 : decode cX7_takeOut 89 = .ok (.bipush 45, 2) := by decide +kernel
theorem dX7_takeOut_91 : decode cX7_takeOut 91 = .ok (.iload_n 1, 1) := by decide +kernel
theorem dX7_takeOut_92 : decode cX7_takeOut 92 = .ok (.iadd, 1) := by decide +kernel
theorem dX7_takeOut_93 : decode cX7_takeOut 93 = .ok (.iconst (-1), 1) := by decide +kernel
theorem dX7_takeOut_94 : decode cX7_takeOut 94 = .ok (.iastore, 1) := by decide +kernel
theorem dX7_takeOut_95 : decode cX7_takeOut 95 = .ok (.aload_n 0, 1) := by decide +kernel
theorem dX7_takeOut_96 : decode cX7_takeOut 96 = .ok (.getfield 7, 3) := by decide +kernel
theorem dX7_takeOut_99 : decode cX7_takeOut 99 = .ok (.iconst 5, 1) := by decide +kernel
theorem dX7_takeOut_100 : decode cX7_takeOut 100 = .ok (.dup2, 1) := by decide +kernel
theorem dX7_takeOut_101 : decode cX7_takeOut 101 = .ok (.iaload, 1) := by decide +kernel
theorem dX7_takeOut_102 : decode cX7_takeOut 102 = .ok (.iconst 1, 1) := by decide +kernel
theorem dX7_takeOut_103 : decode cX7_takeOut 103 = .ok (.iadd, 1) := by decide +kernel
theorem dX7_takeOut_104 : decode cX7_takeOut 104 = .ok (.iastore, 1) := by decide +kernel
theorem dX7_takeOut_105 : decode cX7_takeOut 105 = .ok (.iload_n 3, 1) := by decide +kernel
theorem dX7_takeOut_106 : decode cX7_takeOut 106 = .ok (.ireturn, 1) := by decide +kernel
theorem dX7_fits_0 : decode cX7_fits 0 = .ok (.aload_n 0, 1) := by decide +kernel
theorem dX7_fits_1 : decode cX7_fits 1 = .ok (.iload_n 1, 1) := by decide +kernel
theorem dX7_fits_2 : decode cX7_fits 2 = .ok (.iload_n 2, 1) := by decide +kernel
theorem dX7_fits_3 : decode cX7_fits 3 = .ok (.invokevirtual 105, 3) := by decide +kernel
theorem dX7_fits_6 : decode cX7_fits 6 = .ok (.aload_n 0, 1) := by decide +kernel
theorem dX7_fits_7 : decode cX7_fits 7 = .ok (.getfield 7, 3) := by decide +kernel
theorem dX7_fits_10 : decode cX7_fits 10 = .ok (.iconst 2, 1) := by decide +kernel
theorem dX7_fits_11 : decode cX7_fits 11 = .ok (.iaload, 1) := by decide +kernel
theorem dX7_fits_12 : decode cX7_fits 12 = .ok (.if_icmp .lt 16, 3) := by decide +kernel
theorem dX7_fits_15 : decode cX7_fits 15 = .ok (.aload_n 0, 1) := by decide +kernel
theorem dX7_fits_16 : decode cX7_fits 16 = .ok (.iload_n 1, 1) := by decide +kernel
theorem dX7_fits_17 : decode cX7_fits 17 = .ok (.iload_n 2, 1) := by decide +kernel
theorem dX7_fits_18 : decode cX7_fits 18 = .ok (.invokevirtual 112, 3) := by decide +kernel
theorem dX7_fits_21 : decode cX7_fits 21 = .ok (.ifCond .ne 7, 3) := by decide +kernel
theorem dX7_fits_24 : decode cX7_fits 24 = .ok (.iconst 1, 1) := by decide +kernel
theorem dX7_fits_25 : decode cX7_fits 25 = .ok (.goto 4, 3) := by decide +kernel
theorem dX7_fits_28 : decode cX7_fits 28 = .ok (.iconst 0, 1) := by decide +kernel
theorem dX7_fits_29 : decode cX7_fits 29 = .ok (.ireturn, 1) := by decide +kernel
theorem dX7_choicesAt_0 : decode cX7_choicesAt 0 = .ok (.iconst 0, 1) := by decide +kernel
theorem dX7_choicesAt_1 : decode cX7_choicesAt 1 = .ok (.istore_n 2, 1) := by decide +kernel
theorem dX7_choicesAt_2 : decode cX7_choicesAt 2 = .ok (.iconst 0, 1) := by decide +kernel
theorem dX7_choicesAt_3 : decode cX7_choicesAt 3 = .ok (.istore_n 3, 1) := by decide +kernel
theorem dX7_choicesAt_4 : decode cX7_choicesAt 4 = .ok (.iload_n 3, 1) := by decide +kernel
theorem dX7_choicesAt_5 : decode cX7_choicesAt 5 = .ok (.iconst 4, 1) := by decide +kernel
theorem dX7_choicesAt_6 : decode cX7_choicesAt 6 = .ok (.aload_n 0, 1) := by decide +kernel
theorem dX7_choicesAt_7 : decode cX7_choicesAt 7 = .ok (.getfield 7, 3) := by decide +kernel
theorem dX7_choicesAt_10 : decode cX7_choicesAt 10 = .ok (.iconst 0, 1) := by decide +kernel
theorem dX7_choicesAt_11 : decode cX7_choicesAt 11 = .ok (.iaload, 1) := by decide +kernel
theorem dX7_choicesAt_12 : decode cX7_choicesAt 12 = .ok (.imul, 1) := by decide +kernel
theorem dX7_choicesAt_13 : decode cX7_choicesAt 13 = .ok (.if_icmp .ge 26, 3) := by decide +kernel
theorem dX7_choicesAt_16 : decode cX7_choicesAt 16 = .ok (.iload_n 2, 1) := by decide +kernel
theorem dX7_choicesAt_17 : decode cX7_choicesAt 17 = .ok (.aload_n 0, 1) := by decide +kernel
theorem dX7_choicesAt_18 : decode cX7_choicesAt 18 = .ok (.iload_n 1, 1) := by decide +kernel
theorem dX7_choicesAt_19 : decode cX7_choicesAt 19 = .ok (.iload_n 3, 1) := by decide +kernel
theorem dX7_choicesAt_20 : decode cX7_choicesAt 20 = .ok (.invokevirtual 115, 3) := by decide +kernel
theorem dX7_choicesAt_23 : decode cX7_choicesAt 23 = .ok (.ifCond .eq 7, 3) := by decide +kernel
theorem dX7_choicesAt_26 : decode cX7_choicesAt 26 = .ok (.iconst 1, 1) := by decide +kernel
theorem dX7_choicesAt_27 : decode cX7_choicesAt 27 = .ok (.goto 4, 3) := by decide +kernel
theorem dX7_choicesAt_30 : decode cX7_choicesAt 30 = .ok (.iconst 0, 1) := by decide +kernel
theorem dX7_choicesAt_31 : decode cX7_choicesAt 31 = .ok (.iadd, 1) := by decide +kernel
theorem dX7_choicesAt_32 : decode cX7_choicesAt 32 = .ok (.istore_n 2, 1) := by decide +kernel
theorem dX7_choicesAt_33 : decode cX7_choicesAt 33 = .ok (.iinc 3 1, 3) := by decide +kernel
theorem dX7_choicesAt_36 : decode cX7_choicesAt 36 = .ok (.goto (-32), 3) := by decide +kernel
theorem dX7_choicesAt_39 : decode cX7_choicesAt 39 = .ok (.iload_n 2, 1) := by decide +kernel
theorem dX7_choicesAt_40 : decode cX7_choicesAt 40 = .ok (.ireturn, 1) := by decide +kernel
theorem dX7_growsAt_0 : decode cX7_growsAt 0 = .ok (.iconst 0, 1) := by decide +kernel
theorem dX7_growsAt_1 : decode cX7_growsAt 1 = .ok (.istore_n 1, 1) := by decide +kernel
theorem dX7_growsAt_2 : decode cX7_growsAt 2 = .ok (.iload_n 1, 1) := by decide +kernel
theorem dX7_growsAt_3 : decode cX7_growsAt 3 = .ok (.bipush 42, 2) := by decide +kernel
theorem dX7_growsAt_5 : decode cX7_growsAt 5 = .ok (.if_icmp .ge 27, 3) := by decide +kernel
theorem dX7_growsAt_8 : decode cX7_growsAt 8 = .ok (.aload_n 0, 1) := by decide +kernel
theorem dX7_growsAt_9 : decode cX7_growsAt 9 = .ok (.iload_n 1, 1) := by decide +kernel
theorem dX7_growsAt_10 : decode cX7_growsAt 10 = .ok (.invokevirtual 77, 3) := by decide +kernel
theorem dX7_growsAt_13 : decode cX7_growsAt 13 = .ok (.ifCond .eq 13, 3) := by decide +kernel
theorem dX7_growsAt_16 : decode cX7_growsAt 16 = .ok (.aload_n 0, 1) := by decide +kernel
theorem dX7_growsAt_17 : decode cX7_growsAt 17 = .ok (.iload_n 1, 1) := by decide +kernel
theorem dX7_growsAt_18 : decode cX7_growsAt 18 = .ok (.invokevirtual 119, 3) := by decide +kernel
theorem dX7_growsAt_21 : decode cX7_growsAt 21 = .ok (.ifCond .le 5, 3) := by decide +kernel
theorem dX7_growsAt_24 : decode cX7_growsAt 24 = .ok (.iload_n 1, 1) := by decide +kernel
theorem dX7_growsAt_25 : decode cX7_growsAt 25 = .ok (.ireturn, 1) := by decide +kernel
theorem dX7_growsAt_26 : decode cX7_growsAt 26 = .ok (.iinc 1 1, 3) := by decide +kernel
theorem dX7_growsAt_29 : decode cX7_growsAt 29 = .ok (.goto (-27), 3) := by decide +kernel
theorem dX7_growsAt_32 : decode cX7_growsAt 32 = .ok (.iconst (-1), 1) := by decide +kernel
theorem dX7_growsAt_33 : decode cX7_growsAt 33 = .ok (.ireturn, 1) := by decide +kernel
theorem dX7_growsWith_0 : decode cX7_growsWith 0 = .ok (.iconst (-1), 1) := by decide +kernel
theorem dX7_growsWith_1 : decode cX7_growsWith 1 = .ok (.istore_n 2, 1) := by decide +kernel
theorem dX7_growsWith_2 : decode cX7_growsWith 2 = .ok (.iconst 0, 1) := by decide +kernel
theorem dX7_growsWith_3 : decode cX7_growsWith 3 = .ok (.istore_n 3, 1) := by decide +kernel
theorem dX7_growsWith_4 : decode cX7_growsWith 4 = .ok (.iload_n 3, 1) := by decide +kernel
theorem dX7_growsWith_5 : decode cX7_growsWith 5 = .ok (.iconst 4, 1) := by decide +kernel
theorem dX7_growsWith_6 : decode cX7_growsWith 6 = .ok (.aload_n 0, 1) := by decide +kernel
theorem dX7_growsWith_7 : decode cX7_growsWith 7 = .ok (.getfield 7, 3) := by decide +kernel
theorem dX7_growsWith_10 : decode cX7_growsWith 10 = .ok (.iconst 0, 1) := by decide +kernel
theorem dX7_growsWith_11 : decode cX7_growsWith 11 = .ok (.iaload, 1) := by decide +kernel
theorem dX7_growsWith_12 : decode cX7_growsWith 12 = .ok (.imul, 1) := by decide +kernel
theorem dX7_growsWith_13 : decode cX7_growsWith 13 = .ok (.if_icmp .ge 39, 3) := by decide +kernel
theorem dX7_growsWith_16 : decode cX7_growsWith 16 = .ok (.aload_n 0, 1) := by decide +kernel
theorem dX7_growsWith_17 : decode cX7_growsWith 17 = .ok (.iload_n 1, 1) := by decide +kernel
theorem dX7_growsWith_18 : decode cX7_growsWith 18 = .ok (.iload_n 3, 1) := by decide +kernel
theorem dX7_growsWith_19 : decode cX7_growsWith 19 = .ok (.invokevirtual 115, 3) := by decide +kernel
theorem dX7_growsWith_22 : decode cX7_growsWith 22 = .ok (.ifCond .eq 24, 3) := by decide +kernel
theorem dX7_growsWith_25 : decode cX7_growsWith 25 = .ok (.iload_n 2, 1) := by decide +kernel
theorem dX7_growsWith_26 : decode cX7_growsWith 26 = .ok (.ifCond .lt 18, 3) := by decide +kernel
theorem dX7_growsWith_29 : decode cX7_growsWith 29 = .ok (.aload_n 0, 1) := by decide +kernel
theorem dX7_growsWith_30 : decode cX7_growsWith 30 = .ok (.iload_n 1, 1) := by decide +kernel
theorem dX7_growsWith_31 : decode cX7_growsWith 31 = .ok (.iload_n 3, 1) := by decide +kernel
theorem dX7_growsWith_32 : decode cX7_growsWith 32 = .ok (.invokevirtual 105, 3) := by decide +kernel
theorem dX7_growsWith_35 : decode cX7_growsWith 35 = .ok (.aload_n 0, 1) := by decide +kernel
theorem dX7_growsWith_36 : decode cX7_growsWith 36 = .ok (.iload_n 1, 1) := by decide +kernel
theorem dX7_growsWith_37 : decode cX7_growsWith 37 = .ok (.iload_n 2, 1) := by decide +kernel
theorem dX7_growsWith_38 : decode cX7_growsWith 38 = .ok (.invokevirtual 105, 3) := by decide +kernel
theorem dX7_growsWith_41 : decode cX7_growsWith 41 = .ok (.if_icmp .le 5, 3) := by decide +kernel
theorem dX7_growsWith_44 : decode cX7_growsWith 44 = .ok (.iload_n 3, 1) := by decide +kernel
theorem dX7_growsWith_45 : decode cX7_growsWith 45 = .ok (.istore_n 2, 1) := by decide +kernel
theorem dX7_growsWith_46 : decode cX7_growsWith 46 = .ok (.iinc 3 1, 3) := by decide +kernel
theorem dX7_growsWith_49 : decode cX7_growsWith 49 = .ok (.goto (-45), 3) := by decide +kernel
theorem dX7_growsWith_52 : decode cX7_growsWith 52 = .ok (.iload_n 2, 1) := by decide +kernel
theorem dX7_growsWith_53 : decode cX7_growsWith 53 = .ok (.ireturn, 1) := by decide +kernel
theorem dX7_growsBy_0 : decode cX7_growsBy 0 = .ok (.iconst 0, 1) := by decide +kernel
theorem dX7_growsBy_1 : decode cX7_growsBy 1 = .ok (.istore_n 2, 1) := by decide +kernel
theorem dX7_growsBy_2 : decode cX7_growsBy 2 = .ok (.aload_n 0, 1) := by decide +kernel
theorem dX7_growsBy_3 : decode cX7_growsBy 3 = .ok (.invokevirtual 122, 3) := by decide +kernel
theorem dX7_growsBy_6 : decode cX7_growsBy 6 = .ok (.istore_n 3, 1) := by decide +kernel
theorem dX7_growsBy_7 : decode cX7_growsBy 7 = .ok (.iload_n 2, 1) := by decide +kernel
theorem dX7_growsBy_8 : decode cX7_growsBy 8 = .ok (.iload_n 1, 1) := by decide +kernel
theorem dX7_growsBy_9 : decode cX7_growsBy 9 = .ok (.if_icmp .ge 52, 3) := by decide +kernel
theorem dX7_growsBy_12 : decode cX7_growsBy 12 = .ok (.iload_n 3, 1) := by decide +kernel
theorem dX7_growsBy_13 : decode cX7_growsBy 13 = .ok (.ifCond .lt 48, 3) := by decide +kernel
theorem dX7_growsBy_16 : decode cX7_growsBy 16 = .ok (.aload_n 0, 1) := by decide +kernel
theorem dX7_growsBy_17 : decode cX7_growsBy 17 = .ok (.getfield 7, 3) := by decide +kernel
theorem dX7_growsBy_20 : decode cX7_growsBy 20 = .ok (.bipush 45, 2) := by decide +kernel
theorem dX7_growsBy_22 : decode cX7_growsBy 22 = .ok (.iload_n 3, 1) := by decide +kernel
theorem dX7_growsBy_23 : decode cX7_growsBy 23 = .ok (.iadd, 1) := by decide +kernel
theorem dX7_growsBy_24 : decode cX7_growsBy 24 = .ok (.aload_n 0, 1) := by decide +kernel
theorem dX7_growsBy_25 : decode cX7_growsBy 25 = .ok (.iload_n 3, 1) := by decide +kernel
theorem dX7_growsBy_26 : decode cX7_growsBy 26 = .ok (.invokevirtual 125, 3) := by decide +kernel
theorem dX7_growsBy_29 : decode cX7_growsBy 29 = .ok (.iastore, 1) := by decide +kernel
theorem dX7_growsBy_30 : decode cX7_growsBy 30 = .ok (.aload_n 0, 1) := by decide +kernel
theorem dX7_growsBy_31 : decode cX7_growsBy 31 = .ok (.getfield 7, 3) := by decide +kernel
theorem dX7_growsBy_34 : decode cX7_growsBy 34 = .ok (.iconst 3, 1) := by decide +kernel
theorem dX7_growsBy_35 : decode cX7_growsBy 35 = .ok (.dup2, 1) := by decide +kernel
theorem dX7_growsBy_36 : decode cX7_growsBy 36 = .ok (.iaload, 1) := by decide +kernel
theorem dX7_growsBy_37 : decode cX7_growsBy 37 = .ok (.iconst 1, 1) := by decide +kernel
theorem dX7_growsBy_38 : decode cX7_growsBy 38 = .ok (.iadd, 1) := by decide +kernel
theorem dX7_growsBy_39 : decode cX7_growsBy 39 = .ok (.iastore, 1) := by decide +kernel
theorem dX7_growsBy_40 : decode cX7_growsBy 40 = .ok (.aload_n 0, 1) := by decide +kernel
theorem dX7_growsBy_41 : decode cX7_growsBy 41 = .ok (.getfield 7, 3) := by decide +kernel
theorem dX7_growsBy_44 : decode cX7_growsBy 44 = .ok (.iconst 4, 1) := by decide +kernel
theorem dX7_growsBy_45 : decode cX7_growsBy 45 = .ok (.dup2, 1) := by decide +kernel
theorem dX7_growsBy_46 : decode cX7_growsBy 46 = .ok (.iaload, 1) := by decide +kernel
theorem dX7_growsBy_47 : decode cX7_growsBy 47 = .ok (.iconst 1, 1) := by decide +kernel
theorem dX7_growsBy_48 : decode cX7_growsBy 48 = .ok (.iadd, 1) := by decide +kernel
theorem dX7_growsBy_49 : decode cX7_growsBy 49 = .ok (.iastore, 1) := by decide +kernel
theorem dX7_growsBy_50 : decode cX7_growsBy 50 = .ok (.iinc 2 1, 3) := by decide +kernel
theorem dX7_growsBy_53 : decode cX7_growsBy 53 = .ok (.aload_n 0, 1) := by decide +kernel
theorem dX7_growsBy_54 : decode cX7_growsBy 54 = .ok (.invokevirtual 122, 3) := by decide +kernel
theorem dX7_growsBy_57 : decode cX7_growsBy 57 = .ok (.istore_n 3, 1) := by decide +kernel
theorem dX7_growsBy_58 : decode cX7_growsBy 58 = .ok (.goto (-51), 3) := by decide +kernel
theorem dX7_growsBy_61 : decode cX7_growsBy 61 = .ok (.iload_n 2, 1) := by decide +kernel
theorem dX7_growsBy_62 : decode cX7_growsBy 62 = .ok (.ireturn, 1) := by decide +kernel
theorem dX7_stuckNow_0 : decode cX7_stuckNow 0 = .ok (.iconst 0, 1) := by decide +kernel
theorem dX7_stuckNow_1 : decode cX7_stuckNow 1 = .ok (.istore_n 1, 1) := by decide +kernel
theorem dX7_stuckNow_2 : decode cX7_stuckNow 2 = .ok (.iconst 0, 1) := by decide +kernel
theorem dX7_stuckNow_3 : decode cX7_stuckNow 3 = .ok (.istore_n 2, 1) := by decide +kernel
theorem dX7_stuckNow_4 : decode cX7_stuckNow 4 = .ok (.iload_n 2, 1) := by decide +kernel
theorem dX7_stuckNow_5 : decode cX7_stuckNow 5 = .ok (.bipush 42, 2) := by decide +kernel
theorem dX7_stuckNow_7 : decode cX7_stuckNow 7 = .ok (.if_icmp .ge 84, 3) := by decide +kernel
theorem dX7_stuckNow_10 : decode cX7_stuckNow 10 = .ok (.iconst 0, 1) := by decide +kernel
theorem dX7_stuckNow_11 : decode cX7_stuckNow 11 = .ok (.istore_n 3, 1) := by decide +kernel
theorem dX7_stuckNow_12 : decode cX7_stuckNow 12 = .ok (.iconst 0, 1) := by decide +kernel
theorem dX7_stuckNow_13 : decode cX7_stuckNow 13 = .ok (.istore 4, 2) := by decide +kernel
theorem dX7_stuckNow_15 : decode cX7_stuckNow 15 = .ok (.iload 4, 2) := by decide +kernel
theorem dX7_stuckNow_17 : decode cX7_stuckNow 17 = .ok (.iconst 4, 1) := by decide +kernel
theorem dX7_stuckNow_18 : decode cX7_stuckNow 18 = .ok (.if_icmp .ge 39, 3) := by decide +kernel
theorem dX7_stuckNow_21 : decode cX7_stuckNow 21 = .ok (.iload_n 3, 1) := by decide +kernel
theorem dX7_stuckNow_22 : decode cX7_stuckNow 22 = .ok (.iload_n 2, 1) := by decide +kernel
theorem dX7_stuckNow_23 : decode cX7_stuckNow 23 = .ok (.iload 4, 2) := by decide +kernel
theorem dX7_stuckNow_25 : decode cX7_stuckNow 25 = .ok (.invokestatic 73, 3) := by decide +kernel
theorem dX7_stuckNow_28 : decode cX7_stuckNow 28 = .ok (.ifCond .lt 20, 3) := by decide +kernel
theorem dX7_stuckNow_31 : decode cX7_stuckNow 31 = .ok (.aload_n 0, 1) := by decide +kernel
theorem dX7_stuckNow_32 : decode cX7_stuckNow 32 = .ok (.iload_n 2, 1) := by decide +kernel
theorem dX7_stuckNow_33 : decode cX7_stuckNow 33 = .ok (.iload 4, 2) := by decide +kernel
theorem dX7_stuckNow_35 : decode cX7_stuckNow 35 = .ok (.invokestatic 73, 3) := by decide +kernel
theorem dX7_stuckNow_38 : decode cX7_stuckNow 38 = .ok (.invokevirtual 77, 3) := by decide +kernel
theorem dX7_stuckNow_41 : decode cX7_stuckNow 41 = .ok (.ifCond .ne 7, 3) := by decide +kernel
theorem dX7_stuckNow_44 : decode cX7_stuckNow 44 = .ok (.iconst 1, 1) := by decide +kernel
theorem dX7_stuckNow_45 : decode cX7_stuckNow 45 = .ok (.goto 4, 3) := by decide +kernel
theorem dX7_stuckNow_48 : decode cX7_stuckNow 48 = .ok (.iconst 0, 1) := by decide +kernel
theorem dX7_stuckNow_49 : decode cX7_stuckNow 49 = .ok (.ior, 1) := by decide +kernel
theorem dX7_stuckNow_50 : decode cX7_stuckNow 50 = .ok (.istore_n 3, 1) := by decide +kernel
theorem dX7_stuckNow_51 : decode cX7_stuckNow 51 = .ok (.iinc 4 1, 3) := by decide +kernel
theorem dX7_stuckNow_54 : decode cX7_stuckNow 54 = .ok (.goto (-39), 3) := by decide +kernel
theorem dX7_stuckNow_57 : decode cX7_stuckNow 57 = .ok (.iload_n 1, 1) := by decide +kernel
theorem dX7_stuckNow_58 : decode cX7_stuckNow 58 = .ok (.aload_n 0, 1) := by decide +kernel
theorem dX7_stuckNow_59 : decode cX7_stuckNow 59 = .ok (.iload_n 2, 1) := by decide +kernel
theorem dX7_stuckNow_60 : decode cX7_stuckNow 60 = .ok (.invokevirtual 77, 3) := by decide +kernel
theorem dX7_stuckNow_63 : decode cX7_stuckNow 63 = .ok (.ifCond .eq 19, 3) := by decide +kernel
theorem dX7_stuckNow_66 : decode cX7_stuckNow 66 = .ok (.iload_n 3, 1) := by decide +kernel
theorem dX7_stuckNow_67 : decode cX7_stuckNow 67 = .ok (.ifCond .eq 15, 3) := by decide +kernel
theorem dX7_stuckNow_70 : decode cX7_stuckNow 70 = .ok (.aload_n 0, 1) := by decide +kernel
theorem dX7_stuckNow_71 : decode cX7_stuckNow 71 = .ok (.iload_n 2, 1) := by decide +kernel
theorem dX7_stuckNow_72 : decode cX7_stuckNow 72 = .ok (.invokevirtual 119, 3) := by decide +kernel
theorem dX7_stuckNow_75 : decode cX7_stuckNow 75 = .ok (.ifCond .ne 7, 3) := by decide +kernel
theorem dX7_stuckNow_78 : decode cX7_stuckNow 78 = .ok (.iconst 1, 1) := by decide +kernel
theorem dX7_stuckNow_79 : decode cX7_stuckNow 79 = .ok (.goto 4, 3) := by decide +kernel
theorem dX7_stuckNow_82 : decode cX7_stuckNow 82 = .ok (.iconst 0, 1) := by decide +kernel
theorem dX7_stuckNow_83 : decode cX7_stuckNow 83 = .ok (.iadd, 1) := by decide +kernel
theorem dX7_stuckNow_84 : decode cX7_stuckNow 84 = .ok (.istore_n 1, 1) := by decide +kernel
theorem dX7_stuckNow_85 : decode cX7_stuckNow 85 = .ok (.iinc 2 1, 3) := by decide +kernel
theorem dX7_stuckNow_88 : decode cX7_stuckNow 88 = .ok (.goto (-84), 3) := by decide +kernel
theorem dX7_stuckNow_91 : decode cX7_stuckNow 91 = .ok (.iload_n 1, 1) := by decide +kernel
theorem dX7_stuckNow_92 : decode cX7_stuckNow 92 = .ok (.ireturn, 1) := by decide +kernel
theorem dX7_grow_0 : decode cX7_grow 0 = .ok (.iload_n 1, 1) := by decide +kernel
theorem dX7_grow_1 : decode cX7_grow 1 = .ok (.iconst 1, 1) := by decide +kernel
theorem dX7_grow_2 : decode cX7_grow 2 = .ok (.bipush 42, 2) := by decide +kernel
theorem dX7_grow_4 : decode cX7_grow 4 = .ok (.invokestatic 69, 3) := by decide +kernel
theorem dX7_grow_7 : decode cX7_grow 7 = .ok (.ifCond .ne 10, 3) := by decide +kernel
theorem dX7_grow_10 : decode cX7_grow 10 = .ok (.aload_n 0, 1) := by decide +kernel
theorem dX7_grow_11 : decode cX7_grow 11 = .ok (.iconst 1, 1) := by decide +kernel
theorem dX7_grow_12 : decode cX7_grow 12 = .ok (.iconst 0, 1) := by decide +kernel
theorem dX7_grow_13 : decode cX7_grow 13 = .ok (.invokevirtual 92, 3) := by decide +kernel
theorem dX7_grow_16 : decode cX7_grow 16 = .ok (.ireturn, 1) := by decide +kernel
theorem dX7_grow_17 : decode cX7_grow 17 = .ok (.aload_n 0, 1) := by decide +kernel
theorem dX7_grow_18 : decode cX7_grow 18 = .ok (.invokevirtual 122, 3) := by decide +kernel
theorem dX7_grow_21 : decode cX7_grow 21 = .ok (.ifCond .ge 14, 3) := by decide +kernel
theorem dX7_grow_24 : decode cX7_grow 24 = .ok (.aload_n 0, 1) := by decide +kernel
theorem dX7_grow_25 : decode cX7_grow 25 = .ok (.bipush 8, 2) := by decide +kernel
theorem dX7_grow_27 : decode cX7_grow 27 = .ok (.aload_n 0, 1) := by decide +kernel
theorem dX7_grow_28 : decode cX7_grow 28 = .ok (.invokevirtual 128, 3) := by decide +kernel
theorem dX7_grow_31 : decode cX7_grow 31 = .ok (.invokevirtual 92, 3) := by decide +kernel
theorem dX7_grow_34 : decode cX7_grow 34 = .ok (.ireturn, 1) := by decide +kernel
theorem dX7_grow_35 : decode cX7_grow 35 = .ok (.aload_n 0, 1) := by decide +kernel
theorem dX7_grow_36 : decode cX7_grow 36 = .ok (.aload_n 0, 1) := by decide +kernel
theorem dX7_grow_37 : decode cX7_grow 37 = .ok (.getfield 7, 3) := by decide +kernel
theorem dX7_grow_40 : decode cX7_grow 40 = .ok (.invokevirtual 95, 3) := by decide +kernel
theorem dX7_grow_43 : decode cX7_grow 43 = .ok (.aload_n 0, 1) := by decide +kernel
theorem dX7_grow_44 : decode cX7_grow 44 = .ok (.iload_n 1, 1) := by decide +kernel
theorem dX7_grow_45 : decode cX7_grow 45 = .ok (.invokevirtual 131, 3) := by decide +kernel
theorem dX7_grow_48 : decode cX7_grow 48 = .ok (.ireturn, 1) := by decide +kernel
theorem dX7_strength_0 : decode cX7_strength 0 = .ok (.iload_n 1, 1) := by decide +kernel
theorem dX7_strength_1 : decode cX7_strength 1 = .ok (.iconst 1, 1) := by decide +kernel
theorem dX7_strength_2 : decode cX7_strength 2 = .ok (.bipush 6, 2) := by decide +kernel
theorem dX7_strength_4 : decode cX7_strength 4 = .ok (.invokestatic 69, 3) := by decide +kernel
theorem dX7_strength_7 : decode cX7_strength 7 = .ok (.ifCond .eq 12, 3) := by decide +kernel
theorem dX7_strength_10 : decode cX7_strength 10 = .ok (.iload_n 2, 1) := by decide +kernel
theorem dX7_strength_11 : decode cX7_strength 11 = .ok (.iconst 0, 1) := by decide +kernel
theorem dX7_strength_12 : decode cX7_strength 12 = .ok (.iconst 3, 1) := by decide +kernel
theorem dX7_strength_13 : decode cX7_strength 13 = .ok (.invokestatic 69, 3) := by decide +kernel
theorem dX7_strength_16 : decode cX7_strength 16 = .ok (.ifCond .ne 10, 3) := by decide +kernel
theorem dX7_strength_19 : decode cX7_strength 19 = .ok (.aload_n 0, 1) := by decide +kernel
theorem dX7_strength_20 : decode cX7_strength 20 = .ok (.iconst 1, 1) := by decide +kernel
theorem dX7_strength_21 : decode cX7_strength 21 = .ok (.iconst 0, 1) := by decide +kernel
theorem dX7_strength_22 : decode cX7_strength 22 = .ok (.invokevirtual 92, 3) := by decide +kernel
theorem dX7_strength_25 : decode cX7_strength 25 = .ok (.ireturn, 1) := by decide +kernel
theorem dX7_strength_26 : decode cX7_strength 26 = .ok (.aload_n 0, 1) := by decide +kernel
theorem dX7_strength_27 : decode cX7_strength 27 = .ok (.getfield 7, 3) := by decide +kernel
theorem dX7_strength_30 : decode cX7_strength 30 = .ok (.bipush 6, 2) := by decide +kernel
theorem dX7_strength_32 : decode cX7_strength 32 = .ok (.iload_n 1, 1) := by decide +kernel
theorem dX7_strength_33 : decode cX7_strength 33 = .ok (.iadd, 1) := by decide +kernel
theorem dX7_strength_34 : decode cX7_strength 34 = .ok (.iaload, 1) := by decide +kernel
theorem dX7_strength_35 : decode cX7_strength 35 = .ok (.istore_n 3, 1) := by decide +kernel
theorem dX7_strength_36 : decode cX7_strength 36 = .ok (.iload_n 3, 1) := by decide +kernel
theorem dX7_strength_37 : decode cX7_strength 37 = .ok (.iload_n 2, 1) := by decide +kernel
theorem dX7_strength_38 : decode cX7_strength 38 = .ok (.if_icmp .ne 11, 3) := by decide +kernel
theorem dX7_strength_41 : decode cX7_strength 41 = .ok (.aload_n 0, 1) := by decide +kernel
theorem dX7_strength_42 : decode cX7_strength 42 = .ok (.bipush 9, 2) := by decide +kernel
theorem dX7_strength_44 : decode cX7_strength 44 = .ok (.iconst 0, 1) := by decide +kernel
theorem dX7_strength_45 : decode cX7_strength 45 = .ok (.invokevirtual 92, 3) := by decide +kernel
theorem dX7_strength_48 : decode cX7_strength 48 = .ok (.ireturn, 1) := by decide +kernel
theorem dX7_strength_49 : decode cX7_strength 49 = .ok (.aload_n 0, 1) := by decide +kernel
theorem dX7_strength_50 : decode cX7_strength 50 = .ok (.aload_n 0, 1) := by decide +kernel
theorem dX7_strength_51 : decode cX7_strength 51 = .ok (.getfield 7, 3) := by decide +kernel
theorem dX7_strength_54 : decode cX7_strength 54 = .ok (.invokevirtual 95, 3) := by decide +kernel
theorem dX7_strength_57 : decode cX7_strength 57 = .ok (.aload_n 0, 1) := by decide +kernel
theorem dX7_strength_58 : decode cX7_strength 58 = .ok (.getfield 7, 3) := by decide +kernel
theorem dX7_strength_61 : decode cX7_strength 61 = .ok (.bipush 6, 2) := by decide +kernel
theorem dX7_strength_63 : decode cX7_strength 63 = .ok (.iload_n 1, 1) := by decide +kernel
theorem dX7_strength_64 : decode cX7_strength 64 = .ok (.iadd, 1) := by decide +kernel
theorem dX7_strength_65 : decode cX7_strength 65 = .ok (.iload_n 2, 1) := by decide +kernel
theorem dX7_strength_66 : decode cX7_strength 66 = .ok (.iastore, 1) := by decide +kernel
theorem dX7_strength_67 : decode cX7_strength 67 = .ok (.iload_n 3, 1) := by decide +kernel
theorem dX7_strength_68 : decode cX7_strength 68 = .ok (.ireturn, 1) := by decide +kernel
theorem dX7_need_0 : decode cX7_need 0 = .ok (.iload_n 1, 1) := by decide +kernel
theorem dX7_need_1 : decode cX7_need 1 = .ok (.iconst 1, 1) := by decide +kernel
theorem dX7_need_2 : decode cX7_need 2 = .ok (.bipush 6, 2) := by decide +kernel
theorem dX7_need_4 : decode cX7_need 4 = .ok (.invokestatic 69, 3) := by decide +kernel
theorem dX7_need_7 : decode cX7_need 7 = .ok (.ifCond .ne 10, 3) := by decide +kernel
theorem dX7_need_10 : decode cX7_need 10 = .ok (.aload_n 0, 1) := by decide +kernel
theorem dX7_need_11 : decode cX7_need 11 = .ok (.iconst 1, 1) := by decide +kernel
theorem dX7_need_12 : decode cX7_need 12 = .ok (.iconst 0, 1) := by decide +kernel
theorem dX7_need_13 : decode cX7_need 13 = .ok (.invokevirtual 92, 3) := by decide +kernel
theorem dX7_need_16 : decode cX7_need 16 = .ok (.ireturn, 1) := by decide +kernel
theorem dX7_need_17 : decode cX7_need 17 = .ok (.iload_n 1, 1) := by decide +kernel
theorem dX7_need_18 : decode cX7_need 18 = .ok (.aload_n 0, 1) := by decide +kernel
theorem dX7_need_19 : decode cX7_need 19 = .ok (.getfield 7, 3) := by decide +kernel
theorem dX7_need_22 : decode cX7_need 22 = .ok (.iconst 2, 1) := by decide +kernel
theorem dX7_need_23 : decode cX7_need 23 = .ok (.iaload, 1) := by decide +kernel
theorem dX7_need_24 : decode cX7_need 24 = .ok (.if_icmp .ne 11, 3) := by decide +kernel
theorem dX7_need_27 : decode cX7_need 27 = .ok (.aload_n 0, 1) := by decide +kernel
theorem dX7_need_28 : decode cX7_need 28 = .ok (.bipush 9, 2) := by decide +kernel
theorem dX7_need_30 : decode cX7_need 30 = .ok (.iconst 0, 1) := by decide +kernel
theorem dX7_need_31 : decode cX7_need 31 = .ok (.invokevirtual 92, 3) := by decide +kernel
theorem dX7_need_34 : decode cX7_need 34 = .ok (.ireturn, 1) := by decide +kernel
theorem dX7_need_35 : decode cX7_need 35 = .ok (.aload_n 0, 1) := by decide +kernel
theorem dX7_need_36 : decode cX7_need 36 = .ok (.aload_n 0, 1) := by decide +kernel
theorem dX7_need_37 : decode cX7_need 37 = .ok (.getfield 7, 3) := by decide +kernel
theorem dX7_need_40 : decode cX7_need 40 = .ok (.invokevirtual 95, 3) := by decide +kernel
theorem dX7_need_43 : decode cX7_need 43 = .ok (.aload_n 0, 1) := by decide +kernel
theorem dX7_need_44 : decode cX7_need 44 = .ok (.getfield 7, 3) := by decide +kernel
theorem dX7_need_47 : decode cX7_need 47 = .ok (.iconst 2, 1) := by decide +kernel
theorem dX7_need_48 : decode cX7_need 48 = .ok (.iaload, 1) := by decide +kernel
theorem dX7_need_49 : decode cX7_need 49 = .ok (.istore_n 2, 1) := by decide +kernel
theorem dX7_need_50 : decode cX7_need 50 = .ok (.aload_n 0, 1) := by decide +kernel
theorem dX7_need_51 : decode cX7_need 51 = .ok (.getfield 7, 3) := by decide +kernel
theorem dX7_need_54 : decode cX7_need 54 = .ok (.iconst 2, 1) := by decide +kernel
theorem dX7_need_55 : decode cX7_need 55 = .ok (.iload_n 1, 1) := by decide +kernel
theorem dX7_need_56 : decode cX7_need 56 = .ok (.iastore, 1) := by decide +kernel
theorem dX7_need_57 : decode cX7_need 57 = .ok (.iload_n 2, 1) := by decide +kernel
theorem dX7_need_58 : decode cX7_need 58 = .ok (.ireturn, 1) := by decide +kernel
theorem dX7_glueOf_0 : decode cX7_glueOf 0 = .ok (.aload_n 0, 1) := by decide +kernel
theorem dX7_glueOf_1 : decode cX7_glueOf 1 = .ok (.aload_n 0, 1) := by decide +kernel
theorem dX7_glueOf_2 : decode cX7_glueOf 2 = .ok (.iload_n 1, 1) := by decide +kernel
theorem dX7_glueOf_3 : decode cX7_glueOf 3 = .ok (.invokevirtual 102, 3) := by decide +kernel
theorem dX7_glueOf_6 : decode cX7_glueOf 6 = .ok (.ifCond .ne 7, 3) := by decide +kernel
theorem dX7_glueOf_9 : decode cX7_glueOf 9 = .ok (.iconst 1, 1) := by decide +kernel
theorem dX7_glueOf_10 : decode cX7_glueOf 10 = .ok (.goto 26, 3) := by decide +kernel
theorem dX7_glueOf_13 : decode cX7_glueOf 13 = .ok (.iload_n 2, 1) := by decide +kernel
theorem dX7_glueOf_14 : decode cX7_glueOf 14 = .ok (.iconst 0, 1) := by decide +kernel
theorem dX7_glueOf_15 : decode cX7_glueOf 15 = .ok (.iconst 3, 1) := by decide +kernel
theorem dX7_glueOf_16 : decode cX7_glueOf 16 = .ok (.invokestatic 69, 3) := by decide +kernel
theorem dX7_glueOf_19 : decode cX7_glueOf 19 = .ok (.ifCond .eq 16, 3) := by decide +kernel
theorem dX7_glueOf_22 : decode cX7_glueOf 22 = .ok (.iload_n 3, 1) := by decide +kernel
theorem dX7_glueOf_23 : decode cX7_glueOf 23 = .ok (.iconst 0, 1) := by decide +kernel
theorem dX7_glueOf_24 : decode cX7_glueOf 24 = .ok (.iconst 3, 1) := by decide +kernel
theorem dX7_glueOf_25 : decode cX7_glueOf 25 = .ok (.invokestatic 69, 3) := by decide +kernel
theorem dX7_glueOf_28 : decode cX7_glueOf 28 = .ok (.ifCond .eq 7, 3) := by decide +kernel
theorem dX7_glueOf_31 : decode cX7_glueOf 31 = .ok (.iconst 0, 1) := by decide +kernel
theorem dX7_glueOf_32 : decode cX7_glueOf 32 = .ok (.goto 4, 3) := by decide +kernel
theorem dX7_glueOf_35 : decode cX7_glueOf 35 = .ok (.iconst 2, 1) := by decide +kernel
theorem dX7_glueOf_36 : decode cX7_glueOf 36 = .ok (.invokevirtual 134, 3) := by decide +kernel
theorem dX7_glueOf_39 : decode cX7_glueOf 39 = .ok (.ifCond .eq 7, 3) := by decide +kernel
theorem dX7_glueOf_42 : decode cX7_glueOf 42 = .ok (.iconst 0, 1) := by decide +kernel
theorem dX7_glueOf_43 : decode cX7_glueOf 43 = .ok (.goto 13, 3) := by decide +kernel
theorem dX7_glueOf_46 : decode cX7_glueOf 46 = .ok (.aload_n 0, 1) := by decide +kernel
theorem dX7_glueOf_47 : decode cX7_glueOf 47 = .ok (.iconst 4, 1) := by decide +kernel
theorem dX7_glueOf_48 : decode cX7_glueOf 48 = .ok (.iload_n 1, 1) := by decide +kernel
theorem dX7_glueOf_49 : decode cX7_glueOf 49 = .ok (.imul, 1) := by decide +kernel
theorem dX7_glueOf_50 : decode cX7_glueOf 50 = .ok (.iload_n 2, 1) := by decide +kernel
theorem dX7_glueOf_51 : decode cX7_glueOf 51 = .ok (.iadd, 1) := by decide +kernel
theorem dX7_glueOf_52 : decode cX7_glueOf 52 = .ok (.iload_n 3, 1) := by decide +kernel
theorem dX7_glueOf_53 : decode cX7_glueOf 53 = .ok (.invokevirtual 81, 3) := by decide +kernel
theorem dX7_glueOf_56 : decode cX7_glueOf 56 = .ok (.ireturn, 1) := by decide +kernel
theorem dX7_strengthOf_0 : decode cX7_strengthOf 0 = .ok (.aload_n 0, 1) := by decide +kernel
theorem dX7_strengthOf_1 : decode cX7_strengthOf 1 = .ok (.iload_n 1, 1) := by decide +kernel
theorem dX7_strengthOf_2 : decode cX7_strengthOf 2 = .ok (.iconst 0, 1) := by decide +kernel
theorem dX7_strengthOf_3 : decode cX7_strengthOf 3 = .ok (.bipush 6, 2) := by decide +kernel
theorem dX7_strengthOf_5 : decode cX7_strengthOf 5 = .ok (.invokestatic 69, 3) := by decide +kernel
theorem dX7_strengthOf_8 : decode cX7_strengthOf 8 = .ok (.ifCond .eq 7, 3) := by decide +kernel
theorem dX7_strengthOf_11 : decode cX7_strengthOf 11 = .ok (.iconst 0, 1) := by decide +kernel
theorem dX7_strengthOf_12 : decode cX7_strengthOf 12 = .ok (.goto 4, 3) := by decide +kernel
theorem dX7_strengthOf_15 : decode cX7_strengthOf 15 = .ok (.iconst 1, 1) := by decide +kernel
theorem dX7_strengthOf_16 : decode cX7_strengthOf 16 = .ok (.invokevirtual 134, 3) := by decide +kernel
theorem dX7_strengthOf_19 : decode cX7_strengthOf 19 = .ok (.ifCond .eq 7, 3) := by decide +kernel
theorem dX7_strengthOf_22 : decode cX7_strengthOf 22 = .ok (.iconst 0, 1) := by decide +kernel
theorem dX7_strengthOf_23 : decode cX7_strengthOf 23 = .ok (.goto 12, 3) := by decide +kernel
theorem dX7_strengthOf_26 : decode cX7_strengthOf 26 = .ok (.aload_n 0, 1) := by decide +kernel
theorem dX7_strengthOf_27 : decode cX7_strengthOf 27 = .ok (.getfield 7, 3) := by decide +kernel
theorem dX7_strengthOf_30 : decode cX7_strengthOf 30 = .ok (.bipush 6, 2) := by decide +kernel
theorem dX7_strengthOf_32 : decode cX7_strengthOf 32 = .ok (.iload_n 1, 1) := by decide +kernel
theorem dX7_strengthOf_33 : decode cX7_strengthOf 33 = .ok (.iadd, 1) := by decide +kernel
theorem dX7_strengthOf_34 : decode cX7_strengthOf 34 = .ok (.iaload, 1) := by decide +kernel
theorem dX7_strengthOf_35 : decode cX7_strengthOf 35 = .ok (.ireturn, 1) := by decide +kernel
theorem dX7_isNoBrick_0 : decode cX7_isNoBrick 0 = .ok (.aload_n 0, 1) := by decide +kernel
theorem dX7_isNoBrick_1 : decode cX7_isNoBrick 1 = .ok (.iload_n 1, 1) := by decide +kernel
theorem dX7_isNoBrick_2 : decode cX7_isNoBrick 2 = .ok (.invokestatic 99, 3) := by decide +kernel
theorem dX7_isNoBrick_5 : decode cX7_isNoBrick 5 = .ok (.ifCond .ne 7, 3) := by decide +kernel
theorem dX7_isNoBrick_8 : decode cX7_isNoBrick 8 = .ok (.iconst 1, 1) := by decide +kernel
theorem dX7_isNoBrick_9 : decode cX7_isNoBrick 9 = .ok (.goto 16, 3) := by decide +kernel
theorem dX7_isNoBrick_12 : decode cX7_isNoBrick 12 = .ok (.aload_n 0, 1) := by decide +kernel
theorem dX7_isNoBrick_13 : decode cX7_isNoBrick 13 = .ok (.iload_n 1, 1) := by decide +kernel
theorem dX7_isNoBrick_14 : decode cX7_isNoBrick 14 = .ok (.invokevirtual 77, 3) := by decide +kernel
theorem dX7_isNoBrick_17 : decode cX7_isNoBrick 17 = .ok (.ifCond .eq 7, 3) := by decide +kernel
theorem dX7_isNoBrick_20 : decode cX7_isNoBrick 20 = .ok (.iconst 2, 1) := by decide +kernel
theorem dX7_isNoBrick_21 : decode cX7_isNoBrick 21 = .ok (.goto 4, 3) := by decide +kernel
theorem dX7_isNoBrick_24 : decode cX7_isNoBrick 24 = .ok (.iconst 0, 1) := by decide +kernel
theorem dX7_isNoBrick_25 : decode cX7_isNoBrick 25 = .ok (.invokevirtual 134, 3) := by decide +kernel
theorem dX7_isNoBrick_28 : decode cX7_isNoBrick 28 = .ok (.ireturn, 1) := by decide +kernel
theorem dX7_brickAt_0 : decode cX7_brickAt 0 = .ok (.aload_n 0, 1) := by decide +kernel
theorem dX7_brickAt_1 : decode cX7_brickAt 1 = .ok (.iload_n 1, 1) := by decide +kernel
theorem dX7_brickAt_2 : decode cX7_brickAt 2 = .ok (.invokevirtual 137, 3) := by decide +kernel
theorem dX7_brickAt_5 : decode cX7_brickAt 5 = .ok (.ifCond .eq 7, 3) := by decide +kernel
theorem dX7_brickAt_8 : decode cX7_brickAt 8 = .ok (.iconst 0, 1) := by decide +kernel
theorem dX7_brickAt_9 : decode cX7_brickAt 9 = .ok (.goto 32, 3) := by decide +kernel
theorem dX7_brickAt_12 : decode cX7_brickAt 12 = .ok (.iload_n 2, 1) := by decide +kernel
theorem dX7_brickAt_13 : decode cX7_brickAt 13 = .ok (.ifCond .eq 17, 3) := by decide +kernel
theorem dX7_brickAt_16 : decode cX7_brickAt 16 = .ok (.aload_n 0, 1) := by decide +kernel
theorem dX7_brickAt_17 : decode cX7_brickAt 17 = .ok (.getfield 7, 3) := by decide +kernel
theorem dX7_brickAt_20 : decode cX7_brickAt 20 = .ok (.bipush 45, 2) := by decide +kernel
theorem dX7_brickAt_22 : decode cX7_brickAt 22 = .ok (.iload_n 1, 1) := by decide +kernel
theorem dX7_brickAt_23 : decode cX7_brickAt 23 = .ok (.iadd, 1) := by decide +kernel
theorem dX7_brickAt_24 : decode cX7_brickAt 24 = .ok (.iaload, 1) := by decide +kernel
theorem dX7_brickAt_25 : decode cX7_brickAt 25 = .ok (.iconst 4, 1) := by decide +kernel
theorem dX7_brickAt_26 : decode cX7_brickAt 26 = .ok (.irem, 1) := by decide +kernel
theorem dX7_brickAt_27 : decode cX7_brickAt 27 = .ok (.goto 14, 3) := by decide +kernel
theorem dX7_brickAt_30 : decode cX7_brickAt 30 = .ok (.aload_n 0, 1) := by decide +kernel
theorem dX7_brickAt_31 : decode cX7_brickAt 31 = .ok (.getfield 7, 3) := by decide +kernel
theorem dX7_brickAt_34 : decode cX7_brickAt 34 = .ok (.bipush 45, 2) := by decide +kernel
theorem dX7_brickAt_36 : decode cX7_brickAt 36 = .ok (.iload_n 1, 1) := by decide +kernel
theorem dX7_brickAt_37 : decode cX7_brickAt 37 = .ok (.iadd, 1) := by decide +kernel
theorem dX7_brickAt_38 : decode cX7_brickAt 38 = .ok (.iaload, 1) := by decide +kernel
theorem dX7_brickAt_39 : decode cX7_brickAt 39 = .ok (.iconst 4, 1) := by decide +kernel
theorem dX7_brickAt_40 : decode cX7_brickAt 40 = .ok (.idiv, 1) := by decide +kernel
theorem dX7_brickAt_41 : decode cX7_brickAt 41 = .ok (.ireturn, 1) := by decide +kernel
theorem dX7_seed_0 : decode cX7_seed 0 = .ok (.aload_n 0, 1) := by decide +kernel
theorem dX7_seed_1 : decode cX7_seed 1 = .ok (.aload_n 0, 1) := by decide +kernel
theorem dX7_seed_2 : decode cX7_seed 2 = .ok (.getfield 7, 3) := by decide +kernel
theorem dX7_seed_5 : decode cX7_seed 5 = .ok (.iconst 1, 1) := by decide +kernel
theorem dX7_seed_6 : decode cX7_seed 6 = .ok (.iaload, 1) := by decide +kernel
theorem dX7_seed_7 : decode cX7_seed 7 = .ok (.ifCond .ge 7, 3) := by decide +kernel
theorem dX7_seed_10 : decode cX7_seed 10 = .ok (.iconst 1, 1) := by decide +kernel
theorem dX7_seed_11 : decode cX7_seed 11 = .ok (.goto 4, 3) := by decide +kernel
theorem dX7_seed_14 : decode cX7_seed 14 = .ok (.iconst 0, 1) := by decide +kernel
theorem dX7_seed_15 : decode cX7_seed 15 = .ok (.invokevirtual 134, 3) := by decide +kernel
theorem dX7_seed_18 : decode cX7_seed 18 = .ok (.ifCond .eq 7, 3) := by decide +kernel
theorem dX7_seed_21 : decode cX7_seed 21 = .ok (.iconst 0, 1) := by decide +kernel
theorem dX7_seed_22 : decode cX7_seed 22 = .ok (.goto 9, 3) := by decide +kernel
theorem dX7_seed_25 : decode cX7_seed 25 = .ok (.aload_n 0, 1) := by decide +kernel
theorem dX7_seed_26 : decode cX7_seed 26 = .ok (.getfield 7, 3) := by decide +kernel
theorem dX7_seed_29 : decode cX7_seed 29 = .ok (.iconst 1, 1) := by decide +kernel
theorem dX7_seed_30 : decode cX7_seed 30 = .ok (.iaload, 1) := by decide +kernel
theorem dX7_seed_31 : decode cX7_seed 31 = .ok (.ireturn, 1) := by decide +kernel
theorem dX7_hold_0 : decode cX7_hold 0 = .ok (.aload_n 0, 1) := by decide +kernel
theorem dX7_hold_1 : decode cX7_hold 1 = .ok (.iload_n 1, 1) := by decide +kernel
theorem dX7_hold_2 : decode cX7_hold 2 = .ok (.invokevirtual 137, 3) := by decide +kernel
theorem dX7_hold_5 : decode cX7_hold 5 = .ok (.ifCond .eq 7, 3) := by decide +kernel
theorem dX7_hold_8 : decode cX7_hold 8 = .ok (.iconst 0, 1) := by decide +kernel
theorem dX7_hold_9 : decode cX7_hold 9 = .ok (.goto 17, 3) := by decide +kernel
theorem dX7_hold_12 : decode cX7_hold 12 = .ok (.aload_n 0, 1) := by decide +kernel
theorem dX7_hold_13 : decode cX7_hold 13 = .ok (.iload_n 1, 1) := by decide +kernel
theorem dX7_hold_14 : decode cX7_hold 14 = .ok (.aload_n 0, 1) := by decide +kernel
theorem dX7_hold_15 : decode cX7_hold 15 = .ok (.getfield 7, 3) := by decide +kernel
theorem dX7_hold_18 : decode cX7_hold 18 = .ok (.bipush 45, 2) := by decide +kernel
theorem dX7_hold_20 : decode cX7_hold 20 = .ok (.iload_n 1, 1) := by decide +kernel
theorem dX7_hold_21 : decode cX7_hold 21 = .ok (.iadd, 1) := by decide +kernel
theorem dX7_hold_22 : decode cX7_hold 22 = .ok (.iaload, 1) := by decide +kernel
theorem dX7_hold_23 : decode cX7_hold 23 = .ok (.invokevirtual 105, 3) := by decide +kernel
theorem dX7_hold_26 : decode cX7_hold 26 = .ok (.ireturn, 1) := by decide +kernel
theorem dX7_allHolds_0 : decode cX7_allHolds 0 = .ok (.iconst 0, 1) := by decide +kernel
theorem dX7_allHolds_1 : decode cX7_allHolds 1 = .ok (.istore_n 1, 1) := by decide +kernel
theorem dX7_allHolds_2 : decode cX7_allHolds 2 = .ok (.iconst 0, 1) := by decide +kernel
theorem dX7_allHolds_3 : decode cX7_allHolds 3 = .ok (.istore_n 2, 1) := by decide +kernel
theorem dX7_allHolds_4 : decode cX7_allHolds 4 = .ok (.iload_n 2, 1) := by decide +kernel
theorem dX7_allHolds_5 : decode cX7_allHolds 5 = .ok (.bipush 42, 2) := by decide +kernel
theorem dX7_allHolds_7 : decode cX7_allHolds 7 = .ok (.if_icmp .ge 38, 3) := by decide +kernel
theorem dX7_allHolds_10 : decode cX7_allHolds 10 = .ok (.iload_n 1, 1) := by decide +kernel
theorem dX7_allHolds_11 : decode cX7_allHolds 11 = .ok (.aload_n 0, 1) := by decide +kernel
theorem dX7_allHolds_12 : decode cX7_allHolds 12 = .ok (.iload_n 2, 1) := by decide +kernel
theorem dX7_allHolds_13 : decode cX7_allHolds 13 = .ok (.invokevirtual 77, 3) := by decide +kernel
theorem dX7_allHolds_16 : decode cX7_allHolds 16 = .ok (.ifCond .eq 7, 3) := by decide +kernel
theorem dX7_allHolds_19 : decode cX7_allHolds 19 = .ok (.iconst 0, 1) := by decide +kernel
theorem dX7_allHolds_20 : decode cX7_allHolds 20 = .ok (.goto 17, 3) := by decide +kernel
theorem dX7_allHolds_23 : decode cX7_allHolds 23 = .ok (.aload_n 0, 1) := by decide +kernel
theorem dX7_allHolds_24 : decode cX7_allHolds 24 = .ok (.iload_n 2, 1) := by decide +kernel
theorem dX7_allHolds_25 : decode cX7_allHolds 25 = .ok (.aload_n 0, 1) := by decide +kernel
theorem dX7_allHolds_26 : decode cX7_allHolds 26 = .ok (.getfield 7, 3) := by decide +kernel
theorem dX7_allHolds_29 : decode cX7_allHolds 29 = .ok (.bipush 45, 2) := by decide +kernel
theorem dX7_allHolds_31 : decode cX7_allHolds 31 = .ok (.iload_n 2, 1) := by decide +kernel
theorem dX7_allHolds_32 : decode cX7_allHolds 32 = .ok (.iadd, 1) := by decide +kernel
theorem dX7_allHolds_33 : decode cX7_allHolds 33 = .ok (.iaload, 1) := by decide +kernel
theorem dX7_allHolds_34 : decode cX7_allHolds 34 = .ok (.invokevirtual 105, 3) := by decide +kernel
theorem dX7_allHolds_37 : decode cX7_allHolds 37 = .ok (.iadd, 1) := by decide +kernel
theorem dX7_allHolds_38 : decode cX7_allHolds 38 = .ok (.istore_n 1, 1) := by decide +kernel
theorem dX7_allHolds_39 : decode cX7_allHolds 39 = .ok (.iinc 2 1, 3) := by decide +kernel
theorem dX7_allHolds_42 : decode cX7_allHolds 42 = .ok (.goto (-38), 3) := by decide +kernel
theorem dX7_allHolds_45 : decode cX7_allHolds 45 = .ok (.iload_n 1, 1) := by decide +kernel
theorem dX7_allHolds_46 : decode cX7_allHolds 46 = .ok (.ireturn, 1) := by decide +kernel
theorem dX7_holdAgain_0 : decode cX7_holdAgain 0 = .ok (.aload_n 0, 1) := by decide +kernel
theorem dX7_holdAgain_1 : decode cX7_holdAgain 1 = .ok (.iload_n 1, 1) := by decide +kernel
theorem dX7_holdAgain_2 : decode cX7_holdAgain 2 = .ok (.invokevirtual 137, 3) := by decide +kernel
theorem dX7_holdAgain_5 : decode cX7_holdAgain 5 = .ok (.ifCond .eq 5, 3) := by decide +kernel
theorem dX7_holdAgain_8 : decode cX7_holdAgain 8 = .ok (.iconst 0, 1) := by decide +kernel
theorem dX7_holdAgain_9 : decode cX7_holdAgain 9 = .ok (.ireturn, 1) := by decide +kernel
theorem dX7_holdAgain_10 : decode cX7_holdAgain 10 = .ok (.aload_n 0, 1) := by decide +kernel
theorem dX7_holdAgain_11 : decode cX7_holdAgain 11 = .ok (.invokevirtual 140, 3) := by decide +kernel
theorem dX7_holdAgain_14 : decode cX7_holdAgain 14 = .ok (.istore_n 2, 1) := by decide +kernel
theorem dX7_holdAgain_15 : decode cX7_holdAgain 15 = .ok (.aload_n 0, 1) := by decide +kernel
theorem dX7_holdAgain_16 : decode cX7_holdAgain 16 = .ok (.getfield 7, 3) := by decide +kernel
theorem dX7_holdAgain_19 : decode cX7_holdAgain 19 = .ok (.bipush 45, 2) := by decide +kernel
theorem dX7_holdAgain_21 : decode cX7_holdAgain 21 = .ok (.iload_n 1, 1) := by decide +kernel
theorem dX7_holdAgain_22 : decode cX7_holdAgain 22 = .ok (.iadd, 1) := by decide +kernel
theorem dX7_holdAgain_23 : decode cX7_holdAgain 23 = .ok (.iaload, 1) := by decide +kernel
theorem dX7_holdAgain_24 : decode cX7_holdAgain 24 = .ok (.istore_n 3, 1) := by decide +kernel
theorem dX7_holdAgain_25 : decode cX7_holdAgain 25 = .ok (.aload_n 0, 1) := by decide +kernel
theorem dX7_holdAgain_26 : decode cX7_holdAgain 26 = .ok (.getfield 7, 3) := by decide +kernel
theorem dX7_holdAgain_29 : decode cX7_holdAgain 29 = .ok (.bipush 45, 2) := by decide +kernel
theorem dX7_holdAgain_31 : decode cX7_holdAgain 31 = .ok (.iload_n 1, 1) := by decide +kernel
theorem dX7_holdAgain_32 : decode cX7_holdAgain 32 = .ok (.iadd, 1) := by decide +kernel
theorem dX7_holdAgain_33 : decode cX7_holdAgain 33 = .ok (.iconst (-1), 1) := by decide +kernel
theorem dX7_holdAgain_34 : decode cX7_holdAgain 34 = .ok (.iastore, 1) := by decide +kernel
theorem dX7_holdAgain_35 : decode cX7_holdAgain 35 = .ok (.aload_n 0, 1) := by decide +kernel
theorem dX7_holdAgain_36 : decode cX7_holdAgain 36 = .ok (.invokevirtual 140, 3) := by decide +kernel
theorem dX7_holdAgain_39 : decode cX7_holdAgain 39 = .ok (.istore 4, 2) := by decide +kernel
theorem dX7_holdAgain_41 : decode cX7_holdAgain 41 = .ok (.aload_n 0, 1) := by decide +kernel
theorem dX7_holdAgain_42 : decode cX7_holdAgain 42 = .ok (.getfield 7, 3) := by decide +kernel
theorem dX7_holdAgain_45 : decode cX7_holdAgain 45 = .ok (.bipush 45, 2) := by decide +kernel
theorem dX7_holdAgain_47 : decode cX7_holdAgain 47 = .ok (.iload_n 1, 1) := by decide +kernel
theorem dX7_holdAgain_48 : decode cX7_holdAgain 48 = .ok (.iadd, 1) := by decide +kernel
theorem dX7_holdAgain_49 : decode cX7_holdAgain 49 = .ok (.iload_n 3, 1) := by decide +kernel
theorem dX7_holdAgain_50 : decode cX7_holdAgain 50 = .ok (.iastore, 1) := by decide +kernel
theorem dX7_holdAgain_51 : decode cX7_holdAgain 51 = .ok (.iload_n 2, 1) := by decide +kernel
theorem dX7_holdAgain_52 : decode cX7_holdAgain 52 = .ok (.iload 4, 2) := by decide +kernel
theorem dX7_holdAgain_54 : decode cX7_holdAgain 54 = .ok (.isub, 1) := by decide +kernel
theorem dX7_holdAgain_55 : decode cX7_holdAgain 55 = .ok (.iconst 2, 1) := by decide +kernel
theorem dX7_holdAgain_56 : decode cX7_holdAgain 56 = .ok (.idiv, 1) := by decide +kernel
theorem dX7_holdAgain_57 : decode cX7_holdAgain 57 = .ok (.ireturn, 1) := by decide +kernel
theorem dX7_wouldHold_0 : decode cX7_wouldHold 0 = .ok (.aload_n 0, 1) := by decide +kernel
theorem dX7_wouldHold_1 : decode cX7_wouldHold 1 = .ok (.iload_n 1, 1) := by decide +kernel
theorem dX7_wouldHold_2 : decode cX7_wouldHold 2 = .ok (.invokestatic 99, 3) := by decide +kernel
theorem dX7_wouldHold_5 : decode cX7_wouldHold 5 = .ok (.ifCond .eq 11, 3) := by decide +kernel
theorem dX7_wouldHold_8 : decode cX7_wouldHold 8 = .ok (.aload_n 0, 1) := by decide +kernel
theorem dX7_wouldHold_9 : decode cX7_wouldHold 9 = .ok (.iload_n 2, 1) := by decide +kernel
theorem dX7_wouldHold_10 : decode cX7_wouldHold 10 = .ok (.invokevirtual 102, 3) := by decide +kernel
theorem dX7_wouldHold_13 : decode cX7_wouldHold 13 = .ok (.ifCond .ne 7, 3) := by decide +kernel
theorem dX7_wouldHold_16 : decode cX7_wouldHold 16 = .ok (.iconst 1, 1) := by decide +kernel
theorem dX7_wouldHold_17 : decode cX7_wouldHold 17 = .ok (.goto 29, 3) := by decide +kernel
theorem dX7_wouldHold_20 : decode cX7_wouldHold 20 = .ok (.iload_n 3, 1) := by decide +kernel
theorem dX7_wouldHold_21 : decode cX7_wouldHold 21 = .ok (.iconst 0, 1) := by decide +kernel
theorem dX7_wouldHold_22 : decode cX7_wouldHold 22 = .ok (.iconst 3, 1) := by decide +kernel
theorem dX7_wouldHold_23 : decode cX7_wouldHold 23 = .ok (.invokestatic 69, 3) := by decide +kernel
theorem dX7_wouldHold_26 : decode cX7_wouldHold 26 = .ok (.ifCond .ne 7, 3) := by decide +kernel
theorem dX7_wouldHold_29 : decode cX7_wouldHold 29 = .ok (.iconst 2, 1) := by decide +kernel
theorem dX7_wouldHold_30 : decode cX7_wouldHold 30 = .ok (.goto 16, 3) := by decide +kernel
theorem dX7_wouldHold_33 : decode cX7_wouldHold 33 = .ok (.aload_n 0, 1) := by decide +kernel
theorem dX7_wouldHold_34 : decode cX7_wouldHold 34 = .ok (.iload_n 1, 1) := by decide +kernel
theorem dX7_wouldHold_35 : decode cX7_wouldHold 35 = .ok (.invokevirtual 77, 3) := by decide +kernel
theorem dX7_wouldHold_38 : decode cX7_wouldHold 38 = .ok (.ifCond .eq 7, 3) := by decide +kernel
theorem dX7_wouldHold_41 : decode cX7_wouldHold 41 = .ok (.iconst 0, 1) := by decide +kernel
theorem dX7_wouldHold_42 : decode cX7_wouldHold 42 = .ok (.goto 4, 3) := by decide +kernel
theorem dX7_wouldHold_45 : decode cX7_wouldHold 45 = .ok (.iconst 3, 1) := by decide +kernel
theorem dX7_wouldHold_46 : decode cX7_wouldHold 46 = .ok (.invokevirtual 134, 3) := by decide +kernel
theorem dX7_wouldHold_49 : decode cX7_wouldHold 49 = .ok (.ifCond .eq 7, 3) := by decide +kernel
theorem dX7_wouldHold_52 : decode cX7_wouldHold 52 = .ok (.iconst 0, 1) := by decide +kernel
theorem dX7_wouldHold_53 : decode cX7_wouldHold 53 = .ok (.goto 13, 3) := by decide +kernel
theorem dX7_wouldHold_56 : decode cX7_wouldHold 56 = .ok (.aload_n 0, 1) := by decide +kernel
theorem dX7_wouldHold_57 : decode cX7_wouldHold 57 = .ok (.iload_n 1, 1) := by decide +kernel
theorem dX7_wouldHold_58 : decode cX7_wouldHold 58 = .ok (.iconst 4, 1) := by decide +kernel
theorem dX7_wouldHold_59 : decode cX7_wouldHold 59 = .ok (.iload_n 2, 1) := by decide +kernel
theorem dX7_wouldHold_60 : decode cX7_wouldHold 60 = .ok (.imul, 1) := by decide +kernel
theorem dX7_wouldHold_61 : decode cX7_wouldHold 61 = .ok (.iload_n 3, 1) := by decide +kernel
theorem dX7_wouldHold_62 : decode cX7_wouldHold 62 = .ok (.iadd, 1) := by decide +kernel
theorem dX7_wouldHold_63 : decode cX7_wouldHold 63 = .ok (.invokevirtual 105, 3) := by decide +kernel
theorem dX7_wouldHold_66 : decode cX7_wouldHold 66 = .ok (.ireturn, 1) := by decide +kernel
theorem dX7_stands_0 : decode cX7_stands 0 = .ok (.aload_n 0, 1) := by decide +kernel
theorem dX7_stands_1 : decode cX7_stands 1 = .ok (.iload_n 1, 1) := by decide +kernel
theorem dX7_stands_2 : decode cX7_stands 2 = .ok (.invokevirtual 137, 3) := by decide +kernel
theorem dX7_stands_5 : decode cX7_stands 5 = .ok (.ifCond .eq 5, 3) := by decide +kernel
theorem dX7_stands_8 : decode cX7_stands 8 = .ok (.iconst 0, 1) := by decide +kernel
theorem dX7_stands_9 : decode cX7_stands 9 = .ok (.ireturn, 1) := by decide +kernel
theorem dX7_stands_10 : decode cX7_stands 10 = .ok (.aload_n 0, 1) := by decide +kernel
theorem dX7_stands_11 : decode cX7_stands 11 = .ok (.invokevirtual 88, 3) := by decide +kernel
theorem dX7_stands_14 : decode cX7_stands 14 = .ok (.ifCond .le 16, 3) := by decide +kernel
theorem dX7_stands_17 : decode cX7_stands 17 = .ok (.aload_n 0, 1) := by decide +kernel
theorem dX7_stands_18 : decode cX7_stands 18 = .ok (.getfield 36, 3) := by decide +kernel
theorem dX7_stands_21 : decode cX7_stands 21 = .ok (.iload_n 1, 1) := by decide +kernel
theorem dX7_stands_22 : decode cX7_stands 22 = .ok (.baload, 1) := by decide +kernel
theorem dX7_stands_23 : decode cX7_stands 23 = .ok (.ifCond .eq 7, 3) := by decide +kernel
theorem dX7_stands_26 : decode cX7_stands 26 = .ok (.iconst 1, 1) := by decide +kernel
theorem dX7_stands_27 : decode cX7_stands 27 = .ok (.goto 4, 3) := by decide +kernel
theorem dX7_stands_30 : decode cX7_stands 30 = .ok (.iconst 0, 1) := by decide +kernel
theorem dX7_stands_31 : decode cX7_stands 31 = .ok (.ireturn, 1) := by decide +kernel
theorem dX7_fallen_0 : decode cX7_fallen 0 = .ok (.aload_n 0, 1) := by decide +kernel
theorem dX7_fallen_1 : decode cX7_fallen 1 = .ok (.iconst 0, 1) := by decide +kernel
theorem dX7_fallen_2 : decode cX7_fallen 2 = .ok (.putfield 43, 3) := by decide +kernel
theorem dX7_fallen_5 : decode cX7_fallen 5 = .ok (.aload_n 0, 1) := by decide +kernel
theorem dX7_fallen_6 : decode cX7_fallen 6 = .ok (.invokevirtual 143, 3) := by decide +kernel
theorem dX7_fallen_9 : decode cX7_fallen 9 = .ok (.aload_n 0, 1) := by decide +kernel
theorem dX7_fallen_10 : decode cX7_fallen 10 = .ok (.invokevirtual 88, 3) := by decide +kernel
theorem dX7_fallen_13 : decode cX7_fallen 13 = .ok (.isub, 1) := by decide +kernel
theorem dX7_fallen_14 : decode cX7_fallen 14 = .ok (.ireturn, 1) := by decide +kernel
theorem dX7_falls_0 : decode cX7_falls 0 = .ok (.aload_n 0, 1) := by decide +kernel
theorem dX7_falls_1 : decode cX7_falls 1 = .ok (.iload_n 1, 1) := by decide +kernel
theorem dX7_falls_2 : decode cX7_falls 2 = .ok (.invokevirtual 137, 3) := by decide +kernel
theorem dX7_falls_5 : decode cX7_falls 5 = .ok (.ifCond .eq 7, 3) := by decide +kernel
theorem dX7_falls_8 : decode cX7_falls 8 = .ok (.iconst 0, 1) := by decide +kernel
theorem dX7_falls_9 : decode cX7_falls 9 = .ok (.goto 8, 3) := by decide +kernel
theorem dX7_falls_12 : decode cX7_falls 12 = .ok (.aload_n 0, 1) := by decide +kernel
theorem dX7_falls_13 : decode cX7_falls 13 = .ok (.iload_n 1, 1) := by decide +kernel
theorem dX7_falls_14 : decode cX7_falls 14 = .ok (.invokevirtual 108, 3) := by decide +kernel
theorem dX7_falls_17 : decode cX7_falls 17 = .ok (.ireturn, 1) := by decide +kernel
theorem dX7_errors_0 : decode cX7_errors 0 = .ok (.aload_n 0, 1) := by decide +kernel
theorem dX7_errors_1 : decode cX7_errors 1 = .ok (.iconst 0, 1) := by decide +kernel
theorem dX7_errors_2 : decode cX7_errors 2 = .ok (.putfield 43, 3) := by decide +kernel
theorem dX7_errors_5 : decode cX7_errors 5 = .ok (.iconst 0, 1) := by decide +kernel
theorem dX7_errors_6 : decode cX7_errors 6 = .ok (.istore_n 1, 1) := by decide +kernel
theorem dX7_errors_7 : decode cX7_errors 7 = .ok (.iconst 0, 1) := by decide +kernel
theorem dX7_errors_8 : decode cX7_errors 8 = .ok (.istore_n 2, 1) := by decide +kernel
theorem dX7_errors_9 : decode cX7_errors 9 = .ok (.iload_n 2, 1) := by decide +kernel
theorem dX7_errors_10 : decode cX7_errors 10 = .ok (.bipush 42, 2) := by decide +kernel
theorem dX7_errors_12 : decode cX7_errors 12 = .ok (.if_icmp .ge 38, 3) := by decide +kernel
theorem dX7_errors_15 : decode cX7_errors 15 = .ok (.iload_n 1, 1) := by decide +kernel
theorem dX7_errors_16 : decode cX7_errors 16 = .ok (.aload_n 0, 1) := by decide +kernel
theorem dX7_errors_17 : decode cX7_errors 17 = .ok (.iload_n 2, 1) := by decide +kernel
theorem dX7_errors_18 : decode cX7_errors 18 = .ok (.invokevirtual 77, 3) := by decide +kernel
theorem dX7_errors_21 : decode cX7_errors 21 = .ok (.ifCond .eq 7, 3) := by decide +kernel
theorem dX7_errors_24 : decode cX7_errors 24 = .ok (.iconst 0, 1) := by decide +kernel
theorem dX7_errors_25 : decode cX7_errors 25 = .ok (.goto 17, 3) := by decide +kernel
theorem dX7_errors_28 : decode cX7_errors 28 = .ok (.aload_n 0, 1) := by decide +kernel
theorem dX7_errors_29 : decode cX7_errors 29 = .ok (.iload_n 2, 1) := by decide +kernel
theorem dX7_errors_30 : decode cX7_errors 30 = .ok (.aload_n 0, 1) := by decide +kernel
theorem dX7_errors_31 : decode cX7_errors 31 = .ok (.getfield 7, 3) := by decide +kernel
theorem dX7_errors_34 : decode cX7_errors 34 = .ok (.bipush 45, 2) := by decide +kernel
theorem dX7_errors_36 : decode cX7_errors 36 = .ok (.iload_n 2, 1) := by decide +kernel
theorem dX7_errors_37 : decode cX7_errors 37 = .ok (.iadd, 1) := by decide +kernel
theorem dX7_errors_38 : decode cX7_errors 38 = .ok (.iaload, 1) := by decide +kernel
theorem dX7_errors_39 : decode cX7_errors 39 = .ok (.invokevirtual 112, 3) := by decide +kernel
theorem dX7_errors_42 : decode cX7_errors 42 = .ok (.iadd, 1) := by decide +kernel
theorem dX7_errors_43 : decode cX7_errors 43 = .ok (.istore_n 1, 1) := by decide +kernel
theorem dX7_errors_44 : decode cX7_errors 44 = .ok (.iinc 2 1, 3) := by decide +kernel
theorem dX7_errors_47 : decode cX7_errors 47 = .ok (.goto (-38), 3) := by decide +kernel
theorem dX7_errors_50 : decode cX7_errors 50 = .ok (.iload_n 1, 1) := by decide +kernel
theorem dX7_errors_51 : decode cX7_errors 51 = .ok (.iconst 2, 1) := by decide +kernel
theorem dX7_errors_52 : decode cX7_errors 52 = .ok (.idiv, 1) := by decide +kernel
theorem dX7_errors_53 : decode cX7_errors 53 = .ok (.ireturn, 1) := by decide +kernel
theorem dX7_errorsAt_0 : decode cX7_errorsAt 0 = .ok (.aload_n 0, 1) := by decide +kernel
theorem dX7_errorsAt_1 : decode cX7_errorsAt 1 = .ok (.iload_n 1, 1) := by decide +kernel
theorem dX7_errorsAt_2 : decode cX7_errorsAt 2 = .ok (.invokevirtual 137, 3) := by decide +kernel
theorem dX7_errorsAt_5 : decode cX7_errorsAt 5 = .ok (.ifCond .eq 7, 3) := by decide +kernel
theorem dX7_errorsAt_8 : decode cX7_errorsAt 8 = .ok (.iconst 0, 1) := by decide +kernel
theorem dX7_errorsAt_9 : decode cX7_errorsAt 9 = .ok (.goto 17, 3) := by decide +kernel
theorem dX7_errorsAt_12 : decode cX7_errorsAt 12 = .ok (.aload_n 0, 1) := by decide +kernel
theorem dX7_errorsAt_13 : decode cX7_errorsAt 13 = .ok (.iload_n 1, 1) := by decide +kernel
theorem dX7_errorsAt_14 : decode cX7_errorsAt 14 = .ok (.aload_n 0, 1) := by decide +kernel
theorem dX7_errorsAt_15 : decode cX7_errorsAt 15 = .ok (.getfield 7, 3) := by decide +kernel
theorem dX7_errorsAt_18 : decode cX7_errorsAt 18 = .ok (.bipush 45, 2) := by decide +kernel
theorem dX7_errorsAt_20 : decode cX7_errorsAt 20 = .ok (.iload_n 1, 1) := by decide +kernel
theorem dX7_errorsAt_21 : decode cX7_errorsAt 21 = .ok (.iadd, 1) := by decide +kernel
theorem dX7_errorsAt_22 : decode cX7_errorsAt 22 = .ok (.iaload, 1) := by decide +kernel
theorem dX7_errorsAt_23 : decode cX7_errorsAt 23 = .ok (.invokevirtual 112, 3) := by decide +kernel
theorem dX7_errorsAt_26 : decode cX7_errorsAt 26 = .ok (.ireturn, 1) := by decide +kernel
theorem dX7_nextPlace_0 : decode cX7_nextPlace 0 = .ok (.aload_n 0, 1) := by decide +kernel
theorem dX7_nextPlace_1 : decode cX7_nextPlace 1 = .ok (.invokevirtual 122, 3) := by decide +kernel
theorem dX7_nextPlace_4 : decode cX7_nextPlace 4 = .ok (.istore_n 1, 1) := by decide +kernel
theorem dX7_nextPlace_5 : decode cX7_nextPlace 5 = .ok (.aload_n 0, 1) := by decide +kernel
theorem dX7_nextPlace_6 : decode cX7_nextPlace 6 = .ok (.iload_n 1, 1) := by decide +kernel
theorem dX7_nextPlace_7 : decode cX7_nextPlace 7 = .ok (.ifCond .ge 7, 3) := by decide +kernel
theorem dX7_nextPlace_10 : decode cX7_nextPlace 10 = .ok (.iconst 1, 1) := by decide +kernel
theorem dX7_nextPlace_11 : decode cX7_nextPlace 11 = .ok (.goto 4, 3) := by decide +kernel
theorem dX7_nextPlace_14 : decode cX7_nextPlace 14 = .ok (.iconst 0, 1) := by decide +kernel
theorem dX7_nextPlace_15 : decode cX7_nextPlace 15 = .ok (.invokevirtual 134, 3) := by decide +kernel
theorem dX7_nextPlace_18 : decode cX7_nextPlace 18 = .ok (.ifCond .eq 7, 3) := by decide +kernel
theorem dX7_nextPlace_21 : decode cX7_nextPlace 21 = .ok (.iconst 0, 1) := by decide +kernel
theorem dX7_nextPlace_22 : decode cX7_nextPlace 22 = .ok (.goto 4, 3) := by decide +kernel
theorem dX7_nextPlace_25 : decode cX7_nextPlace 25 = .ok (.iload_n 1, 1) := by decide +kernel
theorem dX7_nextPlace_26 : decode cX7_nextPlace 26 = .ok (.ireturn, 1) := by decide +kernel
theorem dX7_nextBrick_0 : decode cX7_nextBrick 0 = .ok (.aload_n 0, 1) := by decide +kernel
theorem dX7_nextBrick_1 : decode cX7_nextBrick 1 = .ok (.invokevirtual 122, 3) := by decide +kernel
theorem dX7_nextBrick_4 : decode cX7_nextBrick 4 = .ok (.istore_n 1, 1) := by decide +kernel
theorem dX7_nextBrick_5 : decode cX7_nextBrick 5 = .ok (.aload_n 0, 1) := by decide +kernel
theorem dX7_nextBrick_6 : decode cX7_nextBrick 6 = .ok (.iload_n 1, 1) := by decide +kernel
theorem dX7_nextBrick_7 : decode cX7_nextBrick 7 = .ok (.ifCond .ge 7, 3) := by decide +kernel
theorem dX7_nextBrick_10 : decode cX7_nextBrick 10 = .ok (.iconst 1, 1) := by decide +kernel
theorem dX7_nextBrick_11 : decode cX7_nextBrick 11 = .ok (.goto 4, 3) := by decide +kernel
theorem dX7_nextBrick_14 : decode cX7_nextBrick 14 = .ok (.iconst 0, 1) := by decide +kernel
theorem dX7_nextBrick_15 : decode cX7_nextBrick 15 = .ok (.invokevirtual 134, 3) := by decide +kernel
theorem dX7_nextBrick_18 : decode cX7_nextBrick 18 = .ok (.ifCond .eq 7, 3) := by decide +kernel
theorem dX7_nextBrick_21 : decode cX7_nextBrick 21 = .ok (.iconst 0, 1) := by decide +kernel
theorem dX7_nextBrick_22 : decode cX7_nextBrick 22 = .ok (.goto 8, 3) := by decide +kernel
theorem dX7_nextBrick_25 : decode cX7_nextBrick 25 = .ok (.aload_n 0, 1) := by decide +kernel
theorem dX7_nextBrick_26 : decode cX7_nextBrick 26 = .ok (.iload_n 1, 1) := by decide +kernel
theorem dX7_nextBrick_27 : decode cX7_nextBrick 27 = .ok (.invokevirtual 125, 3) := by decide +kernel
theorem dX7_nextBrick_30 : decode cX7_nextBrick 30 = .ok (.ireturn, 1) := by decide +kernel
theorem dX7_choices_0 : decode cX7_choices 0 = .ok (.aload_n 0, 1) := by decide +kernel
theorem dX7_choices_1 : decode cX7_choices 1 = .ok (.iload_n 1, 1) := by decide +kernel
theorem dX7_choices_2 : decode cX7_choices 2 = .ok (.invokestatic 99, 3) := by decide +kernel
theorem dX7_choices_5 : decode cX7_choices 5 = .ok (.ifCond .ne 7, 3) := by decide +kernel
theorem dX7_choices_8 : decode cX7_choices 8 = .ok (.iconst 1, 1) := by decide +kernel
theorem dX7_choices_9 : decode cX7_choices 9 = .ok (.goto 16, 3) := by decide +kernel
theorem dX7_choices_12 : decode cX7_choices 12 = .ok (.aload_n 0, 1) := by decide +kernel
theorem dX7_choices_13 : decode cX7_choices 13 = .ok (.iload_n 1, 1) := by decide +kernel
theorem dX7_choices_14 : decode cX7_choices 14 = .ok (.invokevirtual 77, 3) := by decide +kernel
theorem dX7_choices_17 : decode cX7_choices 17 = .ok (.ifCond .eq 7, 3) := by decide +kernel
theorem dX7_choices_20 : decode cX7_choices 20 = .ok (.iconst 0, 1) := by decide +kernel
theorem dX7_choices_21 : decode cX7_choices 21 = .ok (.goto 4, 3) := by decide +kernel
theorem dX7_choices_24 : decode cX7_choices 24 = .ok (.iconst 2, 1) := by decide +kernel
theorem dX7_choices_25 : decode cX7_choices 25 = .ok (.invokevirtual 134, 3) := by decide +kernel
theorem dX7_choices_28 : decode cX7_choices 28 = .ok (.ifCond .eq 7, 3) := by decide +kernel
theorem dX7_choices_31 : decode cX7_choices 31 = .ok (.iconst 0, 1) := by decide +kernel
theorem dX7_choices_32 : decode cX7_choices 32 = .ok (.goto 8, 3) := by decide +kernel
theorem dX7_choices_35 : decode cX7_choices 35 = .ok (.aload_n 0, 1) := by decide +kernel
theorem dX7_choices_36 : decode cX7_choices 36 = .ok (.iload_n 1, 1) := by decide +kernel
theorem dX7_choices_37 : decode cX7_choices 37 = .ok (.invokevirtual 119, 3) := by decide +kernel
theorem dX7_choices_40 : decode cX7_choices 40 = .ok (.ireturn, 1) := by decide +kernel
theorem dX7_stuck_0 : decode cX7_stuck 0 = .ok (.aload_n 0, 1) := by decide +kernel
theorem dX7_stuck_1 : decode cX7_stuck 1 = .ok (.iconst 0, 1) := by decide +kernel
theorem dX7_stuck_2 : decode cX7_stuck 2 = .ok (.putfield 43, 3) := by decide +kernel
theorem dX7_stuck_5 : decode cX7_stuck 5 = .ok (.aload_n 0, 1) := by decide +kernel
theorem dX7_stuck_6 : decode cX7_stuck 6 = .ok (.invokevirtual 128, 3) := by decide +kernel
theorem dX7_stuck_9 : decode cX7_stuck 9 = .ok (.ireturn, 1) := by decide +kernel
theorem dX7_growsTo_0 : decode cX7_growsTo 0 = .ok (.aload_n 0, 1) := by decide +kernel
theorem dX7_growsTo_1 : decode cX7_growsTo 1 = .ok (.iconst 0, 1) := by decide +kernel
theorem dX7_growsTo_2 : decode cX7_growsTo 2 = .ok (.putfield 43, 3) := by decide +kernel
theorem dX7_growsTo_5 : decode cX7_growsTo 5 = .ok (.aload_n 0, 1) := by decide +kernel
theorem dX7_growsTo_6 : decode cX7_growsTo 6 = .ok (.getfield 7, 3) := by decide +kernel
theorem dX7_growsTo_9 : decode cX7_growsTo 9 = .ok (.iconst 0, 1) := by decide +kernel
theorem dX7_growsTo_10 : decode cX7_growsTo 10 = .ok (.aload_n 0, 1) := by decide +kernel
theorem dX7_growsTo_11 : decode cX7_growsTo 11 = .ok (.getfield 22, 3) := by decide +kernel
theorem dX7_growsTo_14 : decode cX7_growsTo 14 = .ok (.iconst 0, 1) := by decide +kernel
theorem dX7_growsTo_15 : decode cX7_growsTo 15 = .ok (.invokestatic 65, 3) := by decide +kernel
theorem dX7_growsTo_18 : decode cX7_growsTo 18 = .ok (.aload_n 0, 1) := by decide +kernel
theorem dX7_growsTo_19 : decode cX7_growsTo 19 = .ok (.invokevirtual 143, 3) := by decide +kernel
theorem dX7_growsTo_22 : decode cX7_growsTo 22 = .ok (.aload_n 0, 1) := by decide +kernel
theorem dX7_growsTo_23 : decode cX7_growsTo 23 = .ok (.bipush 42, 2) := by decide +kernel
theorem dX7_growsTo_25 : decode cX7_growsTo 25 = .ok (.invokevirtual 131, 3) := by decide +kernel
theorem dX7_growsTo_28 : decode cX7_growsTo 28 = .ok (.iadd, 1) := by decide +kernel
theorem dX7_growsTo_29 : decode cX7_growsTo 29 = .ok (.istore_n 1, 1) := by decide +kernel
theorem dX7_growsTo_30 : decode cX7_growsTo 30 = .ok (.aload_n 0, 1) := by decide +kernel
theorem dX7_growsTo_31 : decode cX7_growsTo 31 = .ok (.getfield 22, 3) := by decide +kernel
theorem dX7_growsTo_34 : decode cX7_growsTo 34 = .ok (.iconst 0, 1) := by decide +kernel
theorem dX7_growsTo_35 : decode cX7_growsTo 35 = .ok (.aload_n 0, 1) := by decide +kernel
theorem dX7_growsTo_36 : decode cX7_growsTo 36 = .ok (.getfield 7, 3) := by decide +kernel
theorem dX7_growsTo_39 : decode cX7_growsTo 39 = .ok (.iconst 0, 1) := by decide +kernel
theorem dX7_growsTo_40 : decode cX7_growsTo 40 = .ok (.invokestatic 65, 3) := by decide +kernel
theorem dX7_growsTo_43 : decode cX7_growsTo 43 = .ok (.iload_n 1, 1) := by decide +kernel
theorem dX7_growsTo_44 : decode cX7_growsTo 44 = .ok (.ireturn, 1) := by decide +kernel
theorem dX7_inRow_0 : decode cX7_inRow 0 = .ok (.aload_n 0, 1) := by decide +kernel
theorem dX7_inRow_1 : decode cX7_inRow 1 = .ok (.iload_n 1, 1) := by decide +kernel
theorem dX7_inRow_2 : decode cX7_inRow 2 = .ok (.iconst 0, 1) := by decide +kernel
theorem dX7_inRow_3 : decode cX7_inRow 3 = .ok (.iload_n 2, 1) := by decide +kernel
theorem dX7_inRow_4 : decode cX7_inRow 4 = .ok (.ifCond .eq 8, 3) := by decide +kernel
theorem dX7_inRow_7 : decode cX7_inRow 7 = .ok (.bipush 6, 2) := by decide +kernel
theorem dX7_inRow_9 : decode cX7_inRow 9 = .ok (.goto 4, 3) := by decide +kernel
theorem dX7_inRow_12 : decode cX7_inRow 12 = .ok (.iconst 5, 1) := by decide +kernel
theorem dX7_inRow_13 : decode cX7_inRow 13 = .ok (.invokestatic 69, 3) := by decide +kernel
theorem dX7_inRow_16 : decode cX7_inRow 16 = .ok (.ifCond .eq 7, 3) := by decide +kernel
theorem dX7_inRow_19 : decode cX7_inRow 19 = .ok (.iconst 0, 1) := by decide +kernel
theorem dX7_inRow_20 : decode cX7_inRow 20 = .ok (.goto 4, 3) := by decide +kernel
theorem dX7_inRow_23 : decode cX7_inRow 23 = .ok (.iconst 1, 1) := by decide +kernel
theorem dX7_inRow_24 : decode cX7_inRow 24 = .ok (.invokevirtual 134, 3) := by decide +kernel
theorem dX7_inRow_27 : decode cX7_inRow 27 = .ok (.ifCond .eq 5, 3) := by decide +kernel
theorem dX7_inRow_30 : decode cX7_inRow 30 = .ok (.iconst 0, 1) := by decide +kernel
theorem dX7_inRow_31 : decode cX7_inRow 31 = .ok (.ireturn, 1) := by decide +kernel
theorem dX7_inRow_32 : decode cX7_inRow 32 = .ok (.iconst 0, 1) := by decide +kernel
theorem dX7_inRow_33 : decode cX7_inRow 33 = .ok (.istore_n 3, 1) := by decide +kernel
theorem dX7_inRow_34 : decode cX7_inRow 34 = .ok (.iconst 0, 1) := by decide +kernel
theorem dX7_inRow_35 : decode cX7_inRow 35 = .ok (.istore 4, 2) := by decide +kernel
theorem dX7_inRow_37 : decode cX7_inRow 37 = .ok (.iload 4, 2) := by decide +kernel
theorem dX7_inRow_39 : decode cX7_inRow 39 = .ok (.bipush 42, 2) := by decide +kernel
theorem dX7_inRow_41 : decode cX7_inRow 41 = .ok (.if_icmp .ge 47, 3) := by decide +kernel
theorem dX7_inRow_44 : decode cX7_inRow 44 = .ok (.iload_n 3, 1) := by decide +kernel
theorem dX7_inRow_45 : decode cX7_inRow 45 = .ok (.aload_n 0, 1) := by decide +kernel
theorem dX7_inRow_46 : decode cX7_inRow 46 = .ok (.iload 4, 2) := by decide +kernel
theorem dX7_inRow_48 : decode cX7_inRow 48 = .ok (.invokevirtual 77, 3) := by decide +kernel
theorem dX7_inRow_51 : decode cX7_inRow 51 = .ok (.ifCond .ne 28, 3) := by decide +kernel
theorem dX7_inRow_54 : decode cX7_inRow 54 = .ok (.iload_n 2, 1) := by decide +kernel
theorem dX7_inRow_55 : decode cX7_inRow 55 = .ok (.ifCond .eq 11, 3) := by decide +kernel
theorem dX7_inRow_58 : decode cX7_inRow 58 = .ok (.iload 4, 2) := by decide +kernel
theorem dX7_inRow_60 : decode cX7_inRow 60 = .ok (.bipush 7, 2) := by decide +kernel
theorem dX7_inRow_62 : decode cX7_inRow 62 = .ok (.irem, 1) := by decide +kernel
theorem dX7_inRow_63 : decode cX7_inRow 63 = .ok (.goto 8, 3) := by decide +kernel
theorem dX7_inRow_66 : decode cX7_inRow 66 = .ok (.iload 4, 2) := by decide +kernel
theorem dX7_inRow_68 : decode cX7_inRow 68 = .ok (.bipush 7, 2) := by decide +kernel
theorem dX7_inRow_70 : decode cX7_inRow 70 = .ok (.idiv, 1) := by decide +kernel
theorem dX7_inRow_71 : decode cX7_inRow 71 = .ok (.iload_n 1, 1) := by decide +kernel
theorem dX7_inRow_72 : decode cX7_inRow 72 = .ok (.if_icmp .ne 7, 3) := by decide +kernel
theorem dX7_inRow_75 : decode cX7_inRow 75 = .ok (.iconst 1, 1) := by decide +kernel
theorem dX7_inRow_76 : decode cX7_inRow 76 = .ok (.goto 4, 3) := by decide +kernel
theorem dX7_inRow_79 : decode cX7_inRow 79 = .ok (.iconst 0, 1) := by decide +kernel
theorem dX7_inRow_80 : decode cX7_inRow 80 = .ok (.iadd, 1) := by decide +kernel
theorem dX7_inRow_81 : decode cX7_inRow 81 = .ok (.istore_n 3, 1) := by decide +kernel
theorem dX7_inRow_82 : decode cX7_inRow 82 = .ok (.iinc 4 1, 3) := by decide +kernel
theorem dX7_inRow_85 : decode cX7_inRow 85 = .ok (.goto (-48), 3) := by decide +kernel
theorem dX7_inRow_88 : decode cX7_inRow 88 = .ok (.iload_n 3, 1) := by decide +kernel
theorem dX7_inRow_89 : decode cX7_inRow 89 = .ok (.ireturn, 1) := by decide +kernel
theorem dX7_weakest_0 : decode cX7_weakest 0 = .ok (.iconst 0, 1) := by decide +kernel
theorem dX7_weakest_1 : decode cX7_weakest 1 = .ok (.istore_n 2, 1) := by decide +kernel
theorem dX7_weakest_2 : decode cX7_weakest 2 = .ok (.iload_n 2, 1) := by decide +kernel
theorem dX7_weakest_3 : decode cX7_weakest 3 = .ok (.bipush 42, 2) := by decide +kernel
theorem dX7_weakest_5 : decode cX7_weakest 5 = .ok (.if_icmp .ge 126, 3) := by decide +kernel
theorem dX7_weakest_8 : decode cX7_weakest 8 = .ok (.aload_n 0, 1) := by decide +kernel
theorem dX7_weakest_9 : decode cX7_weakest 9 = .ok (.iload_n 2, 1) := by decide +kernel
theorem dX7_weakest_10 : decode cX7_weakest 10 = .ok (.invokevirtual 77, 3) := by decide +kernel
theorem dX7_weakest_13 : decode cX7_weakest 13 = .ok (.ifCond .eq 6, 3) := by decide +kernel
theorem dX7_weakest_16 : decode cX7_weakest 16 = .ok (.goto 109, 3) := by decide +kernel
theorem dX7_weakest_19 : decode cX7_weakest 19 = .ok (.iconst 0, 1) := by decide +kernel
theorem dX7_weakest_20 : decode cX7_weakest 20 = .ok (.istore_n 3, 1) := by decide +kernel
theorem dX7_weakest_21 : decode cX7_weakest 21 = .ok (.aload_n 0, 1) := by decide +kernel
theorem dX7_weakest_22 : decode cX7_weakest 22 = .ok (.iload_n 2, 1) := by decide +kernel
theorem dX7_weakest_23 : decode cX7_weakest 23 = .ok (.aload_n 0, 1) := by decide +kernel
theorem dX7_weakest_24 : decode cX7_weakest 24 = .ok (.getfield 7, 3) := by decide +kernel
theorem dX7_weakest_27 : decode cX7_weakest 27 = .ok (.bipush 45, 2) := by decide +kernel
theorem dX7_weakest_29 : decode cX7_weakest 29 = .ok (.iload_n 2, 1) := by decide +kernel
theorem dX7_weakest_30 : decode cX7_weakest 30 = .ok (.iadd, 1) := by decide +kernel
theorem dX7_weakest_31 : decode cX7_weakest 31 = .ok (.iaload, 1) := by decide +kernel
theorem dX7_weakest_32 : decode cX7_weakest 32 = .ok (.invokevirtual 105, 3) := by decide +kernel
theorem dX7_weakest_35 : decode cX7_weakest 35 = .ok (.istore 4, 2) := by decide +kernel
theorem dX7_weakest_37 : decode cX7_weakest 37 = .ok (.iconst 0, 1) := by decide +kernel
theorem dX7_weakest_38 : decode cX7_weakest 38 = .ok (.istore 5, 2) := by decide +kernel
theorem dX7_weakest_40 : decode cX7_weakest 40 = .ok (.iload 5, 2) := by decide +kernel
theorem dX7_weakest_42 : decode cX7_weakest 42 = .ok (.bipush 42, 2) := by decide +kernel
theorem dX7_weakest_44 : decode cX7_weakest 44 = .ok (.if_icmp .ge 66, 3) := by decide +kernel
theorem dX7_weakest_47 : decode cX7_weakest 47 = .ok (.aload_n 0, 1) := by decide +kernel
theorem dX7_weakest_48 : decode cX7_weakest 48 = .ok (.iload 5, 2) := by decide +kernel
theorem dX7_weakest_50 : decode cX7_weakest 50 = .ok (.invokevirtual 77, 3) := by decide +kernel
theorem dX7_weakest_53 : decode cX7_weakest 53 = .ok (.ifCond .eq 6, 3) := by decide +kernel
theorem dX7_weakest_56 : decode cX7_weakest 56 = .ok (.goto 48, 3) := by decide +kernel
theorem dX7_weakest_59 : decode cX7_weakest 59 = .ok (.aload_n 0, 1) := by decide +kernel
theorem dX7_weakest_60 : decode cX7_weakest 60 = .ok (.iload 5, 2) := by decide +kernel
theorem dX7_weakest_62 : decode cX7_weakest 62 = .ok (.aload_n 0, 1) := by decide +kernel
theorem dX7_weakest_63 : decode cX7_weakest 63 = .ok (.getfield 7, 3) := by decide +kernel
theorem dX7_weakest_66 : decode cX7_weakest 66 = .ok (.bipush 45, 2) := by decide +kernel
theorem dX7_weakest_68 : decode cX7_weakest 68 = .ok (.iload 5, 2) := by decide +kernel
theorem dX7_weakest_70 : decode cX7_weakest 70 = .ok (.iadd, 1) := by decide +kernel
theorem dX7_weakest_71 : decode cX7_weakest 71 = .ok (.iaload, 1) := by decide +kernel
theorem dX7_weakest_72 : decode cX7_weakest 72 = .ok (.invokevirtual 105, 3) := by decide +kernel
theorem dX7_weakest_75 : decode cX7_weakest 75 = .ok (.iload 4, 2) := by decide +kernel
theorem dX7_weakest_77 : decode cX7_weakest 77 = .ok (.isub, 1) := by decide +kernel
theorem dX7_weakest_78 : decode cX7_weakest 78 = .ok (.istore 6, 2) := by decide +kernel
theorem dX7_weakest_80 : decode cX7_weakest 80 = .ok (.iload_n 3, 1) := by decide +kernel
theorem dX7_weakest_81 : decode cX7_weakest 81 = .ok (.iload 6, 2) := by decide +kernel
theorem dX7_weakest_83 : decode cX7_weakest 83 = .ok (.ifCond .lt 14, 3) := by decide +kernel
theorem dX7_weakest_86 : decode cX7_weakest 86 = .ok (.iload 6, 2) := by decide +kernel
theorem dX7_weakest_88 : decode cX7_weakest 88 = .ok (.ifCond .ne 13, 3) := by decide +kernel
theorem dX7_weakest_91 : decode cX7_weakest 91 = .ok (.iload 5, 2) := by decide +kernel
theorem dX7_weakest_93 : decode cX7_weakest 93 = .ok (.iload_n 2, 1) := by decide +kernel
theorem dX7_weakest_94 : decode cX7_weakest 94 = .ok (.if_icmp .ge 7, 3) := by decide +kernel
theorem dX7_weakest_97 : decode cX7_weakest 97 = .ok (.iconst 1, 1) := by decide +kernel
theorem dX7_weakest_98 : decode cX7_weakest 98 = .ok (.goto 4, 3) := by decide +kernel
theorem dX7_weakest_101 : decode cX7_weakest 101 = .ok (.iconst 0, 1) := by decide +kernel
theorem dX7_weakest_102 : decode cX7_weakest 102 = .ok (.iadd, 1) := by decide +kernel
theorem dX7_weakest_103 : decode cX7_weakest 103 = .ok (.istore_n 3, 1) := by decide +kernel
theorem dX7_weakest_104 : decode cX7_weakest 104 = .ok (.iinc 5 1, 3) := by decide +kernel
theorem dX7_weakest_107 : decode cX7_weakest 107 = .ok (.goto (-67), 3) := by decide +kernel
theorem dX7_weakest_110 : decode cX7_weakest 110 = .ok (.iload_n 3, 1) := by decide +kernel
theorem dX7_weakest_111 : decode cX7_weakest 111 = .ok (.iload_n 1, 1) := by decide +kernel
theorem dX7_weakest_112 : decode cX7_weakest 112 = .ok (.if_icmp .eq 6, 3) := by decide +kernel
theorem dX7_weakest_115 : decode cX7_weakest 115 = .ok (.goto 10, 3) := by decide +kernel
theorem dX7_weakest_118 : decode cX7_weakest 118 = .ok (.aload_n 0, 1) := by decide +kernel
theorem dX7_weakest_119 : decode cX7_weakest 119 = .ok (.iconst 0, 1) := by decide +kernel
theorem dX7_weakest_120 : decode cX7_weakest 120 = .ok (.putfield 43, 3) := by decide +kernel
theorem dX7_weakest_123 : decode cX7_weakest 123 = .ok (.iload_n 2, 1) := by decide +kernel
theorem dX7_weakest_124 : decode cX7_weakest 124 = .ok (.ireturn, 1) := by decide +kernel
theorem dX7_weakest_125 : decode cX7_weakest 125 = .ok (.iinc 2 1, 3) := by decide +kernel
theorem dX7_weakest_128 : decode cX7_weakest 128 = .ok (.goto (-126), 3) := by decide +kernel
theorem dX7_weakest_131 : decode cX7_weakest 131 = .ok (.aload_n 0, 1) := by decide +kernel
theorem dX7_weakest_132 : decode cX7_weakest 132 = .ok (.iconst 1, 1) := by decide +kernel
theorem dX7_weakest_133 : decode cX7_weakest 133 = .ok (.putfield 43, 3) := by decide +kernel
theorem dX7_weakest_136 : decode cX7_weakest 136 = .ok (.iconst 0, 1) := by decide +kernel
theorem dX7_weakest_137 : decode cX7_weakest 137 = .ok (.ireturn, 1) := by decide +kernel
theorem dX7_append_0 : decode cX7_append 0 = .ok (.aload_n 0, 1) := by decide +kernel
theorem dX7_append_1 : decode cX7_append 1 = .ok (.aload_n 0, 1) := by decide +kernel
theorem dX7_append_2 : decode cX7_append 2 = .ok (.getfield 146, 3) := by decide +kernel
theorem dX7_append_5 : decode cX7_append 5 = .ok (.bipush 60, 2) := by decide +kernel
theorem dX7_append_7 : decode cX7_append 7 = .ok (.if_icmp .ne 7, 3) := by decide +kernel
theorem dX7_append_10 : decode cX7_append 10 = .ok (.iconst 1, 1) := by decide +kernel
theorem dX7_append_11 : decode cX7_append 11 = .ok (.goto 4, 3) := by decide +kernel
theorem dX7_append_14 : decode cX7_append 14 = .ok (.iconst 0, 1) := by decide +kernel
