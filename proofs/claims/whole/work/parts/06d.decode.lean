theorem dX9_writeOut_0 : decode cX9_writeOut 0 = .ok (.aload_n 0, 1) := by decide +kernel
theorem dX9_writeOut_1 : decode cX9_writeOut 1 = .ok (.bipush 70, 2) := by decide +kernel
theorem dX9_writeOut_3 : decode cX9_writeOut 3 = .ok (.invokevirtual 194, 3) := by decide +kernel
theorem dX9_writeOut_6 : decode cX9_writeOut 6 = .ok (.aload_n 0, 1) := by decide +kernel
theorem dX9_writeOut_7 : decode cX9_writeOut 7 = .ok (.aload_n 0, 1) := by decide +kernel
theorem dX9_writeOut_8 : decode cX9_writeOut 8 = .ok (.getfield 48, 3) := by decide +kernel
theorem dX9_writeOut_11 : decode cX9_writeOut 11 = .ok (.iload_n 1, 1) := by decide +kernel
theorem dX9_writeOut_12 : decode cX9_writeOut 12 = .ok (.iaload, 1) := by decide +kernel
theorem dX9_writeOut_13 : decode cX9_writeOut 13 = .ok (.invokevirtual 197, 3) := by decide +kernel
theorem dX9_writeOut_16 : decode cX9_writeOut 16 = .ok (.aload_n 0, 1) := by decide +kernel
theorem dX9_writeOut_17 : decode cX9_writeOut 17 = .ok (.aload_n 0, 1) := by decide +kernel
theorem dX9_writeOut_18 : decode cX9_writeOut 18 = .ok (.getfield 51, 3) := by decide +kernel
theorem dX9_writeOut_21 : decode cX9_writeOut 21 = .ok (.iload_n 1, 1) := by decide +kernel
theorem dX9_writeOut_22 : decode cX9_writeOut 22 = .ok (.iaload, 1) := by decide +kernel
theorem dX9_writeOut_23 : decode cX9_writeOut 23 = .ok (.invokevirtual 197, 3) := by decide +kernel
theorem dX9_writeOut_26 : decode cX9_writeOut 26 = .ok (.aload_n 0, 1) := by decide +kernel
theorem dX9_writeOut_27 : decode cX9_writeOut 27 = .ok (.aload_n 0, 1) := by decide +kernel
theorem dX9_writeOut_28 : decode cX9_writeOut 28 = .ok (.getfield 54, 3) := by decide +kernel
theorem dX9_writeOut_31 : decode cX9_writeOut 31 = .ok (.iload_n 1, 1) := by decide +kernel
theorem dX9_writeOut_32 : decode cX9_writeOut 32 = .ok (.iaload, 1) := by decide +kernel
theorem dX9_writeOut_33 : decode cX9_writeOut 33 = .ok (.invokevirtual 197, 3) := by decide +kernel
theorem dX9_writeOut_36 : decode cX9_writeOut 36 = .ok (.iconst 0, 1) := by decide +kernel
theorem dX9_writeOut_37 : decode cX9_writeOut 37 = .ok (.istore_n 2, 1) := by decide +kernel
theorem dX9_writeOut_38 : decode cX9_writeOut 38 = .ok (.iload_n 2, 1) := by decide +kernel
theorem dX9_writeOut_39 : decode cX9_writeOut 39 = .ok (.aload_n 0, 1) := by decide +kernel
theorem dX9_writeOut_40 : decode cX9_writeOut 40 = .ok (.getfield 45, 3) := by decide +kernel
theorem dX9_writeOut_43 : decode cX9_writeOut 43 = .ok (.iload_n 1, 1) := by decide +kernel
theorem dX9_writeOut_44 : decode cX9_writeOut 44 = .ok (.iaload, 1) := by decide +kernel
theorem dX9_writeOut_45 : decode cX9_writeOut 45 = .ok (.if_icmp .ge 25, 3) := by decide +kernel
theorem dX9_writeOut_48 : decode cX9_writeOut 48 = .ok (.aload_n 0, 1) := by decide +kernel
theorem dX9_writeOut_49 : decode cX9_writeOut 49 = .ok (.aload_n 0, 1) := by decide +kernel
theorem dX9_writeOut_50 : decode cX9_writeOut 50 = .ok (.getfield 42, 3) := by decide +kernel
theorem dX9_writeOut_53 : decode cX9_writeOut 53 = .ok (.sipush 600, 3) := by decide +kernel
theorem dX9_writeOut_56 : decode cX9_writeOut 56 = .ok (.iload_n 1, 1) := by decide +kernel
theorem dX9_writeOut_57 : decode cX9_writeOut 57 = .ok (.imul, 1) := by decide +kernel
theorem dX9_writeOut_58 : decode cX9_writeOut 58 = .ok (.iload_n 2, 1) := by decide +kernel
theorem dX9_writeOut_59 : decode cX9_writeOut 59 = .ok (.iadd, 1) := by decide +kernel
theorem dX9_writeOut_60 : decode cX9_writeOut 60 = .ok (.iaload, 1) := by decide +kernel
theorem dX9_writeOut_61 : decode cX9_writeOut 61 = .ok (.invokevirtual 194, 3) := by decide +kernel
theorem dX9_writeOut_64 : decode cX9_writeOut 64 = .ok (.iinc 2 1, 3) := by decide +kernel
theorem dX9_writeOut_67 : decode cX9_writeOut 67 = .ok (.goto (-29), 3) := by decide +kernel
theorem dX9_writeOut_70 : decode cX9_writeOut 70 = .ok (.aload_n 0, 1) := by decide +kernel
theorem dX9_writeOut_71 : decode cX9_writeOut 71 = .ok (.iconst 0, 1) := by decide +kernel
theorem dX9_writeOut_72 : decode cX9_writeOut 72 = .ok (.invokevirtual 194, 3) := by decide +kernel
theorem dX9_writeOut_75 : decode cX9_writeOut 75 = .ok (.iconst 0, 1) := by decide +kernel
theorem dX9_writeOut_76 : decode cX9_writeOut 76 = .ok (.istore_n 2, 1) := by decide +kernel
theorem dX9_writeOut_77 : decode cX9_writeOut 77 = .ok (.iconst 0, 1) := by decide +kernel
theorem dX9_writeOut_78 : decode cX9_writeOut 78 = .ok (.istore_n 3, 1) := by decide +kernel
theorem dX9_writeOut_79 : decode cX9_writeOut 79 = .ok (.iload_n 3, 1) := by decide +kernel
theorem dX9_writeOut_80 : decode cX9_writeOut 80 = .ok (.bipush 24, 2) := by decide +kernel
theorem dX9_writeOut_82 : decode cX9_writeOut 82 = .ok (.if_icmp .ge 22, 3) := by decide +kernel
theorem dX9_writeOut_85 : decode cX9_writeOut 85 = .ok (.iload_n 2, 1) := by decide +kernel
theorem dX9_writeOut_86 : decode cX9_writeOut 86 = .ok (.aload_n 0, 1) := by decide +kernel
theorem dX9_writeOut_87 : decode cX9_writeOut 87 = .ok (.getfield 57, 3) := by decide +kernel
theorem dX9_writeOut_90 : decode cX9_writeOut 90 = .ok (.iload_n 1, 1) := by decide +kernel
theorem dX9_writeOut_91 : decode cX9_writeOut 91 = .ok (.iaload, 1) := by decide +kernel
theorem dX9_writeOut_92 : decode cX9_writeOut 92 = .ok (.iload_n 3, 1) := by decide +kernel
theorem dX9_writeOut_93 : decode cX9_writeOut 93 = .ok (.ishr, 1) := by decide +kernel
theorem dX9_writeOut_94 : decode cX9_writeOut 94 = .ok (.iconst 1, 1) := by decide +kernel
theorem dX9_writeOut_95 : decode cX9_writeOut 95 = .ok (.iand, 1) := by decide +kernel
theorem dX9_writeOut_96 : decode cX9_writeOut 96 = .ok (.iadd, 1) := by decide +kernel
theorem dX9_writeOut_97 : decode cX9_writeOut 97 = .ok (.istore_n 2, 1) := by decide +kernel
theorem dX9_writeOut_98 : decode cX9_writeOut 98 = .ok (.iinc 3 1, 3) := by decide +kernel
theorem dX9_writeOut_101 : decode cX9_writeOut 101 = .ok (.goto (-22), 3) := by decide +kernel
theorem dX9_writeOut_104 : decode cX9_writeOut 104 = .ok (.aload_n 0, 1) := by decide +kernel
theorem dX9_writeOut_105 : decode cX9_writeOut 105 = .ok (.iload_n 2, 1) := by decide +kernel
theorem dX9_writeOut_106 : decode cX9_writeOut 106 = .ok (.invokevirtual 197, 3) := by decide +kernel
theorem dX9_writeOut_109 : decode cX9_writeOut 109 = .ok (.iconst 0, 1) := by decide +kernel
theorem dX9_writeOut_110 : decode cX9_writeOut 110 = .ok (.istore_n 3, 1) := by decide +kernel
theorem dX9_writeOut_111 : decode cX9_writeOut 111 = .ok (.iload_n 3, 1) := by decide +kernel
theorem dX9_writeOut_112 : decode cX9_writeOut 112 = .ok (.bipush 24, 2) := by decide +kernel
theorem dX9_writeOut_114 : decode cX9_writeOut 114 = .ok (.if_icmp .ge 74, 3) := by decide +kernel
theorem dX9_writeOut_117 : decode cX9_writeOut 117 = .ok (.aload_n 0, 1) := by decide +kernel
theorem dX9_writeOut_118 : decode cX9_writeOut 118 = .ok (.getfield 57, 3) := by decide +kernel
theorem dX9_writeOut_121 : decode cX9_writeOut 121 = .ok (.iload_n 1, 1) := by decide +kernel
theorem dX9_writeOut_122 : decode cX9_writeOut 122 = .ok (.iaload, 1) := by decide +kernel
theorem dX9_writeOut_123 : decode cX9_writeOut 123 = .ok (.iload_n 3, 1) := by decide +kernel
theorem dX9_writeOut_124 : decode cX9_writeOut 124 = .ok (.ishr, 1) := by decide +kernel
theorem dX9_writeOut_125 : decode cX9_writeOut 125 = .ok (.iconst 1, 1) := by decide +kernel
theorem dX9_writeOut_126 : decode cX9_writeOut 126 = .ok (.iand, 1) := by decide +kernel
theorem dX9_writeOut_127 : decode cX9_writeOut 127 = .ok (.iconst 1, 1) := by decide +kernel
theorem dX9_writeOut_128 : decode cX9_writeOut 128 = .ok (.if_icmp .ne 54, 3) := by decide +kernel
theorem dX9_writeOut_131 : decode cX9_writeOut 131 = .ok (.aload_n 0, 1) := by decide +kernel
theorem dX9_writeOut_132 : decode cX9_writeOut 132 = .ok (.iload_n 3, 1) := by decide +kernel
theorem dX9_writeOut_133 : decode cX9_writeOut 133 = .ok (.invokevirtual 197, 3) := by decide +kernel
theorem dX9_writeOut_136 : decode cX9_writeOut 136 = .ok (.aload_n 0, 1) := by decide +kernel
theorem dX9_writeOut_137 : decode cX9_writeOut 137 = .ok (.aload_n 0, 1) := by decide +kernel
theorem dX9_writeOut_138 : decode cX9_writeOut 138 = .ok (.getfield 24, 3) := by decide +kernel
theorem dX9_writeOut_141 : decode cX9_writeOut 141 = .ok (.iload_n 3, 1) := by decide +kernel
theorem dX9_writeOut_142 : decode cX9_writeOut 142 = .ok (.iaload, 1) := by decide +kernel
theorem dX9_writeOut_143 : decode cX9_writeOut 143 = .ok (.invokevirtual 197, 3) := by decide +kernel
theorem dX9_writeOut_146 : decode cX9_writeOut 146 = .ok (.iconst 0, 1) := by decide +kernel
theorem dX9_writeOut_147 : decode cX9_writeOut 147 = .ok (.istore 4, 2) := by decide +kernel
theorem dX9_writeOut_149 : decode cX9_writeOut 149 = .ok (.iload 4, 2) := by decide +kernel
theorem dX9_writeOut_151 : decode cX9_writeOut 151 = .ok (.aload_n 0, 1) := by decide +kernel
theorem dX9_writeOut_152 : decode cX9_writeOut 152 = .ok (.getfield 24, 3) := by decide +kernel
theorem dX9_writeOut_155 : decode cX9_writeOut 155 = .ok (.iload_n 3, 1) := by decide +kernel
theorem dX9_writeOut_156 : decode cX9_writeOut 156 = .ok (.iaload, 1) := by decide +kernel
theorem dX9_writeOut_157 : decode cX9_writeOut 157 = .ok (.if_icmp .ge 25, 3) := by decide +kernel
theorem dX9_writeOut_160 : decode cX9_writeOut 160 = .ok (.aload_n 0, 1) := by decide +kernel
theorem dX9_writeOut_161 : decode cX9_writeOut 161 = .ok (.aload_n 0, 1) := by decide +kernel
theorem dX9_writeOut_162 : decode cX9_writeOut 162 = .ok (.getfield 21, 3) := by decide +kernel
theorem dX9_writeOut_165 : decode cX9_writeOut 165 = .ok (.bipush 8, 2) := by decide +kernel
theorem dX9_writeOut_167 : decode cX9_writeOut 167 = .ok (.iload_n 3, 1) := by decide +kernel
theorem dX9_writeOut_168 : decode cX9_writeOut 168 = .ok (.imul, 1) := by decide +kernel
theorem dX9_writeOut_169 : decode cX9_writeOut 169 = .ok (.iload 4, 2) := by decide +kernel
theorem dX9_writeOut_171 : decode cX9_writeOut 171 = .ok (.iadd, 1) := by decide +kernel
theorem dX9_writeOut_172 : decode cX9_writeOut 172 = .ok (.caload, 1) := by decide +kernel
theorem dX9_writeOut_173 : decode cX9_writeOut 173 = .ok (.invokevirtual 194, 3) := by decide +kernel
theorem dX9_writeOut_176 : decode cX9_writeOut 176 = .ok (.iinc 4 1, 3) := by decide +kernel
theorem dX9_writeOut_179 : decode cX9_writeOut 179 = .ok (.goto (-30), 3) := by decide +kernel
theorem dX9_writeOut_182 : decode cX9_writeOut 182 = .ok (.iinc 3 1, 3) := by decide +kernel
theorem dX9_writeOut_185 : decode cX9_writeOut 185 = .ok (.goto (-74), 3) := by decide +kernel
theorem dX9_writeOut_188 : decode cX9_writeOut 188 = .ok (.return_, 1) := by decide +kernel
theorem dX9_dump_0 : decode cX9_dump 0 = .ok (.aload_n 0, 1) := by decide +kernel
theorem dX9_dump_1 : decode cX9_dump 1 = .ok (.aload_n 0, 1) := by decide +kernel
theorem dX9_dump_2 : decode cX9_dump 2 = .ok (.iload_n 1, 1) := by decide +kernel
theorem dX9_dump_3 : decode cX9_dump 3 = .ok (.invokevirtual 181, 3) := by decide +kernel
theorem dX9_dump_6 : decode cX9_dump 6 = .ok (.ifCond .ne 7, 3) := by decide +kernel
theorem dX9_dump_9 : decode cX9_dump 9 = .ok (.iconst 1, 1) := by decide +kernel
theorem dX9_dump_10 : decode cX9_dump 10 = .ok (.goto 27, 3) := by decide +kernel
theorem dX9_dump_13 : decode cX9_dump 13 = .ok (.aload_n 0, 1) := by decide +kernel
theorem dX9_dump_14 : decode cX9_dump 14 = .ok (.getfield 66, 3) := by decide +kernel
theorem dX9_dump_17 : decode cX9_dump 17 = .ok (.iload_n 1, 1) := by decide +kernel
theorem dX9_dump_18 : decode cX9_dump 18 = .ok (.iaload, 1) := by decide +kernel
theorem dX9_dump_19 : decode cX9_dump 19 = .ok (.ifCond .eq 13, 3) := by decide +kernel
theorem dX9_dump_22 : decode cX9_dump 22 = .ok (.aload_n 0, 1) := by decide +kernel
theorem dX9_dump_23 : decode cX9_dump 23 = .ok (.getfield 66, 3) := by decide +kernel
theorem dX9_dump_26 : decode cX9_dump 26 = .ok (.iload_n 1, 1) := by decide +kernel
theorem dX9_dump_27 : decode cX9_dump 27 = .ok (.iaload, 1) := by decide +kernel
theorem dX9_dump_28 : decode cX9_dump 28 = .ok (.iconst 3, 1) := by decide +kernel
theorem dX9_dump_29 : decode cX9_dump 29 = .ok (.if_icmp .ne 7, 3) := by decide +kernel
theorem dX9_dump_32 : decode cX9_dump 32 = .ok (.iconst 2, 1) := by decide +kernel
theorem dX9_dump_33 : decode cX9_dump 33 = .ok (.goto 4, 3) := by decide +kernel
theorem dX9_dump_36 : decode cX9_dump 36 = .ok (.iconst 0, 1) := by decide +kernel
theorem dX9_dump_37 : decode cX9_dump 37 = .ok (.putfield 97, 3) := by decide +kernel
theorem dX9_dump_40 : decode cX9_dump 40 = .ok (.aload_n 0, 1) := by decide +kernel
theorem dX9_dump_41 : decode cX9_dump 41 = .ok (.getfield 97, 3) := by decide +kernel
theorem dX9_dump_44 : decode cX9_dump 44 = .ok (.ifCond .le 5, 3) := by decide +kernel
theorem dX9_dump_47 : decode cX9_dump 47 = .ok (.iconst 0, 1) := by decide +kernel
theorem dX9_dump_48 : decode cX9_dump 48 = .ok (.ireturn, 1) := by decide +kernel
theorem dX9_dump_49 : decode cX9_dump 49 = .ok (.aload_n 0, 1) := by decide +kernel
theorem dX9_dump_50 : decode cX9_dump 50 = .ok (.getfield 66, 3) := by decide +kernel
theorem dX9_dump_53 : decode cX9_dump 53 = .ok (.iload_n 1, 1) := by decide +kernel
theorem dX9_dump_54 : decode cX9_dump 54 = .ok (.iaload, 1) := by decide +kernel
theorem dX9_dump_55 : decode cX9_dump 55 = .ok (.iconst 1, 1) := by decide +kernel
theorem dX9_dump_56 : decode cX9_dump 56 = .ok (.if_icmp .ne 7, 3) := by decide +kernel
theorem dX9_dump_59 : decode cX9_dump 59 = .ok (.aload_n 0, 1) := by decide +kernel
theorem dX9_dump_60 : decode cX9_dump 60 = .ok (.invokevirtual 168, 3) := by decide +kernel
theorem dX9_dump_63 : decode cX9_dump 63 = .ok (.aload_n 0, 1) := by decide +kernel
theorem dX9_dump_64 : decode cX9_dump 64 = .ok (.iconst 0, 1) := by decide +kernel
theorem dX9_dump_65 : decode cX9_dump 65 = .ok (.putfield 191, 3) := by decide +kernel
theorem dX9_dump_68 : decode cX9_dump 68 = .ok (.iconst 0, 1) := by decide +kernel
theorem dX9_dump_69 : decode cX9_dump 69 = .ok (.istore_n 2, 1) := by decide +kernel
theorem dX9_dump_70 : decode cX9_dump 70 = .ok (.iload_n 2, 1) := by decide +kernel
theorem dX9_dump_71 : decode cX9_dump 71 = .ok (.aload_n 0, 1) := by decide +kernel
theorem dX9_dump_72 : decode cX9_dump 72 = .ok (.getfield 159, 3) := by decide +kernel
theorem dX9_dump_75 : decode cX9_dump 75 = .ok (.if_icmp .ge 54, 3) := by decide +kernel
theorem dX9_dump_78 : decode cX9_dump 78 = .ok (.aload_n 0, 1) := by decide +kernel
theorem dX9_dump_79 : decode cX9_dump 79 = .ok (.getfield 48, 3) := by decide +kernel
theorem dX9_dump_82 : decode cX9_dump 82 = .ok (.iload_n 2, 1) := by decide +kernel
theorem dX9_dump_83 : decode cX9_dump 83 = .ok (.iaload, 1) := by decide +kernel
theorem dX9_dump_84 : decode cX9_dump 84 = .ok (.aload_n 0, 1) := by decide +kernel
theorem dX9_dump_85 : decode cX9_dump 85 = .ok (.getfield 75, 3) := by decide +kernel
theorem dX9_dump_88 : decode cX9_dump 88 = .ok (.iload_n 1, 1) := by decide +kernel
theorem dX9_dump_89 : decode cX9_dump 89 = .ok (.iaload, 1) := by decide +kernel
theorem dX9_dump_90 : decode cX9_dump 90 = .ok (.if_icmp .lt 33, 3) := by decide +kernel
theorem dX9_dump_93 : decode cX9_dump 93 = .ok (.aload_n 0, 1) := by decide +kernel
theorem dX9_dump_94 : decode cX9_dump 94 = .ok (.getfield 66, 3) := by decide +kernel
theorem dX9_dump_97 : decode cX9_dump 97 = .ok (.iload_n 1, 1) := by decide +kernel
theorem dX9_dump_98 : decode cX9_dump 98 = .ok (.iaload, 1) := by decide +kernel
theorem dX9_dump_99 : decode cX9_dump 99 = .ok (.iconst 1, 1) := by decide +kernel
theorem dX9_dump_100 : decode cX9_dump 100 = .ok (.if_icmp .eq 18, 3) := by decide +kernel
theorem dX9_dump_103 : decode cX9_dump 103 = .ok (.aload_n 0, 1) := by decide +kernel
theorem dX9_dump_104 : decode cX9_dump 104 = .ok (.getfield 48, 3) := by decide +kernel
theorem dX9_dump_107 : decode cX9_dump 107 = .ok (.iload_n 2, 1) := by decide +kernel
theorem dX9_dump_108 : decode cX9_dump 108 = .ok (.iaload, 1) := by decide +kernel
theorem dX9_dump_109 : decode cX9_dump 109 = .ok (.aload_n 0, 1) := by decide +kernel
theorem dX9_dump_110 : decode cX9_dump 110 = .ok (.getfield 78, 3) := by decide +kernel
theorem dX9_dump_113 : decode cX9_dump 113 = .ok (.iload_n 1, 1) := by decide +kernel
theorem dX9_dump_114 : decode cX9_dump 114 = .ok (.iaload, 1) := by decide +kernel
theorem dX9_dump_115 : decode cX9_dump 115 = .ok (.if_icmp .gt 8, 3) := by decide +kernel
theorem dX9_dump_118 : decode cX9_dump 118 = .ok (.aload_n 0, 1) := by decide +kernel
theorem dX9_dump_119 : decode cX9_dump 119 = .ok (.iload_n 2, 1) := by decide +kernel
theorem dX9_dump_120 : decode cX9_dump 120 = .ok (.invokevirtual 200, 3) := by decide +kernel
theorem dX9_dump_123 : decode cX9_dump 123 = .ok (.iinc 2 1, 3) := by decide +kernel
theorem dX9_dump_126 : decode cX9_dump 126 = .ok (.goto (-56), 3) := by decide +kernel
theorem dX9_dump_129 : decode cX9_dump 129 = .ok (.aload_n 0, 1) := by decide +kernel
theorem dX9_dump_130 : decode cX9_dump 130 = .ok (.getfield 191, 3) := by decide +kernel
theorem dX9_dump_133 : decode cX9_dump 133 = .ok (.ireturn, 1) := by decide +kernel
theorem dX9_output_0 : decode cX9_output 0 = .ok (.aload_n 0, 1) := by decide +kernel
theorem dX9_output_1 : decode cX9_output 1 = .ok (.iconst 0, 1) := by decide +kernel
theorem dX9_output_2 : decode cX9_output 2 = .ok (.putfield 97, 3) := by decide +kernel
theorem dX9_output_5 : decode cX9_output 5 = .ok (.iload_n 1, 1) := by decide +kernel
theorem dX9_output_6 : decode cX9_output 6 = .ok (.ifCond .lt 20, 3) := by decide +kernel
theorem dX9_output_9 : decode cX9_output 9 = .ok (.iload_n 1, 1) := by decide +kernel
theorem dX9_output_10 : decode cX9_output 10 = .ok (.aload_n 0, 1) := by decide +kernel
theorem dX9_output_11 : decode cX9_output 11 = .ok (.getfield 191, 3) := by decide +kernel
theorem dX9_output_14 : decode cX9_output 14 = .ok (.if_icmp .ge 12, 3) := by decide +kernel
theorem dX9_output_17 : decode cX9_output 17 = .ok (.aload_n 0, 1) := by decide +kernel
theorem dX9_output_18 : decode cX9_output 18 = .ok (.getfield 81, 3) := by decide +kernel
theorem dX9_output_21 : decode cX9_output 21 = .ok (.iload_n 1, 1) := by decide +kernel
theorem dX9_output_22 : decode cX9_output 22 = .ok (.iaload, 1) := by decide +kernel
theorem dX9_output_23 : decode cX9_output 23 = .ok (.goto 4, 3) := by decide +kernel
theorem dX9_output_26 : decode cX9_output 26 = .ok (.iconst (-1), 1) := by decide +kernel
theorem dX9_output_27 : decode cX9_output 27 = .ok (.ireturn, 1) := by decide +kernel
theorem dX9_state_0 : decode cX9_state 0 = .ok (.aload_n 0, 1) := by decide +kernel
theorem dX9_state_1 : decode cX9_state 1 = .ok (.iconst 0, 1) := by decide +kernel
theorem dX9_state_2 : decode cX9_state 2 = .ok (.putfield 97, 3) := by decide +kernel
theorem dX9_state_5 : decode cX9_state 5 = .ok (.aload_n 0, 1) := by decide +kernel
theorem dX9_state_6 : decode cX9_state 6 = .ok (.iload_n 1, 1) := by decide +kernel
theorem dX9_state_7 : decode cX9_state 7 = .ok (.invokevirtual 181, 3) := by decide +kernel
theorem dX9_state_10 : decode cX9_state 10 = .ok (.ifCond .eq 12, 3) := by decide +kernel
theorem dX9_state_13 : decode cX9_state 13 = .ok (.aload_n 0, 1) := by decide +kernel
theorem dX9_state_14 : decode cX9_state 14 = .ok (.getfield 66, 3) := by decide +kernel
theorem dX9_state_17 : decode cX9_state 17 = .ok (.iload_n 1, 1) := by decide +kernel
theorem dX9_state_18 : decode cX9_state 18 = .ok (.iaload, 1) := by decide +kernel
theorem dX9_state_19 : decode cX9_state 19 = .ok (.goto 4, 3) := by decide +kernel
theorem dX9_state_22 : decode cX9_state 22 = .ok (.iconst (-1), 1) := by decide +kernel
theorem dX9_state_23 : decode cX9_state 23 = .ok (.ireturn, 1) := by decide +kernel
theorem dX9_threshold_0 : decode cX9_threshold 0 = .ok (.aload_n 0, 1) := by decide +kernel
theorem dX9_threshold_1 : decode cX9_threshold 1 = .ok (.iconst 0, 1) := by decide +kernel
theorem dX9_threshold_2 : decode cX9_threshold 2 = .ok (.putfield 97, 3) := by decide +kernel
theorem dX9_threshold_5 : decode cX9_threshold 5 = .ok (.aload_n 0, 1) := by decide +kernel
theorem dX9_threshold_6 : decode cX9_threshold 6 = .ok (.iload_n 1, 1) := by decide +kernel
theorem dX9_threshold_7 : decode cX9_threshold 7 = .ok (.invokevirtual 181, 3) := by decide +kernel
theorem dX9_threshold_10 : decode cX9_threshold 10 = .ok (.ifCond .eq 43, 3) := by decide +kernel
theorem dX9_threshold_13 : decode cX9_threshold 13 = .ok (.iload_n 2, 1) := by decide +kernel
theorem dX9_threshold_14 : decode cX9_threshold 14 = .ok (.ifCond .lt 39, 3) := by decide +kernel
theorem dX9_threshold_17 : decode cX9_threshold 17 = .ok (.iload_n 2, 1) := by decide +kernel
theorem dX9_threshold_18 : decode cX9_threshold 18 = .ok (.aload_n 0, 1) := by decide +kernel
theorem dX9_threshold_19 : decode cX9_threshold 19 = .ok (.getfield 109, 3) := by decide +kernel
theorem dX9_threshold_22 : decode cX9_threshold 22 = .ok (.if_icmp .ge 31, 3) := by decide +kernel
theorem dX9_threshold_25 : decode cX9_threshold 25 = .ok (.aload_n 0, 1) := by decide +kernel
theorem dX9_threshold_26 : decode cX9_threshold 26 = .ok (.getfield 69, 3) := by decide +kernel
theorem dX9_threshold_29 : decode cX9_threshold 29 = .ok (.bipush 6, 2) := by decide +kernel
theorem dX9_threshold_31 : decode cX9_threshold 31 = .ok (.iload_n 1, 1) := by decide +kernel
theorem dX9_threshold_32 : decode cX9_threshold 32 = .ok (.imul, 1) := by decide +kernel
theorem dX9_threshold_33 : decode cX9_threshold 33 = .ok (.iload_n 2, 1) := by decide +kernel
theorem dX9_threshold_34 : decode cX9_threshold 34 = .ok (.iadd, 1) := by decide +kernel
theorem dX9_threshold_35 : decode cX9_threshold 35 = .ok (.baload, 1) := by decide +kernel
theorem dX9_threshold_36 : decode cX9_threshold 36 = .ok (.ifCond .ne 17, 3) := by decide +kernel
theorem dX9_threshold_39 : decode cX9_threshold 39 = .ok (.aload_n 0, 1) := by decide +kernel
theorem dX9_threshold_40 : decode cX9_threshold 40 = .ok (.getfield 72, 3) := by decide +kernel
theorem dX9_threshold_43 : decode cX9_threshold 43 = .ok (.bipush 6, 2) := by decide +kernel
theorem dX9_threshold_45 : decode cX9_threshold 45 = .ok (.iload_n 1, 1) := by decide +kernel
theorem dX9_threshold_46 : decode cX9_threshold 46 = .ok (.imul, 1) := by decide +kernel
theorem dX9_threshold_47 : decode cX9_threshold 47 = .ok (.iload_n 2, 1) := by decide +kernel
theorem dX9_threshold_48 : decode cX9_threshold 48 = .ok (.iadd, 1) := by decide +kernel
theorem dX9_threshold_49 : decode cX9_threshold 49 = .ok (.iaload, 1) := by decide +kernel
theorem dX9_threshold_50 : decode cX9_threshold 50 = .ok (.goto 4, 3) := by decide +kernel
theorem dX9_threshold_53 : decode cX9_threshold 53 = .ok (.iconst (-1), 1) := by decide +kernel
theorem dX9_threshold_54 : decode cX9_threshold 54 = .ok (.ireturn, 1) := by decide +kernel
theorem dX9_buffered_0 : decode cX9_buffered 0 = .ok (.aload_n 0, 1) := by decide +kernel
theorem dX9_buffered_1 : decode cX9_buffered 1 = .ok (.iconst 0, 1) := by decide +kernel
theorem dX9_buffered_2 : decode cX9_buffered 2 = .ok (.putfield 97, 3) := by decide +kernel
theorem dX9_buffered_5 : decode cX9_buffered 5 = .ok (.iload_n 1, 1) := by decide +kernel
theorem dX9_buffered_6 : decode cX9_buffered 6 = .ok (.invokestatic 112, 3) := by decide +kernel
theorem dX9_buffered_9 : decode cX9_buffered 9 = .ok (.ifCond .eq 12, 3) := by decide +kernel
theorem dX9_buffered_12 : decode cX9_buffered 12 = .ok (.aload_n 0, 1) := by decide +kernel
theorem dX9_buffered_13 : decode cX9_buffered 13 = .ok (.getfield 36, 3) := by decide +kernel
theorem dX9_buffered_16 : decode cX9_buffered 16 = .ok (.iload_n 1, 1) := by decide +kernel
theorem dX9_buffered_17 : decode cX9_buffered 17 = .ok (.iaload, 1) := by decide +kernel
theorem dX9_buffered_18 : decode cX9_buffered 18 = .ok (.goto 4, 3) := by decide +kernel
theorem dX9_buffered_21 : decode cX9_buffered 21 = .ok (.iconst (-1), 1) := by decide +kernel
theorem dX9_buffered_22 : decode cX9_buffered 22 = .ok (.ireturn, 1) := by decide +kernel
theorem dX9_count_0 : decode cX9_count 0 = .ok (.aload_n 0, 1) := by decide +kernel
theorem dX9_count_1 : decode cX9_count 1 = .ok (.iconst 0, 1) := by decide +kernel
theorem dX9_count_2 : decode cX9_count 2 = .ok (.putfield 97, 3) := by decide +kernel
theorem dX9_count_5 : decode cX9_count 5 = .ok (.iload_n 1, 1) := by decide +kernel
theorem dX9_count_6 : decode cX9_count 6 = .ok (.iconst 3, 1) := by decide +kernel
theorem dX9_count_7 : decode cX9_count 7 = .ok (.if_icmp .ge 46, 3) := by decide +kernel
theorem dX9_count_10 : decode cX9_count 10 = .ok (.iload_n 1, 1) := by decide +kernel
theorem dX9_count_11 : decode cX9_count 11 = .ok (.ifCond .ne 10, 3) := by decide +kernel
theorem dX9_count_14 : decode cX9_count 14 = .ok (.aload_n 0, 1) := by decide +kernel
theorem dX9_count_15 : decode cX9_count 15 = .ok (.getfield 136, 3) := by decide +kernel
theorem dX9_count_18 : decode cX9_count 18 = .ok (.goto 34, 3) := by decide +kernel
theorem dX9_count_21 : decode cX9_count 21 = .ok (.iload_n 1, 1) := by decide +kernel
theorem dX9_count_22 : decode cX9_count 22 = .ok (.iconst 1, 1) := by decide +kernel
theorem dX9_count_23 : decode cX9_count 23 = .ok (.if_icmp .ne 13, 3) := by decide +kernel
theorem dX9_count_26 : decode cX9_count 26 = .ok (.aload_n 0, 1) := by decide +kernel
theorem dX9_count_27 : decode cX9_count 27 = .ok (.getfield 48, 3) := by decide +kernel
theorem dX9_count_30 : decode cX9_count 30 = .ok (.bipush 6, 2) := by decide +kernel
theorem dX9_count_32 : decode cX9_count 32 = .ok (.iaload, 1) := by decide +kernel
theorem dX9_count_33 : decode cX9_count 33 = .ok (.goto 19, 3) := by decide +kernel
theorem dX9_count_36 : decode cX9_count 36 = .ok (.iload_n 1, 1) := by decide +kernel
theorem dX9_count_37 : decode cX9_count 37 = .ok (.iconst 2, 1) := by decide +kernel
theorem dX9_count_38 : decode cX9_count 38 = .ok (.if_icmp .ne 13, 3) := by decide +kernel
theorem dX9_count_41 : decode cX9_count 41 = .ok (.aload_n 0, 1) := by decide +kernel
theorem dX9_count_42 : decode cX9_count 42 = .ok (.getfield 45, 3) := by decide +kernel
theorem dX9_count_45 : decode cX9_count 45 = .ok (.bipush 6, 2) := by decide +kernel
theorem dX9_count_47 : decode cX9_count 47 = .ok (.iaload, 1) := by decide +kernel
theorem dX9_count_48 : decode cX9_count 48 = .ok (.goto 4, 3) := by decide +kernel
theorem dX9_count_51 : decode cX9_count 51 = .ok (.iconst (-1), 1) := by decide +kernel
theorem dX9_count_52 : decode cX9_count 52 = .ok (.ireturn, 1) := by decide +kernel
theorem dX9_count_53 : decode cX9_count 53 = .ok (.iload_n 1, 1) := by decide +kernel
theorem dX9_count_54 : decode cX9_count 54 = .ok (.iconst 3, 1) := by decide +kernel
theorem dX9_count_55 : decode cX9_count 55 = .ok (.if_icmp .ne 10, 3) := by decide +kernel
theorem dX9_count_58 : decode cX9_count 58 = .ok (.aload_n 0, 1) := by decide +kernel
theorem dX9_count_59 : decode cX9_count 59 = .ok (.getfield 159, 3) := by decide +kernel
theorem dX9_count_62 : decode cX9_count 62 = .ok (.goto 28, 3) := by decide +kernel
theorem dX9_count_65 : decode cX9_count 65 = .ok (.iload_n 1, 1) := by decide +kernel
theorem dX9_count_66 : decode cX9_count 66 = .ok (.iconst 4, 1) := by decide +kernel
theorem dX9_count_67 : decode cX9_count 67 = .ok (.if_icmp .ne 10, 3) := by decide +kernel
theorem dX9_count_70 : decode cX9_count 70 = .ok (.aload_n 0, 1) := by decide +kernel
theorem dX9_count_71 : decode cX9_count 71 = .ok (.getfield 165, 3) := by decide +kernel
theorem dX9_count_74 : decode cX9_count 74 = .ok (.goto 16, 3) := by decide +kernel
theorem dX9_count_77 : decode cX9_count 77 = .ok (.iload_n 1, 1) := by decide +kernel
theorem dX9_count_78 : decode cX9_count 78 = .ok (.iconst 5, 1) := by decide +kernel
theorem dX9_count_79 : decode cX9_count 79 = .ok (.if_icmp .ne 10, 3) := by decide +kernel
theorem dX9_count_82 : decode cX9_count 82 = .ok (.aload_n 0, 1) := by decide +kernel
theorem dX9_count_83 : decode cX9_count 83 = .ok (.getfield 119, 3) := by decide +kernel
theorem dX9_count_86 : decode cX9_count 86 = .ok (.goto 4, 3) := by decide +kernel
theorem dX9_count_89 : decode cX9_count 89 = .ok (.iconst (-1), 1) := by decide +kernel
theorem dX9_count_90 : decode cX9_count 90 = .ok (.ireturn, 1) := by decide +kernel
theorem dX9_lost_0 : decode cX9_lost 0 = .ok (.aload_n 0, 1) := by decide +kernel
theorem dX9_lost_1 : decode cX9_lost 1 = .ok (.iconst 0, 1) := by decide +kernel
theorem dX9_lost_2 : decode cX9_lost 2 = .ok (.putfield 97, 3) := by decide +kernel
theorem dX9_lost_5 : decode cX9_lost 5 = .ok (.iload_n 1, 1) := by decide +kernel
theorem dX9_lost_6 : decode cX9_lost 6 = .ok (.invokestatic 112, 3) := by decide +kernel
theorem dX9_lost_9 : decode cX9_lost 9 = .ok (.ifCond .eq 12, 3) := by decide +kernel
theorem dX9_lost_12 : decode cX9_lost 12 = .ok (.aload_n 0, 1) := by decide +kernel
theorem dX9_lost_13 : decode cX9_lost 13 = .ok (.getfield 63, 3) := by decide +kernel
theorem dX9_lost_16 : decode cX9_lost 16 = .ok (.iload_n 1, 1) := by decide +kernel
theorem dX9_lost_17 : decode cX9_lost 17 = .ok (.iaload, 1) := by decide +kernel
theorem dX9_lost_18 : decode cX9_lost 18 = .ok (.goto 4, 3) := by decide +kernel
theorem dX9_lost_21 : decode cX9_lost 21 = .ok (.iconst (-1), 1) := by decide +kernel
theorem dX9_lost_22 : decode cX9_lost 22 = .ok (.ireturn, 1) := by decide +kernel
theorem dX0_init_0 : decode cX0_init 0 = .ok (.aload_n 0, 1) := by decide +kernel
theorem dX0_init_1 : decode cX0_init 1 = .ok (.invokespecial 3, 3) := by decide +kernel
theorem dX0_init_4 : decode cX0_init 4 = .ok (.aload_n 0, 1) := by decide +kernel
theorem dX0_init_5 : decode cX0_init 5 = .ok (.iload_n 1, 1) := by decide +kernel
theorem dX0_init_6 : decode cX0_init 6 = .ok (.newarray .byte, 2) := by decide +kernel
theorem dX0_init_8 : decode cX0_init 8 = .ok (.putfield 9, 3) := by decide +kernel
theorem dX0_init_11 : decode cX0_init 11 = .ok (.return_, 1) := by decide +kernel
theorem dX0_length_0 : decode cX0_length 0 = .ok (.aload_n 0, 1) := by decide +kernel
theorem dX0_length_1 : decode cX0_length 1 = .ok (.getfield 15, 3) := by decide +kernel
theorem dX0_length_4 : decode cX0_length 4 = .ok (.ireturn, 1) := by decide +kernel
theorem dX0_room_0 : decode cX0_room 0 = .ok (.aload_n 0, 1) := by decide +kernel
theorem dX0_room_1 : decode cX0_room 1 = .ok (.getfield 9, 3) := by decide +kernel
theorem dX0_room_4 : decode cX0_room 4 = .ok (.arraylength, 1) := by decide +kernel
theorem dX0_room_5 : decode cX0_room 5 = .ok (.aload_n 0, 1) := by decide +kernel
theorem dX0_room_6 : decode cX0_room 6 = .ok (.getfield 15, 3) := by decide +kernel
theorem dX0_room_9 : decode cX0_room 9 = .ok (.isub, 1) := by decide +kernel
theorem dX0_room_10 : decode cX0_room 10 = .ok (.ireturn, 1) := by decide +kernel
theorem dX0_at_0 : decode cX0_at 0 = .ok (.iload_n 1, 1) := by decide +kernel
theorem dX0_at_1 : decode cX0_at 1 = .ok (.ifCond .lt 24, 3) := by decide +kernel
theorem dX0_at_4 : decode cX0_at 4 = .ok (.iload_n 1, 1) := by decide +kernel
theorem dX0_at_5 : decode cX0_at 5 = .ok (.aload_n 0, 1) := by decide +kernel
theorem dX0_at_6 : decode cX0_at 6 = .ok (.getfield 15, 3) := by decide +kernel
theorem dX0_at_9 : decode cX0_at 9 = .ok (.if_icmp .ge 16, 3) := by decide +kernel
theorem dX0_at_12 : decode cX0_at 12 = .ok (.aload_n 0, 1) := by decide +kernel
theorem dX0_at_13 : decode cX0_at 13 = .ok (.getfield 9, 3) := by decide +kernel
theorem dX0_at_16 : decode cX0_at 16 = .ok (.iload_n 1, 1) := by decide +kernel
theorem dX0_at_17 : decode cX0_at 17 = .ok (.baload, 1) := by decide +kernel
theorem dX0_at_18 : decode cX0_at 18 = .ok (.sipush 255, 3) := by decide +kernel
theorem dX0_at_21 : decode cX0_at 21 = .ok (.iand, 1) := by decide +kernel
theorem dX0_at_22 : decode cX0_at 22 = .ok (.goto 4, 3) := by decide +kernel
theorem dX0_at_25 : decode cX0_at 25 = .ok (.iconst (-1), 1) := by decide +kernel
theorem dX0_at_26 : decode cX0_at 26 = .ok (.ireturn, 1) := by decide +kernel
theorem dX0_clear_0 : decode cX0_clear 0 = .ok (.aload_n 0, 1) := by decide +kernel
theorem dX0_clear_1 : decode cX0_clear 1 = .ok (.iconst 0, 1) := by decide +kernel
theorem dX0_clear_2 : decode cX0_clear 2 = .ok (.putfield 15, 3) := by decide +kernel
theorem dX0_clear_5 : decode cX0_clear 5 = .ok (.return_, 1) := by decide +kernel
theorem dX0_add_0 : decode cX0_add 0 = .ok (.aload_n 0, 1) := by decide +kernel
theorem dX0_add_1 : decode cX0_add 1 = .ok (.getfield 15, 3) := by decide +kernel
theorem dX0_add_4 : decode cX0_add 4 = .ok (.aload_n 0, 1) := by decide +kernel
theorem dX0_add_5 : decode cX0_add 5 = .ok (.getfield 9, 3) := by decide +kernel
theorem dX0_add_8 : decode cX0_add 8 = .ok (.arraylength, 1) := by decide +kernel
theorem dX0_add_9 : decode cX0_add 9 = .ok (.if_icmp .ge 24, 3) := by decide +kernel
theorem dX0_add_12 : decode cX0_add 12 = .ok (.aload_n 0, 1) := by decide +kernel
theorem dX0_add_13 : decode cX0_add 13 = .ok (.getfield 9, 3) := by decide +kernel
theorem dX0_add_16 : decode cX0_add 16 = .ok (.aload_n 0, 1) := by decide +kernel
theorem dX0_add_17 : decode cX0_add 17 = .ok (.getfield 15, 3) := by decide +kernel
theorem dX0_add_20 : decode cX0_add 20 = .ok (.iload_n 1, 1) := by decide +kernel
theorem dX0_add_21 : decode cX0_add 21 = .ok (.i2b, 1) := by decide +kernel
theorem dX0_add_22 : decode cX0_add 22 = .ok (.bastore, 1) := by decide +kernel
theorem dX0_add_23 : decode cX0_add 23 = .ok (.aload_n 0, 1) := by decide +kernel
theorem dX0_add_24 : decode cX0_add 24 = .ok (.dup, 1) := by decide +kernel
theorem dX0_add_25 : decode cX0_add 25 = .ok (.getfield 15, 3) := by decide +kernel
theorem dX0_add_28 : decode cX0_add 28 = .ok (.iconst 1, 1) := by decide +kernel
theorem dX0_add_29 : decode cX0_add 29 = .ok (.iadd, 1) := by decide +kernel
theorem dX0_add_30 : decode cX0_add 30 = .ok (.putfield 15, 3) := by decide +kernel
theorem dX0_add_33 : decode cX0_add 33 = .ok (.return_, 1) := by decide +kernel
theorem dX0_addVariable_0 : decode cX0_addVariable 0 = .ok (.iload_n 1, 1) := by decide +kernel
theorem dX0_addVariable_1 : decode cX0_addVariable 1 = .ok (.istore_n 2, 1) := by decide +kernel
theorem dX0_addVariable_2 : decode cX0_addVariable 2 = .ok (.iload_n 1, 1) := by decide +kernel
theorem dX0_addVariable_3 : decode cX0_addVariable 3 = .ok (.invokestatic 19, 3) := by decide +kernel
theorem dX0_addVariable_6 : decode cX0_addVariable 6 = .ok (.istore_n 3, 1) := by decide +kernel
theorem dX0_addVariable_7 : decode cX0_addVariable 7 = .ok (.iload_n 3, 1) := by decide +kernel
theorem dX0_addVariable_8 : decode cX0_addVariable 8 = .ok (.iconst 1, 1) := by decide +kernel
theorem dX0_addVariable_9 : decode cX0_addVariable 9 = .ok (.if_icmp .le 26, 3) := by decide +kernel
theorem dX0_addVariable_12 : decode cX0_addVariable 12 = .ok (.aload_n 0, 1) := by decide +kernel
theorem dX0_addVariable_13 : decode cX0_addVariable 13 = .ok (.iload_n 2, 1) := by decide +kernel
theorem dX0_addVariable_14 : decode cX0_addVariable 14 = .ok (.bipush 127, 2) := by decide +kernel
theorem dX0_addVariable_16 : decode cX0_addVariable 16 = .ok (.iand, 1) := by decide +kernel
theorem dX0_addVariable_17 : decode cX0_addVariable 17 = .ok (.sipush 128, 3) := by decide +kernel
theorem dX0_addVariable_20 : decode cX0_addVariable 20 = .ok (.iadd, 1) := by decide +kernel
theorem dX0_addVariable_21 : decode cX0_addVariable 21 = .ok (.invokevirtual 23, 3) := by decide +kernel
theorem dX0_addVariable_24 : decode cX0_addVariable 24 = .ok (.iload_n 2, 1) := by decide +kernel
theorem dX0_addVariable_25 : decode cX0_addVariable 25 = .ok (.bipush 7, 2) := by decide +kernel
theorem dX0_addVariable_27 : decode cX0_addVariable 27 = .ok (.iushr, 1) := by decide +kernel
theorem dX0_addVariable_28 : decode cX0_addVariable 28 = .ok (.istore_n 2, 1) := by decide +kernel
theorem dX0_addVariable_29 : decode cX0_addVariable 29 = .ok (.iinc 3 (-1), 3) := by decide +kernel
theorem dX0_addVariable_32 : decode cX0_addVariable 32 = .ok (.goto (-25), 3) := by decide +kernel
theorem dX0_addVariable_35 : decode cX0_addVariable 35 = .ok (.aload_n 0, 1) := by decide +kernel
theorem dX0_addVariable_36 : decode cX0_addVariable 36 = .ok (.iload_n 2, 1) := by decide +kernel
theorem dX0_addVariable_37 : decode cX0_addVariable 37 = .ok (.invokevirtual 23, 3) := by decide +kernel
theorem dX0_addVariable_40 : decode cX0_addVariable 40 = .ok (.return_, 1) := by decide +kernel
theorem dX0_addRow_0 : decode cX0_addRow 0 = .ok (.iconst 0, 1) := by decide +kernel
theorem dX0_addRow_1 : decode cX0_addRow 1 = .ok (.istore_n 2, 1) := by decide +kernel
theorem dX0_addRow_2 : decode cX0_addRow 2 = .ok (.iload_n 2, 1) := by decide +kernel
theorem dX0_addRow_3 : decode cX0_addRow 3 = .ok (.aload_n 1, 1) := by decide +kernel
theorem dX0_addRow_4 : decode cX0_addRow 4 = .ok (.getfield 15, 3) := by decide +kernel
theorem dX0_addRow_7 : decode cX0_addRow 7 = .ok (.if_icmp .ge 19, 3) := by decide +kernel
theorem dX0_addRow_10 : decode cX0_addRow 10 = .ok (.aload_n 0, 1) := by decide +kernel
theorem dX0_addRow_11 : decode cX0_addRow 11 = .ok (.aload_n 1, 1) := by decide +kernel
theorem dX0_addRow_12 : decode cX0_addRow 12 = .ok (.getfield 9, 3) := by decide +kernel
theorem dX0_addRow_15 : decode cX0_addRow 15 = .ok (.iload_n 2, 1) := by decide +kernel
theorem dX0_addRow_16 : decode cX0_addRow 16 = .ok (.baload, 1) := by decide +kernel
theorem dX0_addRow_17 : decode cX0_addRow 17 = .ok (.invokevirtual 23, 3) := by decide +kernel
theorem dX0_addRow_20 : decode cX0_addRow 20 = .ok (.iinc 2 1, 3) := by decide +kernel
theorem dX0_addRow_23 : decode cX0_addRow 23 = .ok (.goto (-21), 3) := by decide +kernel
theorem dX0_addRow_26 : decode cX0_addRow 26 = .ok (.return_, 1) := by decide +kernel
theorem dX0_moveTo_0 : decode cX0_moveTo 0 = .ok (.aload_n 1, 1) := by decide +kernel
theorem dX0_moveTo_1 : decode cX0_moveTo 1 = .ok (.aload_n 0, 1) := by decide +kernel
theorem dX0_moveTo_2 : decode cX0_moveTo 2 = .ok (.invokevirtual 27, 3) := by decide +kernel
theorem dX0_moveTo_5 : decode cX0_moveTo 5 = .ok (.aload_n 0, 1) := by decide +kernel
theorem dX0_moveTo_6 : decode cX0_moveTo 6 = .ok (.invokevirtual 31, 3) := by decide +kernel
theorem dX0_moveTo_9 : decode cX0_moveTo 9 = .ok (.return_, 1) := by decide +kernel
theorem dX0_variableLength_0 : decode cX0_variableLength 0 = .ok (.iconst 1, 1) := by decide +kernel
theorem dX0_variableLength_1 : decode cX0_variableLength 1 = .ok (.istore_n 1, 1) := by decide +kernel
theorem dX0_variableLength_2 : decode cX0_variableLength 2 = .ok (.bipush 7, 2) := by decide +kernel
theorem dX0_variableLength_4 : decode cX0_variableLength 4 = .ok (.istore_n 2, 1) := by decide +kernel
theorem dX0_variableLength_5 : decode cX0_variableLength 5 = .ok (.iload_n 2, 1) := by decide +kernel
theorem dX0_variableLength_6 : decode cX0_variableLength 6 = .ok (.bipush 32, 2) := by decide +kernel
theorem dX0_variableLength_8 : decode cX0_variableLength 8 = .ok (.if_icmp .ge 18, 3) := by decide +kernel
theorem dX0_variableLength_11 : decode cX0_variableLength 11 = .ok (.iload_n 0, 1) := by decide +kernel
theorem dX0_variableLength_12 : decode cX0_variableLength 12 = .ok (.iload_n 2, 1) := by decide +kernel
theorem dX0_variableLength_13 : decode cX0_variableLength 13 = .ok (.iushr, 1) := by decide +kernel
theorem dX0_variableLength_14 : decode cX0_variableLength 14 = .ok (.ifCond .eq 6, 3) := by decide +kernel
theorem dX0_variableLength_17 : decode cX0_variableLength 17 = .ok (.iinc 1 1, 3) := by decide +kernel
theorem dX0_variableLength_20 : decode cX0_variableLength 20 = .ok (.iinc 2 7, 3) := by decide +kernel
theorem dX0_variableLength_23 : decode cX0_variableLength 23 = .ok (.goto (-18), 3) := by decide +kernel
theorem dX0_variableLength_26 : decode cX0_variableLength 26 = .ok (.iload_n 1, 1) := by decide +kernel
theorem dX0_variableLength_27 : decode cX0_variableLength 27 = .ok (.ireturn, 1) := by decide +kernel
theorem dX1_init_0 : decode cX1_init 0 = .ok (.aload_n 0, 1) := by decide +kernel
theorem dX1_init_1 : decode cX1_init 1 = .ok (.invokespecial 3, 3) := by decide +kernel
theorem dX1_init_4 : decode cX1_init 4 = .ok (.aload_n 0, 1) := by decide +kernel
theorem dX1_init_5 : decode cX1_init 5 = .ok (.new 9, 3) := by decide +kernel
theorem dX1_init_8 : decode cX1_init 8 = .ok (.dup, 1) := by decide +kernel
theorem dX1_init_9 : decode cX1_init 9 = .ok (.iload_n 1, 1) := by decide +kernel
theorem dX1_init_10 : decode cX1_init 10 = .ok (.invokespecial 11, 3) := by decide +kernel
theorem dX1_init_13 : decode cX1_init 13 = .ok (.putfield 14, 3) := by decide +kernel
theorem dX1_init_16 : decode cX1_init 16 = .ok (.aload_n 0, 1) := by decide +kernel
theorem dX1_init_17 : decode cX1_init 17 = .ok (.bipush 24, 2) := by decide +kernel
theorem dX1_init_19 : decode cX1_init 19 = .ok (.newarray .boolean, 2) := by decide +kernel
theorem dX1_init_21 : decode cX1_init 21 = .ok (.putfield 20, 3) := by decide +kernel
theorem dX1_init_24 : decode cX1_init 24 = .ok (.return_, 1) := by decide +kernel
theorem dX1_openAs_0 : decode cX1_openAs 0 = .ok (.aload_n 0, 1) := by decide +kernel
theorem dX1_openAs_1 : decode cX1_openAs 1 = .ok (.getfield 14, 3) := by decide +kernel
theorem dX1_openAs_4 : decode cX1_openAs 4 = .ok (.invokevirtual 24, 3) := by decide +kernel
theorem dX1_openAs_7 : decode cX1_openAs 7 = .ok (.iconst 0, 1) := by decide +kernel
theorem dX1_openAs_8 : decode cX1_openAs 8 = .ok (.istore_n 3, 1) := by decide +kernel
theorem dX1_openAs_9 : decode cX1_openAs 9 = .ok (.iload_n 3, 1) := by decide +kernel
theorem dX1_openAs_10 : decode cX1_openAs 10 = .ok (.bipush 24, 2) := by decide +kernel
theorem dX1_openAs_12 : decode cX1_openAs 12 = .ok (.if_icmp .ge 16, 3) := by decide +kernel
theorem dX1_openAs_15 : decode cX1_openAs 15 = .ok (.aload_n 0, 1) := by decide +kernel
theorem dX1_openAs_16 : decode cX1_openAs 16 = .ok (.getfield 20, 3) := by decide +kernel
theorem dX1_openAs_19 : decode cX1_openAs 19 = .ok (.iload_n 3, 1) := by decide +kernel
theorem dX1_openAs_20 : decode cX1_openAs 20 = .ok (.iconst 0, 1) := by decide +kernel
theorem dX1_openAs_21 : decode cX1_openAs 21 = .ok (.bastore, 1) := by decide +kernel
theorem dX1_openAs_22 : decode cX1_openAs 22 = .ok (.iinc 3 1, 3) := by decide +kernel
theorem dX1_openAs_25 : decode cX1_openAs 25 = .ok (.goto (-16), 3) := by decide +kernel
theorem dX1_openAs_28 : decode cX1_openAs 28 = .ok (.aload_n 0, 1) := by decide +kernel
theorem dX1_openAs_29 : decode cX1_openAs 29 = .ok (.iload_n 1, 1) := by decide +kernel
theorem dX1_openAs_30 : decode cX1_openAs 30 = .ok (.putfield 27, 3) := by decide +kernel
theorem dX1_openAs_33 : decode cX1_openAs 33 = .ok (.aload_n 0, 1) := by decide +kernel
theorem dX1_openAs_34 : decode cX1_openAs 34 = .ok (.iload_n 2, 1) := by decide +kernel
theorem dX1_openAs_35 : decode cX1_openAs 35 = .ok (.putfield 31, 3) := by decide +kernel
theorem dX1_openAs_38 : decode cX1_openAs 38 = .ok (.aload_n 0, 1) := by decide +kernel
theorem dX1_openAs_39 : decode cX1_openAs 39 = .ok (.iconst 0, 1) := by decide +kernel
theorem dX1_openAs_40 : decode cX1_openAs 40 = .ok (.putfield 34, 3) := by decide +kernel
theorem dX1_openAs_43 : decode cX1_openAs 43 = .ok (.return_, 1) := by decide +kernel
theorem dX1_number_0 : decode cX1_number 0 = .ok (.aload_n 0, 1) := by decide +kernel
theorem dX1_number_1 : decode cX1_number 1 = .ok (.getfield 27, 3) := by decide +kernel
theorem dX1_number_4 : decode cX1_number 4 = .ok (.ireturn, 1) := by decide +kernel
theorem dX1_body_0 : decode cX1_body 0 = .ok (.aload_n 0, 1) := by decide +kernel
theorem dX1_body_1 : decode cX1_body 1 = .ok (.getfield 14, 3) := by decide +kernel
theorem dX1_body_4 : decode cX1_body 4 = .ok (.areturn, 1) := by decide +kernel
theorem dX1_countEvent_0 : decode cX1_countEvent 0 = .ok (.aload_n 0, 1) := by decide +kernel
theorem dX1_countEvent_1 : decode cX1_countEvent 1 = .ok (.dup, 1) := by decide +kernel
theorem dX1_countEvent_2 : decode cX1_countEvent 2 = .ok (.getfield 34, 3) := by decide +kernel
theorem dX1_countEvent_5 : decode cX1_countEvent 5 = .ok (.iconst 1, 1) := by decide +kernel
theorem dX1_countEvent_6 : decode cX1_countEvent 6 = .ok (.iadd, 1) := by decide +kernel
theorem dX1_countEvent_7 : decode cX1_countEvent 7 = .ok (.putfield 34, 3) := by decide +kernel
theorem dX1_countEvent_10 : decode cX1_countEvent 10 = .ok (.return_, 1) := by decide +kernel
theorem dX1_use_0 : decode cX1_use 0 = .ok (.iload_n 1, 1) := by decide +kernel
theorem dX1_use_1 : decode cX1_use 1 = .ok (.ifCond .lt 16, 3) := by decide +kernel
theorem dX1_use_4 : decode cX1_use 4 = .ok (.iload_n 1, 1) := by decide +kernel
theorem dX1_use_5 : decode cX1_use 5 = .ok (.bipush 24, 2) := by decide +kernel
theorem dX1_use_7 : decode cX1_use 7 = .ok (.if_icmp .ge 10, 3) := by decide +kernel
theorem dX1_use_10 : decode cX1_use 10 = .ok (.aload_n 0, 1) := by decide +kernel
theorem dX1_use_11 : decode cX1_use 11 = .ok (.getfield 20, 3) := by decide +kernel
theorem dX1_use_14 : decode cX1_use 14 = .ok (.iload_n 1, 1) := by decide +kernel
theorem dX1_use_15 : decode cX1_use 15 = .ok (.iconst 1, 1) := by decide +kernel
theorem dX1_use_16 : decode cX1_use 16 = .ok (.bastore, 1) := by decide +kernel
theorem dX1_use_17 : decode cX1_use 17 = .ok (.return_, 1) := by decide +kernel
theorem dX1_addLoss_0 : decode cX1_addLoss 0 = .ok (.aload_n 0, 1) := by decide +kernel
theorem dX1_addLoss_1 : decode cX1_addLoss 1 = .ok (.getfield 14, 3) := by decide +kernel
theorem dX1_addLoss_4 : decode cX1_addLoss 4 = .ok (.iconst 2, 1) := by decide +kernel
theorem dX1_addLoss_5 : decode cX1_addLoss 5 = .ok (.iload_n 2, 1) := by decide +kernel
theorem dX1_addLoss_6 : decode cX1_addLoss 6 = .ok (.invokestatic 37, 3) := by decide +kernel
theorem dX1_addLoss_9 : decode cX1_addLoss 9 = .ok (.iadd, 1) := by decide +kernel
theorem dX1_addLoss_10 : decode cX1_addLoss 10 = .ok (.invokevirtual 41, 3) := by decide +kernel
theorem dX1_addLoss_13 : decode cX1_addLoss 13 = .ok (.aload_n 0, 1) := by decide +kernel
theorem dX1_addLoss_14 : decode cX1_addLoss 14 = .ok (.getfield 14, 3) := by decide +kernel
theorem dX1_addLoss_17 : decode cX1_addLoss 17 = .ok (.bipush 63, 2) := by decide +kernel
theorem dX1_addLoss_19 : decode cX1_addLoss 19 = .ok (.invokevirtual 44, 3) := by decide +kernel
theorem dX1_addLoss_22 : decode cX1_addLoss 22 = .ok (.aload_n 0, 1) := by decide +kernel
theorem dX1_addLoss_23 : decode cX1_addLoss 23 = .ok (.getfield 14, 3) := by decide +kernel
theorem dX1_addLoss_26 : decode cX1_addLoss 26 = .ok (.iload_n 1, 1) := by decide +kernel
theorem dX1_addLoss_27 : decode cX1_addLoss 27 = .ok (.invokevirtual 41, 3) := by decide +kernel
theorem dX1_addLoss_30 : decode cX1_addLoss 30 = .ok (.aload_n 0, 1) := by decide +kernel
theorem dX1_addLoss_31 : decode cX1_addLoss 31 = .ok (.getfield 14, 3) := by decide +kernel
theorem dX1_addLoss_34 : decode cX1_addLoss 34 = .ok (.iload_n 2, 1) := by decide +kernel
theorem dX1_addLoss_35 : decode cX1_addLoss 35 = .ok (.invokevirtual 41, 3) := by decide +kernel
theorem dX1_addLoss_38 : decode cX1_addLoss 38 = .ok (.return_, 1) := by decide +kernel
theorem dX1_writeTo_0 : decode cX1_writeTo 0 = .ok (.aload_n 1, 1) := by decide +kernel
theorem dX1_writeTo_1 : decode cX1_writeTo 1 = .ok (.bipush 70, 2) := by decide +kernel
theorem dX1_writeTo_3 : decode cX1_writeTo 3 = .ok (.invokevirtual 44, 3) := by decide +kernel
theorem dX1_writeTo_6 : decode cX1_writeTo 6 = .ok (.aload_n 1, 1) := by decide +kernel
theorem dX1_writeTo_7 : decode cX1_writeTo 7 = .ok (.aload_n 0, 1) := by decide +kernel
theorem dX1_writeTo_8 : decode cX1_writeTo 8 = .ok (.getfield 27, 3) := by decide +kernel
theorem dX1_writeTo_11 : decode cX1_writeTo 11 = .ok (.invokevirtual 41, 3) := by decide +kernel
theorem dX1_writeTo_14 : decode cX1_writeTo 14 = .ok (.aload_n 1, 1) := by decide +kernel
theorem dX1_writeTo_15 : decode cX1_writeTo 15 = .ok (.aload_n 0, 1) := by decide +kernel
theorem dX1_writeTo_16 : decode cX1_writeTo 16 = .ok (.getfield 31, 3) := by decide +kernel
theorem dX1_writeTo_19 : decode cX1_writeTo 19 = .ok (.invokevirtual 41, 3) := by decide +kernel
theorem dX1_writeTo_22 : decode cX1_writeTo 22 = .ok (.aload_n 1, 1) := by decide +kernel
theorem dX1_writeTo_23 : decode cX1_writeTo 23 = .ok (.aload_n 0, 1) := by decide +kernel
theorem dX1_writeTo_24 : decode cX1_writeTo 24 = .ok (.getfield 34, 3) := by decide +kernel
theorem dX1_writeTo_27 : decode cX1_writeTo 27 = .ok (.invokevirtual 41, 3) := by decide +kernel
theorem dX1_writeTo_30 : decode cX1_writeTo 30 = .ok (.aload_n 1, 1) := by decide +kernel
theorem dX1_writeTo_31 : decode cX1_writeTo 31 = .ok (.aload_n 0, 1) := by decide +kernel
theorem dX1_writeTo_32 : decode cX1_writeTo 32 = .ok (.getfield 14, 3) := by decide +kernel
theorem dX1_writeTo_35 : decode cX1_writeTo 35 = .ok (.invokevirtual 47, 3) := by decide +kernel
theorem dX1_writeTo_38 : decode cX1_writeTo 38 = .ok (.aload_n 1, 1) := by decide +kernel
theorem dX1_writeTo_39 : decode cX1_writeTo 39 = .ok (.iconst 0, 1) := by decide +kernel
theorem dX1_writeTo_40 : decode cX1_writeTo 40 = .ok (.invokevirtual 44, 3) := by decide +kernel
theorem dX1_writeTo_43 : decode cX1_writeTo 43 = .ok (.aload_n 1, 1) := by decide +kernel
theorem dX1_writeTo_44 : decode cX1_writeTo 44 = .ok (.aload_n 0, 1) := by decide +kernel
theorem dX1_writeTo_45 : decode cX1_writeTo 45 = .ok (.invokevirtual 51, 3) := by decide +kernel
theorem dX1_writeTo_48 : decode cX1_writeTo 48 = .ok (.invokevirtual 41, 3) := by decide +kernel
theorem dX1_writeTo_51 : decode cX1_writeTo 51 = .ok (.iconst 0, 1) := by decide +kernel
theorem dX1_writeTo_52 : decode cX1_writeTo 52 = .ok (.istore_n 3, 1) := by decide +kernel
theorem dX1_writeTo_53 : decode cX1_writeTo 53 = .ok (.iload_n 3, 1) := by decide +kernel
theorem dX1_writeTo_54 : decode cX1_writeTo 54 = .ok (.bipush 24, 2) := by decide +kernel
theorem dX1_writeTo_56 : decode cX1_writeTo 56 = .ok (.if_icmp .ge 24, 3) := by decide +kernel
theorem dX1_writeTo_59 : decode cX1_writeTo 59 = .ok (.aload_n 0, 1) := by decide +kernel
theorem dX1_writeTo_60 : decode cX1_writeTo 60 = .ok (.getfield 20, 3) := by decide +kernel
theorem dX1_writeTo_63 : decode cX1_writeTo 63 = .ok (.iload_n 3, 1) := by decide +kernel
theorem dX1_writeTo_64 : decode cX1_writeTo 64 = .ok (.baload, 1) := by decide +kernel
theorem dX1_writeTo_65 : decode cX1_writeTo 65 = .ok (.ifCond .eq 9, 3) := by decide +kernel
theorem dX1_writeTo_68 : decode cX1_writeTo 68 = .ok (.aload_n 2, 1) := by decide +kernel
theorem dX1_writeTo_69 : decode cX1_writeTo 69 = .ok (.aload_n 1, 1) := by decide +kernel
theorem dX1_writeTo_70 : decode cX1_writeTo 70 = .ok (.iload_n 3, 1) := by decide +kernel
theorem dX1_writeTo_71 : decode cX1_writeTo 71 = .ok (.invokevirtual 55, 3) := by decide +kernel
theorem dX1_writeTo_74 : decode cX1_writeTo 74 = .ok (.iinc 3 1, 3) := by decide +kernel
theorem dX1_writeTo_77 : decode cX1_writeTo 77 = .ok (.goto (-24), 3) := by decide +kernel
theorem dX1_writeTo_80 : decode cX1_writeTo 80 = .ok (.return_, 1) := by decide +kernel
theorem dX1_countStrings_0 : decode cX1_countStrings 0 = .ok (.iconst 0, 1) := by decide +kernel
theorem dX1_countStrings_1 : decode cX1_countStrings 1 = .ok (.istore_n 1, 1) := by decide +kernel
theorem dX1_countStrings_2 : decode cX1_countStrings 2 = .ok (.iconst 0, 1) := by decide +kernel
theorem dX1_countStrings_3 : decode cX1_countStrings 3 = .ok (.istore_n 2, 1) := by decide +kernel
theorem dX1_countStrings_4 : decode cX1_countStrings 4 = .ok (.iload_n 2, 1) := by decide +kernel
theorem dX1_countStrings_5 : decode cX1_countStrings 5 = .ok (.bipush 24, 2) := by decide +kernel
theorem dX1_countStrings_7 : decode cX1_countStrings 7 = .ok (.if_icmp .ge 21, 3) := by decide +kernel
theorem dX1_countStrings_10 : decode cX1_countStrings 10 = .ok (.aload_n 0, 1) := by decide +kernel
theorem dX1_countStrings_11 : decode cX1_countStrings 11 = .ok (.getfield 20, 3) := by decide +kernel
theorem dX1_countStrings_14 : decode cX1_countStrings 14 = .ok (.iload_n 2, 1) := by decide +kernel
theorem dX1_countStrings_15 : decode cX1_countStrings 15 = .ok (.baload, 1) := by decide +kernel
theorem dX1_countStrings_16 : decode cX1_countStrings 16 = .ok (.ifCond .eq 6, 3) := by decide +kernel
theorem dX1_countStrings_19 : decode cX1_countStrings 19 = .ok (.iinc 1 1, 3) := by decide +kernel
theorem dX1_countStrings_22 : decode cX1_countStrings 22 = .ok (.iinc 2 1, 3) := by decide +kernel
theorem dX1_countStrings_25 : decode cX1_countStrings 25 = .ok (.goto (-21), 3) := by decide +kernel
theorem dX1_countStrings_28 : decode cX1_countStrings 28 = .ok (.iload_n 1, 1) := by decide +kernel
theorem dX1_countStrings_29 : decode cX1_countStrings 29 = .ok (.ireturn, 1) := by decide +kernel
theorem dX2_init_0 : decode cX2_init 0 = .ok (.aload_n 0, 1) := by decide +kernel
theorem dX2_init_1 : decode cX2_init 1 = .ok (.invokespecial 1, 3) := by decide +kernel
theorem dX2_init_4 : decode cX2_init 4 = .ok (.aload_n 0, 1) := by decide +kernel
theorem dX2_init_5 : decode cX2_init 5 = .ok (.iload_n 1, 1) := by decide +kernel
theorem dX2_init_6 : decode cX2_init 6 = .ok (.iconst 1, 1) := by decide +kernel
theorem dX2_init_7 : decode cX2_init 7 = .ok (.iadd, 1) := by decide +kernel
theorem dX2_init_8 : decode cX2_init 8 = .ok (.anewarray 7, 3) := by decide +kernel
theorem dX2_init_11 : decode cX2_init 11 = .ok (.putfield 9, 3) := by decide +kernel
theorem dX2_init_14 : decode cX2_init 14 = .ok (.iconst 0, 1) := by decide +kernel
theorem dX2_init_15 : decode cX2_init 15 = .ok (.istore_n 3, 1) := by decide +kernel
theorem dX2_init_16 : decode cX2_init 16 = .ok (.iload_n 3, 1) := by decide +kernel
theorem dX2_init_17 : decode cX2_init 17 = .ok (.iload_n 1, 1) := by decide +kernel
theorem dX2_init_18 : decode cX2_init 18 = .ok (.if_icmp .gt 23, 3) := by decide +kernel
theorem dX2_init_21 : decode cX2_init 21 = .ok (.aload_n 0, 1) := by decide +kernel
theorem dX2_init_22 : decode cX2_init 22 = .ok (.getfield 9, 3) := by decide +kernel
theorem dX2_init_25 : decode cX2_init 25 = .ok (.iload_n 3, 1) := by decide +kernel
theorem dX2_init_26 : decode cX2_init 26 = .ok (.new 7, 3) := by decide +kernel
theorem dX2_init_29 : decode cX2_init 29 = .ok (.dup, 1) := by decide +kernel
theorem dX2_init_30 : decode cX2_init 30 = .ok (.iload_n 2, 1) := by decide +kernel
theorem dX2_init_31 : decode cX2_init 31 = .ok (.invokespecial 15, 3) := by decide +kernel
theorem dX2_init_34 : decode cX2_init 34 = .ok (.aastore, 1) := by decide +kernel
theorem dX2_init_35 : decode cX2_init 35 = .ok (.iinc 3 1, 3) := by decide +kernel
theorem dX2_init_38 : decode cX2_init 38 = .ok (.goto (-22), 3) := by decide +kernel
theorem dX2_init_41 : decode cX2_init 41 = .ok (.aload_n 0, 1) := by decide +kernel
theorem dX2_init_42 : decode cX2_init 42 = .ok (.getfield 9, 3) := by decide +kernel
theorem dX2_init_45 : decode cX2_init 45 = .ok (.iconst 0, 1) := by decide +kernel
theorem dX2_init_46 : decode cX2_init 46 = .ok (.aaload, 1) := by decide +kernel
theorem dX2_init_47 : decode cX2_init 47 = .ok (.iconst 1, 1) := by decide +kernel
theorem dX2_init_48 : decode cX2_init 48 = .ok (.iconst 0, 1) := by decide +kernel
theorem dX2_init_49 : decode cX2_init 49 = .ok (.invokevirtual 18, 3) := by decide +kernel
theorem dX2_init_52 : decode cX2_init 52 = .ok (.return_, 1) := by decide +kernel
theorem dX2_open_0 : decode cX2_open 0 = .ok (.aload_n 0, 1) := by decide +kernel
theorem dX2_open_1 : decode cX2_open 1 = .ok (.getfield 9, 3) := by decide +kernel
theorem dX2_open_4 : decode cX2_open 4 = .ok (.aload_n 0, 1) := by decide +kernel
theorem dX2_open_5 : decode cX2_open 5 = .ok (.getfield 22, 3) := by decide +kernel
theorem dX2_open_8 : decode cX2_open 8 = .ok (.aaload, 1) := by decide +kernel
theorem dX2_open_9 : decode cX2_open 9 = .ok (.areturn, 1) := by decide +kernel
theorem dX2_kept_0 : decode cX2_kept 0 = .ok (.aload_n 0, 1) := by decide +kernel
theorem dX2_kept_1 : decode cX2_kept 1 = .ok (.getfield 22, 3) := by decide +kernel
theorem dX2_kept_4 : decode cX2_kept 4 = .ok (.ireturn, 1) := by decide +kernel
theorem dX2_evicted_0 : decode cX2_evicted 0 = .ok (.aload_n 0, 1) := by decide +kernel
theorem dX2_evicted_1 : decode cX2_evicted 1 = .ok (.getfield 26, 3) := by decide +kernel
theorem dX2_evicted_4 : decode cX2_evicted 4 = .ok (.ireturn, 1) := by decide +kernel
theorem dX2_finishOpen_0 : decode cX2_finishOpen 0 = .ok (.aload_n 0, 1) := by decide +kernel
theorem dX2_finishOpen_1 : decode cX2_finishOpen 1 = .ok (.invokevirtual 29, 3) := by decide +kernel
theorem dX2_finishOpen_4 : decode cX2_finishOpen 4 = .ok (.invokevirtual 33, 3) := by decide +kernel
theorem dX2_finishOpen_7 : decode cX2_finishOpen 7 = .ok (.iconst 1, 1) := by decide +kernel
theorem dX2_finishOpen_8 : decode cX2_finishOpen 8 = .ok (.iadd, 1) := by decide +kernel
theorem dX2_finishOpen_9 : decode cX2_finishOpen 9 = .ok (.istore_n 2, 1) := by decide +kernel
theorem dX2_finishOpen_10 : decode cX2_finishOpen 10 = .ok (.aload_n 0, 1) := by decide +kernel
theorem dX2_finishOpen_11 : decode cX2_finishOpen 11 = .ok (.invokevirtual 29, 3) := by decide +kernel
theorem dX2_finishOpen_14 : decode cX2_finishOpen 14 = .ok (.invokevirtual 37, 3) := by decide +kernel
theorem dX2_finishOpen_17 : decode cX2_finishOpen 17 = .ok (.invokevirtual 41, 3) := by decide +kernel
theorem dX2_finishOpen_20 : decode cX2_finishOpen 20 = .ok (.ifCond .le 13, 3) := by decide +kernel
theorem dX2_finishOpen_23 : decode cX2_finishOpen 23 = .ok (.aload_n 0, 1) := by decide +kernel
theorem dX2_finishOpen_24 : decode cX2_finishOpen 24 = .ok (.dup, 1) := by decide +kernel
theorem dX2_finishOpen_25 : decode cX2_finishOpen 25 = .ok (.getfield 22, 3) := by decide +kernel
theorem dX2_finishOpen_28 : decode cX2_finishOpen 28 = .ok (.iconst 1, 1) := by decide +kernel
theorem dX2_finishOpen_29 : decode cX2_finishOpen 29 = .ok (.iadd, 1) := by decide +kernel
theorem dX2_finishOpen_30 : decode cX2_finishOpen 30 = .ok (.putfield 22, 3) := by decide +kernel
theorem dX2_finishOpen_33 : decode cX2_finishOpen 33 = .ok (.aload_n 0, 1) := by decide +kernel
theorem dX2_finishOpen_34 : decode cX2_finishOpen 34 = .ok (.getfield 22, 3) := by decide +kernel
theorem dX2_finishOpen_37 : decode cX2_finishOpen 37 = .ok (.aload_n 0, 1) := by decide +kernel
theorem dX2_finishOpen_38 : decode cX2_finishOpen 38 = .ok (.getfield 9, 3) := by decide +kernel
theorem dX2_finishOpen_41 : decode cX2_finishOpen 41 = .ok (.arraylength, 1) := by decide +kernel
theorem dX2_finishOpen_42 : decode cX2_finishOpen 42 = .ok (.if_icmp .lt 7, 3) := by decide +kernel
theorem dX2_finishOpen_45 : decode cX2_finishOpen 45 = .ok (.aload_n 0, 1) := by decide +kernel
theorem dX2_finishOpen_46 : decode cX2_finishOpen 46 = .ok (.invokevirtual 46, 3) := by decide +kernel
theorem dX2_finishOpen_49 : decode cX2_finishOpen 49 = .ok (.aload_n 0, 1) := by decide +kernel
theorem dX2_finishOpen_50 : decode cX2_finishOpen 50 = .ok (.invokevirtual 29, 3) := by decide +kernel
theorem dX2_finishOpen_53 : decode cX2_finishOpen 53 = .ok (.iload_n 2, 1) := by decide +kernel
theorem dX2_finishOpen_54 : decode cX2_finishOpen 54 = .ok (.iload_n 1, 1) := by decide +kernel
theorem dX2_finishOpen_55 : decode cX2_finishOpen 55 = .ok (.invokevirtual 18, 3) := by decide +kernel
theorem dX2_finishOpen_58 : decode cX2_finishOpen 58 = .ok (.return_, 1) := by decide +kernel
theorem dX2_writeKept_0 : decode cX2_writeKept 0 = .ok (.iconst 0, 1) := by decide +kernel
theorem dX2_writeKept_1 : decode cX2_writeKept 1 = .ok (.istore 5, 2) := by decide +kernel
theorem dX2_writeKept_3 : decode cX2_writeKept 3 = .ok (.iload 5, 2) := by decide +kernel
theorem dX2_writeKept_5 : decode cX2_writeKept 5 = .ok (.aload_n 0, 1) := by decide +kernel
theorem dX2_writeKept_6 : decode cX2_writeKept 6 = .ok (.getfield 22, 3) := by decide +kernel
theorem dX2_writeKept_9 : decode cX2_writeKept 9 = .ok (.if_icmp .ge 50, 3) := by decide +kernel
theorem dX2_writeKept_12 : decode cX2_writeKept 12 = .ok (.aload_n 0, 1) := by decide +kernel
theorem dX2_writeKept_13 : decode cX2_writeKept 13 = .ok (.getfield 9, 3) := by decide +kernel
theorem dX2_writeKept_16 : decode cX2_writeKept 16 = .ok (.iload 5, 2) := by decide +kernel
theorem dX2_writeKept_18 : decode cX2_writeKept 18 = .ok (.aaload, 1) := by decide +kernel
theorem dX2_writeKept_19 : decode cX2_writeKept 19 = .ok (.invokevirtual 33, 3) := by decide +kernel
theorem dX2_writeKept_22 : decode cX2_writeKept 22 = .ok (.iload_n 3, 1) := by decide +kernel
theorem dX2_writeKept_23 : decode cX2_writeKept 23 = .ok (.if_icmp .lt 30, 3) := by decide +kernel
theorem dX2_writeKept_26 : decode cX2_writeKept 26 = .ok (.aload_n 0, 1) := by decide +kernel
theorem dX2_writeKept_27 : decode cX2_writeKept 27 = .ok (.getfield 9, 3) := by decide +kernel
theorem dX2_writeKept_30 : decode cX2_writeKept 30 = .ok (.iload 5, 2) := by decide +kernel
theorem dX2_writeKept_32 : decode cX2_writeKept 32 = .ok (.aaload, 1) := by decide +kernel
theorem dX2_writeKept_33 : decode cX2_writeKept 33 = .ok (.invokevirtual 33, 3) := by decide +kernel
theorem dX2_writeKept_36 : decode cX2_writeKept 36 = .ok (.iload 4, 2) := by decide +kernel
theorem dX2_writeKept_38 : decode cX2_writeKept 38 = .ok (.if_icmp .gt 15, 3) := by decide +kernel
theorem dX2_writeKept_41 : decode cX2_writeKept 41 = .ok (.aload_n 0, 1) := by decide +kernel
theorem dX2_writeKept_42 : decode cX2_writeKept 42 = .ok (.getfield 9, 3) := by decide +kernel
theorem dX2_writeKept_45 : decode cX2_writeKept 45 = .ok (.iload 5, 2) := by decide +kernel
theorem dX2_writeKept_47 : decode cX2_writeKept 47 = .ok (.aaload, 1) := by decide +kernel
theorem dX2_writeKept_48 : decode cX2_writeKept 48 = .ok (.aload_n 1, 1) := by decide +kernel
theorem dX2_writeKept_49 : decode cX2_writeKept 49 = .ok (.aload_n 2, 1) := by decide +kernel
theorem dX2_writeKept_50 : decode cX2_writeKept 50 = .ok (.invokevirtual 49, 3) := by decide +kernel
theorem dX2_writeKept_53 : decode cX2_writeKept 53 = .ok (.iinc 5 1, 3) := by decide +kernel
theorem dX2_writeKept_56 : decode cX2_writeKept 56 = .ok (.goto (-53), 3) := by decide +kernel
theorem dX2_writeKept_59 : decode cX2_writeKept 59 = .ok (.return_, 1) := by decide +kernel
theorem dX2_evictOldest_0 : decode cX2_evictOldest 0 = .ok (.aload_n 0, 1) := by decide +kernel
theorem dX2_evictOldest_1 : decode cX2_evictOldest 1 = .ok (.getfield 9, 3) := by decide +kernel
theorem dX2_evictOldest_4 : decode cX2_evictOldest 4 = .ok (.iconst 0, 1) := by decide +kernel
theorem dX2_evictOldest_5 : decode cX2_evictOldest 5 = .ok (.aaload, 1) := by decide +kernel
theorem dX2_evictOldest_6 : decode cX2_evictOldest 6 = .ok (.astore_n 1, 1) := by decide +kernel
theorem dX2_evictOldest_7 : decode cX2_evictOldest 7 = .ok (.iconst 1, 1) := by decide +kernel
theorem dX2_evictOldest_8 : decode cX2_evictOldest 8 = .ok (.istore_n 2, 1) := by decide +kernel
theorem dX2_evictOldest_9 : decode cX2_evictOldest 9 = .ok (.iload_n 2, 1) := by decide +kernel
theorem dX2_evictOldest_10 : decode cX2_evictOldest 10 = .ok (.aload_n 0, 1) := by decide +kernel
theorem dX2_evictOldest_11 : decode cX2_evictOldest 11 = .ok (.getfield 9, 3) := by decide +kernel
theorem dX2_evictOldest_14 : decode cX2_evictOldest 14 = .ok (.arraylength, 1) := by decide +kernel
theorem dX2_evictOldest_15 : decode cX2_evictOldest 15 = .ok (.if_icmp .ge 23, 3) := by decide +kernel
theorem dX2_evictOldest_18 : decode cX2_evictOldest 18 = .ok (.aload_n 0, 1) := by decide +kernel
theorem dX2_evictOldest_19 : decode cX2_evictOldest 19 = .ok (.getfield 9, 3) := by decide +kernel
theorem dX2_evictOldest_22 : decode cX2_evictOldest 22 = .ok (.iload_n 2, 1) := by decide +kernel
theorem dX2_evictOldest_23 : decode cX2_evictOldest 23 = .ok (.iconst 1, 1) := by decide +kernel
theorem dX2_evictOldest_24 : decode cX2_evictOldest 24 = .ok (.isub, 1) := by decide +kernel
theorem dX2_evictOldest_25 : decode cX2_evictOldest 25 = .ok (.aload_n 0, 1) := by decide +kernel
theorem dX2_evictOldest_26 : decode cX2_evictOldest 26 = .ok (.getfield 9, 3) := by decide +kernel
theorem dX2_evictOldest_29 : decode cX2_evictOldest 29 = .ok (.iload_n 2, 1) := by decide +kernel
theorem dX2_evictOldest_30 : decode cX2_evictOldest 30 = .ok (.aaload, 1) := by decide +kernel
theorem dX2_evictOldest_31 : decode cX2_evictOldest 31 = .ok (.aastore, 1) := by decide +kernel
theorem dX2_evictOldest_32 : decode cX2_evictOldest 32 = .ok (.iinc 2 1, 3) := by decide +kernel
theorem dX2_evictOldest_35 : decode cX2_evictOldest 35 = .ok (.goto (-26), 3) := by decide +kernel
theorem dX2_evictOldest_38 : decode cX2_evictOldest 38 = .ok (.aload_n 0, 1) := by decide +kernel
theorem dX2_evictOldest_39 : decode cX2_evictOldest 39 = .ok (.getfield 9, 3) := by decide +kernel
theorem dX2_evictOldest_42 : decode cX2_evictOldest 42 = .ok (.aload_n 0, 1) := by decide +kernel
theorem dX2_evictOldest_43 : decode cX2_evictOldest 43 = .ok (.getfield 9, 3) := by decide +kernel
theorem dX2_evictOldest_46 : decode cX2_evictOldest 46 = .ok (.arraylength, 1) := by decide +kernel
theorem dX2_evictOldest_47 : decode cX2_evictOldest 47 = .ok (.iconst 1, 1) := by decide +kernel
theorem dX2_evictOldest_48 : decode cX2_evictOldest 48 = .ok (.isub, 1) := by decide +kernel
theorem dX2_evictOldest_49 : decode cX2_evictOldest 49 = .ok (.aload_n 1, 1) := by decide +kernel
theorem dX2_evictOldest_50 : decode cX2_evictOldest 50 = .ok (.aastore, 1) := by decide +kernel
theorem dX2_evictOldest_51 : decode cX2_evictOldest 51 = .ok (.aload_n 0, 1) := by decide +kernel
theorem dX2_evictOldest_52 : decode cX2_evictOldest 52 = .ok (.dup, 1) := by decide +kernel
theorem dX2_evictOldest_53 : decode cX2_evictOldest 53 = .ok (.getfield 22, 3) := by decide +kernel
theorem dX2_evictOldest_56 : decode cX2_evictOldest 56 = .ok (.iconst 1, 1) := by decide +kernel
theorem dX2_evictOldest_57 : decode cX2_evictOldest 57 = .ok (.isub, 1) := by decide +kernel
theorem dX2_evictOldest_58 : decode cX2_evictOldest 58 = .ok (.putfield 22, 3) := by decide +kernel
theorem dX2_evictOldest_61 : decode cX2_evictOldest 61 = .ok (.aload_n 0, 1) := by decide +kernel
theorem dX2_evictOldest_62 : decode cX2_evictOldest 62 = .ok (.dup, 1) := by decide +kernel
theorem dX2_evictOldest_63 : decode cX2_evictOldest 63 = .ok (.getfield 26, 3) := by decide +kernel
theorem dX2_evictOldest_66 : decode cX2_evictOldest 66 = .ok (.iconst 1, 1) := by decide +kernel
theorem dX2_evictOldest_67 : decode cX2_evictOldest 67 = .ok (.iadd, 1) := by decide +kernel
theorem dX2_evictOldest_68 : decode cX2_evictOldest 68 = .ok (.putfield 26, 3) := by decide +kernel
theorem dX2_evictOldest_71 : decode cX2_evictOldest 71 = .ok (.return_, 1) := by decide +kernel
theorem dX3_init_0 : decode cX3_init 0 = .ok (.aload_n 0, 1) := by decide +kernel
theorem dX3_init_1 : decode cX3_init 1 = .ok (.invokespecial 3, 3) := by decide +kernel
theorem dX3_init_4 : decode cX3_init 4 = .ok (.aload_n 0, 1) := by decide +kernel
theorem dX3_init_5 : decode cX3_init 5 = .ok (.iconst 3, 1) := by decide +kernel
theorem dX3_init_6 : decode cX3_init 6 = .ok (.newarray .int, 2) := by decide +kernel
theorem dX3_init_8 : decode cX3_init 8 = .ok (.putfield 9, 3) := by decide +kernel
theorem dX3_init_11 : decode cX3_init 11 = .ok (.aload_n 0, 1) := by decide +kernel
theorem dX3_init_12 : decode cX3_init 12 = .ok (.new 15, 3) := by decide +kernel
theorem dX3_init_15 : decode cX3_init 15 = .ok (.dup, 1) := by decide +kernel
theorem dX3_init_16 : decode cX3_init 16 = .ok (.iload_n 1, 1) := by decide +kernel
theorem dX3_init_17 : decode cX3_init 17 = .ok (.invokespecial 17, 3) := by decide +kernel
theorem dX3_init_20 : decode cX3_init 20 = .ok (.putfield 20, 3) := by decide +kernel
theorem dX3_init_23 : decode cX3_init 23 = .ok (.return_, 1) := by decide +kernel
theorem dX3_beginAt_0 : decode cX3_beginAt 0 = .ok (.aload_n 0, 1) := by decide +kernel
theorem dX3_beginAt_1 : decode cX3_beginAt 1 = .ok (.getfield 24, 3) := by decide +kernel
theorem dX3_beginAt_4 : decode cX3_beginAt 4 = .ok (.iconst 3, 1) := by decide +kernel
theorem dX3_beginAt_5 : decode cX3_beginAt 5 = .ok (.if_icmp .lt 5, 3) := by decide +kernel
theorem dX3_beginAt_8 : decode cX3_beginAt 8 = .ok (.iconst 0, 1) := by decide +kernel
theorem dX3_beginAt_9 : decode cX3_beginAt 9 = .ok (.ireturn, 1) := by decide +kernel
theorem dX3_beginAt_10 : decode cX3_beginAt 10 = .ok (.aload_n 0, 1) := by decide +kernel
theorem dX3_beginAt_11 : decode cX3_beginAt 11 = .ok (.getfield 9, 3) := by decide +kernel
theorem dX3_beginAt_14 : decode cX3_beginAt 14 = .ok (.aload_n 0, 1) := by decide +kernel
theorem dX3_beginAt_15 : decode cX3_beginAt 15 = .ok (.getfield 24, 3) := by decide +kernel
theorem dX3_beginAt_18 : decode cX3_beginAt 18 = .ok (.iload_n 1, 1) := by decide +kernel
theorem dX3_beginAt_19 : decode cX3_beginAt 19 = .ok (.iastore, 1) := by decide +kernel
theorem dX3_beginAt_20 : decode cX3_beginAt 20 = .ok (.aload_n 0, 1) := by decide +kernel
theorem dX3_beginAt_21 : decode cX3_beginAt 21 = .ok (.dup, 1) := by decide +kernel
theorem dX3_beginAt_22 : decode cX3_beginAt 22 = .ok (.getfield 24, 3) := by decide +kernel
theorem dX3_beginAt_25 : decode cX3_beginAt 25 = .ok (.iconst 1, 1) := by decide +kernel
theorem dX3_beginAt_26 : decode cX3_beginAt 26 = .ok (.iadd, 1) := by decide +kernel
theorem dX3_beginAt_27 : decode cX3_beginAt 27 = .ok (.putfield 24, 3) := by decide +kernel
theorem dX3_beginAt_30 : decode cX3_beginAt 30 = .ok (.iconst 1, 1) := by decide +kernel
theorem dX3_beginAt_31 : decode cX3_beginAt 31 = .ok (.ireturn, 1) := by decide +kernel
theorem dX3_hasBegun_0 : decode cX3_hasBegun 0 = .ok (.aload_n 0, 1) := by decide +kernel
theorem dX3_hasBegun_1 : decode cX3_hasBegun 1 = .ok (.getfield 24, 3) := by decide +kernel
theorem dX3_hasBegun_4 : decode cX3_hasBegun 4 = .ok (.ifCond .le 7, 3) := by decide +kernel
theorem dX3_hasBegun_7 : decode cX3_hasBegun 7 = .ok (.iconst 1, 1) := by decide +kernel
theorem dX3_hasBegun_8 : decode cX3_hasBegun 8 = .ok (.goto 4, 3) := by decide +kernel
theorem dX3_hasBegun_11 : decode cX3_hasBegun 11 = .ok (.iconst 0, 1) := by decide +kernel
theorem dX3_hasBegun_12 : decode cX3_hasBegun 12 = .ok (.ireturn, 1) := by decide +kernel
theorem dX3_endLatest_0 : decode cX3_endLatest 0 = .ok (.aload_n 0, 1) := by decide +kernel
theorem dX3_endLatest_1 : decode cX3_endLatest 1 = .ok (.getfield 24, 3) := by decide +kernel
theorem dX3_endLatest_4 : decode cX3_endLatest 4 = .ok (.ifCond .gt 5, 3) := by decide +kernel
theorem dX3_endLatest_7 : decode cX3_endLatest 7 = .ok (.iconst (-1), 1) := by decide +kernel
theorem dX3_endLatest_8 : decode cX3_endLatest 8 = .ok (.ireturn, 1) := by decide +kernel
theorem dX3_endLatest_9 : decode cX3_endLatest 9 = .ok (.aload_n 0, 1) := by decide +kernel
theorem dX3_endLatest_10 : decode cX3_endLatest 10 = .ok (.dup, 1) := by decide +kernel
theorem dX3_endLatest_11 : decode cX3_endLatest 11 = .ok (.getfield 24, 3) := by decide +kernel
theorem dX3_endLatest_14 : decode cX3_endLatest 14 = .ok (.iconst 1, 1) := by decide +kernel
theorem dX3_endLatest_15 : decode cX3_endLatest 15 = .ok (.isub, 1) := by decide +kernel
theorem dX3_endLatest_16 : decode cX3_endLatest 16 = .ok (.putfield 24, 3) := by decide +kernel
theorem dX3_endLatest_19 : decode cX3_endLatest 19 = .ok (.aload_n 0, 1) := by decide +kernel
theorem dX3_endLatest_20 : decode cX3_endLatest 20 = .ok (.getfield 9, 3) := by decide +kernel
theorem dX3_endLatest_23 : decode cX3_endLatest 23 = .ok (.aload_n 0, 1) := by decide +kernel
theorem dX3_endLatest_24 : decode cX3_endLatest 24 = .ok (.getfield 24, 3) := by decide +kernel
theorem dX3_endLatest_27 : decode cX3_endLatest 27 = .ok (.iaload, 1) := by decide +kernel
theorem dX3_endLatest_28 : decode cX3_endLatest 28 = .ok (.ireturn, 1) := by decide +kernel
theorem dX3_buffer_0 : decode cX3_buffer 0 = .ok (.aload_n 0, 1) := by decide +kernel
theorem dX3_buffer_1 : decode cX3_buffer 1 = .ok (.getfield 20, 3) := by decide +kernel
theorem dX3_buffer_4 : decode cX3_buffer 4 = .ok (.areturn, 1) := by decide +kernel
theorem dX3_lose_0 : decode cX3_lose 0 = .ok (.aload_n 0, 1) := by decide +kernel
theorem dX3_lose_1 : decode cX3_lose 1 = .ok (.dup, 1) := by decide +kernel
theorem dX3_lose_2 : decode cX3_lose 2 = .ok (.getfield 28, 3) := by decide +kernel
theorem dX3_lose_5 : decode cX3_lose 5 = .ok (.iconst 1, 1) := by decide +kernel
theorem dX3_lose_6 : decode cX3_lose 6 = .ok (.iadd, 1) := by decide +kernel
theorem dX3_lose_7 : decode cX3_lose 7 = .ok (.putfield 28, 3) := by decide +kernel
theorem dX3_lose_10 : decode cX3_lose 10 = .ok (.aload_n 0, 1) := by decide +kernel
theorem dX3_lose_11 : decode cX3_lose 11 = .ok (.dup, 1) := by decide +kernel
theorem dX3_lose_12 : decode cX3_lose 12 = .ok (.getfield 31, 3) := by decide +kernel
theorem dX3_lose_15 : decode cX3_lose 15 = .ok (.iconst 1, 1) := by decide +kernel
theorem dX3_lose_16 : decode cX3_lose 16 = .ok (.iadd, 1) := by decide +kernel
theorem dX3_lose_17 : decode cX3_lose 17 = .ok (.putfield 31, 3) := by decide +kernel
theorem dX3_lose_20 : decode cX3_lose 20 = .ok (.return_, 1) := by decide +kernel
theorem dX3_takeLostInChunk_0 : decode cX3_takeLostInChunk 0 = .ok (.aload_n 0, 1) := by decide +kernel
theorem dX3_takeLostInChunk_1 : decode cX3_takeLostInChunk 1 = .ok (.getfield 28, 3) := by decide +kernel
theorem dX3_takeLostInChunk_4 : decode cX3_takeLostInChunk 4 = .ok (.istore_n 1, 1) := by decide +kernel
theorem dX3_takeLostInChunk_5 : decode cX3_takeLostInChunk 5 = .ok (.aload_n 0, 1) := by decide +kernel
theorem dX3_takeLostInChunk_6 : decode cX3_takeLostInChunk 6 = .ok (.iconst 0, 1) := by decide +kernel
theorem dX3_takeLostInChunk_7 : decode cX3_takeLostInChunk 7 = .ok (.putfield 28, 3) := by decide +kernel
theorem dX3_takeLostInChunk_10 : decode cX3_takeLostInChunk 10 = .ok (.iload_n 1, 1) := by decide +kernel
theorem dX3_takeLostInChunk_11 : decode cX3_takeLostInChunk 11 = .ok (.ireturn, 1) := by decide +kernel
theorem dX3_lostInAll_0 : decode cX3_lostInAll 0 = .ok (.aload_n 0, 1) := by decide +kernel
theorem dX3_lostInAll_1 : decode cX3_lostInAll 1 = .ok (.getfield 31, 3) := by decide +kernel
theorem dX3_lostInAll_4 : decode cX3_lostInAll 4 = .ok (.ireturn, 1) := by decide +kernel
theorem dX4_init_0 : decode cX4_init 0 = .ok (.aload_n 0, 1) := by decide +kernel
theorem dX4_init_1 : decode cX4_init 1 = .ok (.invokespecial 1, 3) := by decide +kernel
theorem dX4_init_4 : decode cX4_init 4 = .ok (.aload_n 0, 1) := by decide +kernel
theorem dX4_init_5 : decode cX4_init 5 = .ok (.iload_n 1, 1) := by decide +kernel
theorem dX4_init_6 : decode cX4_init 6 = .ok (.anewarray 7, 3) := by decide +kernel
theorem dX4_init_9 : decode cX4_init 9 = .ok (.putfield 9, 3) := by decide +kernel
theorem dX4_init_12 : decode cX4_init 12 = .ok (.iconst 0, 1) := by decide +kernel
theorem dX4_init_13 : decode cX4_init 13 = .ok (.istore_n 3, 1) := by decide +kernel
theorem dX4_init_14 : decode cX4_init 14 = .ok (.iload_n 3, 1) := by decide +kernel
theorem dX4_init_15 : decode cX4_init 15 = .ok (.iload_n 1, 1) := by decide +kernel
theorem dX4_init_16 : decode cX4_init 16 = .ok (.if_icmp .ge 23, 3) := by decide +kernel
theorem dX4_init_19 : decode cX4_init 19 = .ok (.aload_n 0, 1) := by decide +kernel
theorem dX4_init_20 : decode cX4_init 20 = .ok (.getfield 9, 3) := by decide +kernel
theorem dX4_init_23 : decode cX4_init 23 = .ok (.iload_n 3, 1) := by decide +kernel
theorem dX4_init_24 : decode cX4_init 24 = .ok (.new 7, 3) := by decide +kernel
theorem dX4_init_27 : decode cX4_init 27 = .ok (.dup, 1) := by decide +kernel
theorem dX4_init_28 : decode cX4_init 28 = .ok (.iload_n 2, 1) := by decide +kernel
theorem dX4_init_29 : decode cX4_init 29 = .ok (.invokespecial 15, 3) := by decide +kernel
theorem dX4_init_32 : decode cX4_init 32 = .ok (.aastore, 1) := by decide +kernel
theorem dX4_init_33 : decode cX4_init 33 = .ok (.iinc 3 1, 3) := by decide +kernel
theorem dX4_init_36 : decode cX4_init 36 = .ok (.goto (-22), 3) := by decide +kernel
theorem dX4_init_39 : decode cX4_init 39 = .ok (.return_, 1) := by decide +kernel
theorem dX4_full_0 : decode cX4_full 0 = .ok (.aload_n 0, 1) := by decide +kernel
theorem dX4_full_1 : decode cX4_full 1 = .ok (.getfield 18, 3) := by decide +kernel
theorem dX4_full_4 : decode cX4_full 4 = .ok (.ireturn, 1) := by decide +kernel
theorem dX4_takeOver_0 : decode cX4_takeOver 0 = .ok (.aload_n 0, 1) := by decide +kernel
theorem dX4_takeOver_1 : decode cX4_takeOver 1 = .ok (.getfield 18, 3) := by decide +kernel
theorem dX4_takeOver_4 : decode cX4_takeOver 4 = .ok (.aload_n 0, 1) := by decide +kernel
theorem dX4_takeOver_5 : decode cX4_takeOver 5 = .ok (.getfield 9, 3) := by decide +kernel
theorem dX4_takeOver_8 : decode cX4_takeOver 8 = .ok (.arraylength, 1) := by decide +kernel
theorem dX4_takeOver_9 : decode cX4_takeOver 9 = .ok (.if_icmp .lt 5, 3) := by decide +kernel
theorem dX4_takeOver_12 : decode cX4_takeOver 12 = .ok (.iconst 0, 1) := by decide +kernel
theorem dX4_takeOver_13 : decode cX4_takeOver 13 = .ok (.ireturn, 1) := by decide +kernel
theorem dX4_takeOver_14 : decode cX4_takeOver 14 = .ok (.aload_n 1, 1) := by decide +kernel
theorem dX4_takeOver_15 : decode cX4_takeOver 15 = .ok (.aload_n 0, 1) := by decide +kernel
theorem dX4_takeOver_16 : decode cX4_takeOver 16 = .ok (.getfield 9, 3) := by decide +kernel
theorem dX4_takeOver_19 : decode cX4_takeOver 19 = .ok (.aload_n 0, 1) := by decide +kernel
theorem dX4_takeOver_20 : decode cX4_takeOver 20 = .ok (.getfield 22, 3) := by decide +kernel
theorem dX4_takeOver_23 : decode cX4_takeOver 23 = .ok (.aload_n 0, 1) := by decide +kernel
theorem dX4_takeOver_24 : decode cX4_takeOver 24 = .ok (.getfield 18, 3) := by decide +kernel
theorem dX4_takeOver_27 : decode cX4_takeOver 27 = .ok (.iadd, 1) := by decide +kernel
theorem dX4_takeOver_28 : decode cX4_takeOver 28 = .ok (.aload_n 0, 1) := by decide +kernel
theorem dX4_takeOver_29 : decode cX4_takeOver 29 = .ok (.getfield 9, 3) := by decide +kernel
theorem dX4_takeOver_32 : decode cX4_takeOver 32 = .ok (.arraylength, 1) := by decide +kernel
theorem dX4_takeOver_33 : decode cX4_takeOver 33 = .ok (.irem, 1) := by decide +kernel
theorem dX4_takeOver_34 : decode cX4_takeOver 34 = .ok (.aaload, 1) := by decide +kernel
theorem dX4_takeOver_35 : decode cX4_takeOver 35 = .ok (.invokevirtual 25, 3) := by decide +kernel
theorem dX4_takeOver_38 : decode cX4_takeOver 38 = .ok (.aload_n 0, 1) := by decide +kernel
theorem dX4_takeOver_39 : decode cX4_takeOver 39 = .ok (.dup, 1) := by decide +kernel
theorem dX4_takeOver_40 : decode cX4_takeOver 40 = .ok (.getfield 18, 3) := by decide +kernel
theorem dX4_takeOver_43 : decode cX4_takeOver 43 = .ok (.iconst 1, 1) := by decide +kernel
theorem dX4_takeOver_44 : decode cX4_takeOver 44 = .ok (.iadd, 1) := by decide +kernel
theorem dX4_takeOver_45 : decode cX4_takeOver 45 = .ok (.putfield 18, 3) := by decide +kernel
theorem dX4_takeOver_48 : decode cX4_takeOver 48 = .ok (.iconst 1, 1) := by decide +kernel
theorem dX4_takeOver_49 : decode cX4_takeOver 49 = .ok (.ireturn, 1) := by decide +kernel
theorem dX4_moveFirstTo_0 : decode cX4_moveFirstTo 0 = .ok (.aload_n 0, 1) := by decide +kernel
theorem dX4_moveFirstTo_1 : decode cX4_moveFirstTo 1 = .ok (.getfield 18, 3) := by decide +kernel
theorem dX4_moveFirstTo_4 : decode cX4_moveFirstTo 4 = .ok (.ifCond .gt 5, 3) := by decide +kernel
theorem dX4_moveFirstTo_7 : decode cX4_moveFirstTo 7 = .ok (.iconst 0, 1) := by decide +kernel
theorem dX4_moveFirstTo_8 : decode cX4_moveFirstTo 8 = .ok (.ireturn, 1) := by decide +kernel
theorem dX4_moveFirstTo_9 : decode cX4_moveFirstTo 9 = .ok (.aload_n 0, 1) := by decide +kernel
theorem dX4_moveFirstTo_10 : decode cX4_moveFirstTo 10 = .ok (.getfield 9, 3) := by decide +kernel
theorem dX4_moveFirstTo_13 : decode cX4_moveFirstTo 13 = .ok (.aload_n 0, 1) := by decide +kernel
theorem dX4_moveFirstTo_14 : decode cX4_moveFirstTo 14 = .ok (.getfield 22, 3) := by decide +kernel
theorem dX4_moveFirstTo_17 : decode cX4_moveFirstTo 17 = .ok (.aaload, 1) := by decide +kernel
theorem dX4_moveFirstTo_18 : decode cX4_moveFirstTo 18 = .ok (.invokevirtual 29, 3) := by decide +kernel
theorem dX4_moveFirstTo_21 : decode cX4_moveFirstTo 21 = .ok (.istore_n 2, 1) := by decide +kernel
theorem dX4_moveFirstTo_22 : decode cX4_moveFirstTo 22 = .ok (.aload_n 0, 1) := by decide +kernel
theorem dX4_moveFirstTo_23 : decode cX4_moveFirstTo 23 = .ok (.getfield 9, 3) := by decide +kernel
theorem dX4_moveFirstTo_26 : decode cX4_moveFirstTo 26 = .ok (.aload_n 0, 1) := by decide +kernel
theorem dX4_moveFirstTo_27 : decode cX4_moveFirstTo 27 = .ok (.getfield 22, 3) := by decide +kernel
theorem dX4_moveFirstTo_30 : decode cX4_moveFirstTo 30 = .ok (.aaload, 1) := by decide +kernel
theorem dX4_moveFirstTo_31 : decode cX4_moveFirstTo 31 = .ok (.aload_n 1, 1) := by decide +kernel
theorem dX4_moveFirstTo_32 : decode cX4_moveFirstTo 32 = .ok (.invokevirtual 25, 3) := by decide +kernel
theorem dX4_moveFirstTo_35 : decode cX4_moveFirstTo 35 = .ok (.aload_n 0, 1) := by decide +kernel
theorem dX4_moveFirstTo_36 : decode cX4_moveFirstTo 36 = .ok (.aload_n 0, 1) := by decide +kernel
theorem dX4_moveFirstTo_37 : decode cX4_moveFirstTo 37 = .ok (.getfield 22, 3) := by decide +kernel
theorem dX4_moveFirstTo_40 : decode cX4_moveFirstTo 40 = .ok (.iconst 1, 1) := by decide +kernel
theorem dX4_moveFirstTo_41 : decode cX4_moveFirstTo 41 = .ok (.iadd, 1) := by decide +kernel
theorem dX4_moveFirstTo_42 : decode cX4_moveFirstTo 42 = .ok (.aload_n 0, 1) := by decide +kernel
theorem dX4_moveFirstTo_43 : decode cX4_moveFirstTo 43 = .ok (.getfield 9, 3) := by decide +kernel
theorem dX4_moveFirstTo_46 : decode cX4_moveFirstTo 46 = .ok (.arraylength, 1) := by decide +kernel
theorem dX4_moveFirstTo_47 : decode cX4_moveFirstTo 47 = .ok (.irem, 1) := by decide +kernel
theorem dX4_moveFirstTo_48 : decode cX4_moveFirstTo 48 = .ok (.putfield 22, 3) := by decide +kernel
theorem dX4_moveFirstTo_51 : decode cX4_moveFirstTo 51 = .ok (.aload_n 0, 1) := by decide +kernel
theorem dX4_moveFirstTo_52 : decode cX4_moveFirstTo 52 = .ok (.dup, 1) := by decide +kernel
theorem dX4_moveFirstTo_53 : decode cX4_moveFirstTo 53 = .ok (.getfield 18, 3) := by decide +kernel
theorem dX4_moveFirstTo_56 : decode cX4_moveFirstTo 56 = .ok (.iconst 1, 1) := by decide +kernel
theorem dX4_moveFirstTo_57 : decode cX4_moveFirstTo 57 = .ok (.isub, 1) := by decide +kernel
theorem dX4_moveFirstTo_58 : decode cX4_moveFirstTo 58 = .ok (.putfield 18, 3) := by decide +kernel
theorem dX4_moveFirstTo_61 : decode cX4_moveFirstTo 61 = .ok (.iload_n 2, 1) := by decide +kernel
theorem dX4_moveFirstTo_62 : decode cX4_moveFirstTo 62 = .ok (.ireturn, 1) := by decide +kernel
theorem dX5_init_0 : decode cX5_init 0 = .ok (.aload_n 0, 1) := by decide +kernel
theorem dX5_init_1 : decode cX5_init 1 = .ok (.invokespecial 3, 3) := by decide +kernel
theorem dX5_init_4 : decode cX5_init 4 = .ok (.aload_n 0, 1) := by decide +kernel
theorem dX5_init_5 : decode cX5_init 5 = .ok (.bipush 6, 2) := by decide +kernel
theorem dX5_init_7 : decode cX5_init 7 = .ok (.newarray .boolean, 2) := by decide +kernel
theorem dX5_init_9 : decode cX5_init 9 = .ok (.putfield 9, 3) := by decide +kernel
theorem dX5_init_12 : decode cX5_init 12 = .ok (.aload_n 0, 1) := by decide +kernel
theorem dX5_init_13 : decode cX5_init 13 = .ok (.bipush 6, 2) := by decide +kernel
theorem dX5_init_15 : decode cX5_init 15 = .ok (.newarray .int, 2) := by decide +kernel
theorem dX5_init_17 : decode cX5_init 17 = .ok (.putfield 15, 3) := by decide +kernel
theorem dX5_init_20 : decode cX5_init 20 = .ok (.aload_n 0, 1) := by decide +kernel
theorem dX5_init_21 : decode cX5_init 21 = .ok (.iconst 0, 1) := by decide +kernel
theorem dX5_init_22 : decode cX5_init 22 = .ok (.putfield 19, 3) := by decide +kernel
theorem dX5_init_25 : decode cX5_init 25 = .ok (.aload_n 0, 1) := by decide +kernel
theorem dX5_init_26 : decode cX5_init 26 = .ok (.ldc 25, 2) := by decide +kernel
theorem dX5_init_28 : decode cX5_init 28 = .ok (.putfield 26, 3) := by decide +kernel
theorem dX5_init_31 : decode cX5_init 31 = .ok (.return_, 1) := by decide +kernel
theorem dX5_phase_0 : decode cX5_phase 0 = .ok (.aload_n 0, 1) := by decide +kernel
theorem dX5_phase_1 : decode cX5_phase 1 = .ok (.getfield 19, 3) := by decide +kernel
theorem dX5_phase_4 : decode cX5_phase 4 = .ok (.ireturn, 1) := by decide +kernel
theorem dX5_is_0 : decode cX5_is 0 = .ok (.aload_n 0, 1) := by decide +kernel
theorem dX5_is_1 : decode cX5_is 1 = .ok (.getfield 19, 3) := by decide +kernel
theorem dX5_is_4 : decode cX5_is 4 = .ok (.iload_n 1, 1) := by decide +kernel
theorem dX5_is_5 : decode cX5_is 5 = .ok (.if_icmp .ne 7, 3) := by decide +kernel
theorem dX5_is_8 : decode cX5_is 8 = .ok (.iconst 1, 1) := by decide +kernel
theorem dX5_is_9 : decode cX5_is 9 = .ok (.goto 4, 3) := by decide +kernel
theorem dX5_is_12 : decode cX5_is 12 = .ok (.iconst 0, 1) := by decide +kernel
theorem dX5_is_13 : decode cX5_is 13 = .ok (.ireturn, 1) := by decide +kernel
theorem dX5_runFrom_0 : decode cX5_runFrom 0 = .ok (.aload_n 0, 1) := by decide +kernel
theorem dX5_runFrom_1 : decode cX5_runFrom 1 = .ok (.iconst 1, 1) := by decide +kernel
theorem dX5_runFrom_2 : decode cX5_runFrom 2 = .ok (.putfield 19, 3) := by decide +kernel
theorem dX5_runFrom_5 : decode cX5_runFrom 5 = .ok (.aload_n 0, 1) := by decide +kernel
theorem dX5_runFrom_6 : decode cX5_runFrom 6 = .ok (.iload_n 1, 1) := by decide +kernel
theorem dX5_runFrom_7 : decode cX5_runFrom 7 = .ok (.putfield 29, 3) := by decide +kernel
theorem dX5_runFrom_10 : decode cX5_runFrom 10 = .ok (.return_, 1) := by decide +kernel
theorem dX5_endWith_0 : decode cX5_endWith 0 = .ok (.aload_n 0, 1) := by decide +kernel
theorem dX5_endWith_1 : decode cX5_endWith 1 = .ok (.iconst 2, 1) := by decide +kernel
theorem dX5_endWith_2 : decode cX5_endWith 2 = .ok (.putfield 19, 3) := by decide +kernel
theorem dX5_endWith_5 : decode cX5_endWith 5 = .ok (.aload_n 0, 1) := by decide +kernel
theorem dX5_endWith_6 : decode cX5_endWith 6 = .ok (.iload_n 1, 1) := by decide +kernel
theorem dX5_endWith_7 : decode cX5_endWith 7 = .ok (.putfield 26, 3) := by decide +kernel
theorem dX5_endWith_10 : decode cX5_endWith 10 = .ok (.return_, 1) := by decide +kernel
theorem dX5_shut_0 : decode cX5_shut 0 = .ok (.aload_n 0, 1) := by decide +kernel
theorem dX5_shut_1 : decode cX5_shut 1 = .ok (.iconst 3, 1) := by decide +kernel
theorem dX5_shut_2 : decode cX5_shut 2 = .ok (.putfield 19, 3) := by decide +kernel
theorem dX5_shut_5 : decode cX5_shut 5 = .ok (.return_, 1) := by decide +kernel
theorem dX5_firstChunk_0 : decode cX5_firstChunk 0 = .ok (.aload_n 0, 1) := by decide +kernel
theorem dX5_firstChunk_1 : decode cX5_firstChunk 1 = .ok (.getfield 29, 3) := by decide +kernel
theorem dX5_firstChunk_4 : decode cX5_firstChunk 4 = .ok (.ireturn, 1) := by decide +kernel
theorem dX5_lastChunk_0 : decode cX5_lastChunk 0 = .ok (.aload_n 0, 1) := by decide +kernel
theorem dX5_lastChunk_1 : decode cX5_lastChunk 1 = .ok (.getfield 26, 3) := by decide +kernel
theorem dX5_lastChunk_4 : decode cX5_lastChunk 4 = .ok (.ireturn, 1) := by decide +kernel
theorem dX5_isOn_0 : decode cX5_isOn 0 = .ok (.iload_n 1, 1) := by decide +kernel
theorem dX5_isOn_1 : decode cX5_isOn 1 = .ok (.ifCond .lt 22, 3) := by decide +kernel
theorem dX5_isOn_4 : decode cX5_isOn 4 = .ok (.iload_n 1, 1) := by decide +kernel
theorem dX5_isOn_5 : decode cX5_isOn 5 = .ok (.bipush 6, 2) := by decide +kernel
theorem dX5_isOn_7 : decode cX5_isOn 7 = .ok (.if_icmp .ge 16, 3) := by decide +kernel
theorem dX5_isOn_10 : decode cX5_isOn 10 = .ok (.aload_n 0, 1) := by decide +kernel
theorem dX5_isOn_11 : decode cX5_isOn 11 = .ok (.getfield 9, 3) := by decide +kernel
theorem dX5_isOn_14 : decode cX5_isOn 14 = .ok (.iload_n 1, 1) := by decide +kernel
theorem dX5_isOn_15 : decode cX5_isOn 15 = .ok (.baload, 1) := by decide +kernel
theorem dX5_isOn_16 : decode cX5_isOn 16 = .ok (.ifCond .ne 7, 3) := by decide +kernel
theorem dX5_isOn_19 : decode cX5_isOn 19 = .ok (.iconst 1, 1) := by decide +kernel
theorem dX5_isOn_20 : decode cX5_isOn 20 = .ok (.goto 4, 3) := by decide +kernel
theorem dX5_isOn_23 : decode cX5_isOn 23 = .ok (.iconst 0, 1) := by decide +kernel
theorem dX5_isOn_24 : decode cX5_isOn 24 = .ok (.ireturn, 1) := by decide +kernel
theorem dX5_turn_0 : decode cX5_turn 0 = .ok (.iload_n 1, 1) := by decide +kernel
theorem dX5_turn_1 : decode cX5_turn 1 = .ok (.ifCond .lt 24, 3) := by decide +kernel
theorem dX5_turn_4 : decode cX5_turn 4 = .ok (.iload_n 1, 1) := by decide +kernel
theorem dX5_turn_5 : decode cX5_turn 5 = .ok (.bipush 6, 2) := by decide +kernel
theorem dX5_turn_7 : decode cX5_turn 7 = .ok (.if_icmp .ge 18, 3) := by decide +kernel
theorem dX5_turn_10 : decode cX5_turn 10 = .ok (.aload_n 0, 1) := by decide +kernel
theorem dX5_turn_11 : decode cX5_turn 11 = .ok (.getfield 9, 3) := by decide +kernel
theorem dX5_turn_14 : decode cX5_turn 14 = .ok (.iload_n 1, 1) := by decide +kernel
theorem dX5_turn_15 : decode cX5_turn 15 = .ok (.iload_n 2, 1) := by decide +kernel
theorem dX5_turn_16 : decode cX5_turn 16 = .ok (.ifCond .ne 7, 3) := by decide +kernel
theorem dX5_turn_19 : decode cX5_turn 19 = .ok (.iconst 1, 1) := by decide +kernel
theorem dX5_turn_20 : decode cX5_turn 20 = .ok (.goto 4, 3) := by decide +kernel
theorem dX5_turn_23 : decode cX5_turn 23 = .ok (.iconst 0, 1) := by decide +kernel
theorem dX5_turn_24 : decode cX5_turn 24 = .ok (.bastore, 1) := by decide +kernel
theorem dX5_turn_25 : decode cX5_turn 25 = .ok (.return_, 1) := by decide +kernel
