theorem dX8_init_0 : decode cX8_init 0 = .ok (.aload_n 0, 1) := by decide +kernel
theorem dX8_init_1 : decode cX8_init 1 = .ok (.invokespecial 3, 3) := by decide +kernel
theorem dX8_init_4 : decode cX8_init 4 = .ok (.aload_n 0, 1) := by decide +kernel
theorem dX8_init_5 : decode cX8_init 5 = .ok (.bipush 16, 2) := by decide +kernel
theorem dX8_init_7 : decode cX8_init 7 = .ok (.iload_n 1, 1) := by decide +kernel
theorem dX8_init_8 : decode cX8_init 8 = .ok (.bipush 60, 2) := by decide +kernel
theorem dX8_init_10 : decode cX8_init 10 = .ok (.invokestatic 9, 3) := by decide +kernel
theorem dX8_init_13 : decode cX8_init 13 = .ok (.invokestatic 15, 3) := by decide +kernel
theorem dX8_init_16 : decode cX8_init 16 = .ok (.putfield 18, 3) := by decide +kernel
theorem dX8_init_19 : decode cX8_init 19 = .ok (.iconst 0, 1) := by decide +kernel
theorem dX8_init_20 : decode cX8_init 20 = .ok (.iload_n 2, 1) := by decide +kernel
theorem dX8_init_21 : decode cX8_init 21 = .ok (.iconst 4, 1) := by decide +kernel
theorem dX8_init_22 : decode cX8_init 22 = .ok (.invokestatic 9, 3) := by decide +kernel
theorem dX8_init_25 : decode cX8_init 25 = .ok (.invokestatic 15, 3) := by decide +kernel
theorem dX8_init_28 : decode cX8_init 28 = .ok (.istore 4, 2) := by decide +kernel
theorem dX8_init_30 : decode cX8_init 30 = .ok (.iconst 1, 1) := by decide +kernel
theorem dX8_init_31 : decode cX8_init 31 = .ok (.iload_n 3, 1) := by decide +kernel
theorem dX8_init_32 : decode cX8_init 32 = .ok (.iconst 5, 1) := by decide +kernel
theorem dX8_init_33 : decode cX8_init 33 = .ok (.invokestatic 9, 3) := by decide +kernel
theorem dX8_init_36 : decode cX8_init 36 = .ok (.invokestatic 15, 3) := by decide +kernel
theorem dX8_init_39 : decode cX8_init 39 = .ok (.istore 5, 2) := by decide +kernel
theorem dX8_init_41 : decode cX8_init 41 = .ok (.sipush 150, 3) := by decide +kernel
theorem dX8_init_44 : decode cX8_init 44 = .ok (.iload 4, 2) := by decide +kernel
theorem dX8_init_46 : decode cX8_init 46 = .ok (.iconst 3, 1) := by decide +kernel
theorem dX8_init_47 : decode cX8_init 47 = .ok (.iadd, 1) := by decide +kernel
theorem dX8_init_48 : decode cX8_init 48 = .ok (.aload_n 0, 1) := by decide +kernel
theorem dX8_init_49 : decode cX8_init 49 = .ok (.getfield 18, 3) := by decide +kernel
theorem dX8_init_52 : decode cX8_init 52 = .ok (.imul, 1) := by decide +kernel
theorem dX8_init_53 : decode cX8_init 53 = .ok (.iadd, 1) := by decide +kernel
theorem dX8_init_54 : decode cX8_init 54 = .ok (.bipush 24, 2) := by decide +kernel
theorem dX8_init_56 : decode cX8_init 56 = .ok (.iadd, 1) := by decide +kernel
theorem dX8_init_57 : decode cX8_init 57 = .ok (.istore 6, 2) := by decide +kernel
theorem dX8_init_59 : decode cX8_init 59 = .ok (.aload_n 0, 1) := by decide +kernel
theorem dX8_init_60 : decode cX8_init 60 = .ok (.new 22, 3) := by decide +kernel
theorem dX8_init_63 : decode cX8_init 63 = .ok (.dup, 1) := by decide +kernel
theorem dX8_init_64 : decode cX8_init 64 = .ok (.invokespecial 24, 3) := by decide +kernel
theorem dX8_init_67 : decode cX8_init 67 = .ok (.putfield 25, 3) := by decide +kernel
theorem dX8_init_70 : decode cX8_init 70 = .ok (.aload_n 0, 1) := by decide +kernel
theorem dX8_init_71 : decode cX8_init 71 = .ok (.new 29, 3) := by decide +kernel
theorem dX8_init_74 : decode cX8_init 74 = .ok (.dup, 1) := by decide +kernel
theorem dX8_init_75 : decode cX8_init 75 = .ok (.invokespecial 31, 3) := by decide +kernel
theorem dX8_init_78 : decode cX8_init 78 = .ok (.putfield 32, 3) := by decide +kernel
theorem dX8_init_81 : decode cX8_init 81 = .ok (.aload_n 0, 1) := by decide +kernel
theorem dX8_init_82 : decode cX8_init 82 = .ok (.iconst 3, 1) := by decide +kernel
theorem dX8_init_83 : decode cX8_init 83 = .ok (.anewarray 36, 3) := by decide +kernel
theorem dX8_init_86 : decode cX8_init 86 = .ok (.putfield 38, 3) := by decide +kernel
theorem dX8_init_89 : decode cX8_init 89 = .ok (.iconst 0, 1) := by decide +kernel
theorem dX8_init_90 : decode cX8_init 90 = .ok (.istore 7, 2) := by decide +kernel
theorem dX8_init_92 : decode cX8_init 92 = .ok (.iload 7, 2) := by decide +kernel
theorem dX8_init_94 : decode cX8_init 94 = .ok (.iconst 3, 1) := by decide +kernel
theorem dX8_init_95 : decode cX8_init 95 = .ok (.if_icmp .ge 27, 3) := by decide +kernel
theorem dX8_init_98 : decode cX8_init 98 = .ok (.aload_n 0, 1) := by decide +kernel
theorem dX8_init_99 : decode cX8_init 99 = .ok (.getfield 38, 3) := by decide +kernel
theorem dX8_init_102 : decode cX8_init 102 = .ok (.iload 7, 2) := by decide +kernel
theorem dX8_init_104 : decode cX8_init 104 = .ok (.new 36, 3) := by decide +kernel
theorem dX8_init_107 : decode cX8_init 107 = .ok (.dup, 1) := by decide +kernel
theorem dX8_init_108 : decode cX8_init 108 = .ok (.aload_n 0, 1) := by decide +kernel
theorem dX8_init_109 : decode cX8_init 109 = .ok (.getfield 18, 3) := by decide +kernel
theorem dX8_init_112 : decode cX8_init 112 = .ok (.invokespecial 42, 3) := by decide +kernel
theorem dX8_init_115 : decode cX8_init 115 = .ok (.aastore, 1) := by decide +kernel
theorem dX8_init_116 : decode cX8_init 116 = .ok (.iinc 7 1, 3) := by decide +kernel
theorem dX8_init_119 : decode cX8_init 119 = .ok (.goto (-27), 3) := by decide +kernel
theorem dX8_init_122 : decode cX8_init 122 = .ok (.aload_n 0, 1) := by decide +kernel
theorem dX8_init_123 : decode cX8_init 123 = .ok (.bipush 6, 2) := by decide +kernel
theorem dX8_init_125 : decode cX8_init 125 = .ok (.newarray .int, 2) := by decide +kernel
theorem dX8_init_127 : decode cX8_init 127 = .ok (.putfield 45, 3) := by decide +kernel
theorem dX8_init_130 : decode cX8_init 130 = .ok (.aload_n 0, 1) := by decide +kernel
theorem dX8_init_131 : decode cX8_init 131 = .ok (.bipush 6, 2) := by decide +kernel
theorem dX8_init_133 : decode cX8_init 133 = .ok (.newarray .boolean, 2) := by decide +kernel
theorem dX8_init_135 : decode cX8_init 135 = .ok (.putfield 49, 3) := by decide +kernel
theorem dX8_init_138 : decode cX8_init 138 = .ok (.aload_n 0, 1) := by decide +kernel
theorem dX8_init_139 : decode cX8_init 139 = .ok (.iconst 4, 1) := by decide +kernel
theorem dX8_init_140 : decode cX8_init 140 = .ok (.anewarray 53, 3) := by decide +kernel
theorem dX8_init_143 : decode cX8_init 143 = .ok (.putfield 55, 3) := by decide +kernel
theorem dX8_init_146 : decode cX8_init 146 = .ok (.iconst 0, 1) := by decide +kernel
theorem dX8_init_147 : decode cX8_init 147 = .ok (.istore 7, 2) := by decide +kernel
theorem dX8_init_149 : decode cX8_init 149 = .ok (.iload 7, 2) := by decide +kernel
theorem dX8_init_151 : decode cX8_init 151 = .ok (.iconst 4, 1) := by decide +kernel
theorem dX8_init_152 : decode cX8_init 152 = .ok (.if_icmp .ge 23, 3) := by decide +kernel
theorem dX8_init_155 : decode cX8_init 155 = .ok (.aload_n 0, 1) := by decide +kernel
theorem dX8_init_156 : decode cX8_init 156 = .ok (.getfield 55, 3) := by decide +kernel
theorem dX8_init_159 : decode cX8_init 159 = .ok (.iload 7, 2) := by decide +kernel
theorem dX8_init_161 : decode cX8_init 161 = .ok (.new 53, 3) := by decide +kernel
theorem dX8_init_164 : decode cX8_init 164 = .ok (.dup, 1) := by decide +kernel
theorem dX8_init_165 : decode cX8_init 165 = .ok (.invokespecial 59, 3) := by decide +kernel
theorem dX8_init_168 : decode cX8_init 168 = .ok (.aastore, 1) := by decide +kernel
theorem dX8_init_169 : decode cX8_init 169 = .ok (.iinc 7 1, 3) := by decide +kernel
theorem dX8_init_172 : decode cX8_init 172 = .ok (.goto (-23), 3) := by decide +kernel
theorem dX8_init_175 : decode cX8_init 175 = .ok (.aload_n 0, 1) := by decide +kernel
theorem dX8_init_176 : decode cX8_init 176 = .ok (.new 60, 3) := by decide +kernel
theorem dX8_init_179 : decode cX8_init 179 = .ok (.dup, 1) := by decide +kernel
theorem dX8_init_180 : decode cX8_init 180 = .ok (.iload 4, 2) := by decide +kernel
theorem dX8_init_182 : decode cX8_init 182 = .ok (.aload_n 0, 1) := by decide +kernel
theorem dX8_init_183 : decode cX8_init 183 = .ok (.getfield 18, 3) := by decide +kernel
theorem dX8_init_186 : decode cX8_init 186 = .ok (.invokespecial 62, 3) := by decide +kernel
theorem dX8_init_189 : decode cX8_init 189 = .ok (.putfield 65, 3) := by decide +kernel
theorem dX8_init_192 : decode cX8_init 192 = .ok (.aload_n 0, 1) := by decide +kernel
theorem dX8_init_193 : decode cX8_init 193 = .ok (.new 69, 3) := by decide +kernel
theorem dX8_init_196 : decode cX8_init 196 = .ok (.dup, 1) := by decide +kernel
theorem dX8_init_197 : decode cX8_init 197 = .ok (.iload 5, 2) := by decide +kernel
theorem dX8_init_199 : decode cX8_init 199 = .ok (.iload 6, 2) := by decide +kernel
theorem dX8_init_201 : decode cX8_init 201 = .ok (.invokespecial 71, 3) := by decide +kernel
theorem dX8_init_204 : decode cX8_init 204 = .ok (.putfield 72, 3) := by decide +kernel
theorem dX8_init_207 : decode cX8_init 207 = .ok (.aload_n 0, 1) := by decide +kernel
theorem dX8_init_208 : decode cX8_init 208 = .ok (.new 76, 3) := by decide +kernel
theorem dX8_init_211 : decode cX8_init 211 = .ok (.dup, 1) := by decide +kernel
theorem dX8_init_212 : decode cX8_init 212 = .ok (.bipush 27, 2) := by decide +kernel
theorem dX8_init_214 : decode cX8_init 214 = .ok (.invokespecial 78, 3) := by decide +kernel
theorem dX8_init_217 : decode cX8_init 217 = .ok (.putfield 79, 3) := by decide +kernel
theorem dX8_init_220 : decode cX8_init 220 = .ok (.aload_n 0, 1) := by decide +kernel
theorem dX8_init_221 : decode cX8_init 221 = .ok (.new 76, 3) := by decide +kernel
theorem dX8_init_224 : decode cX8_init 224 = .ok (.dup, 1) := by decide +kernel
theorem dX8_init_225 : decode cX8_init 225 = .ok (.iload 5, 2) := by decide +kernel
theorem dX8_init_227 : decode cX8_init 227 = .ok (.iload 6, 2) := by decide +kernel
theorem dX8_init_229 : decode cX8_init 229 = .ok (.sipush 258, 3) := by decide +kernel
theorem dX8_init_232 : decode cX8_init 232 = .ok (.iadd, 1) := by decide +kernel
theorem dX8_init_233 : decode cX8_init 233 = .ok (.imul, 1) := by decide +kernel
theorem dX8_init_234 : decode cX8_init 234 = .ok (.invokespecial 78, 3) := by decide +kernel
theorem dX8_init_237 : decode cX8_init 237 = .ok (.putfield 83, 3) := by decide +kernel
theorem dX8_init_240 : decode cX8_init 240 = .ok (.return_, 1) := by decide +kernel
theorem dX8_write_0 : decode cX8_write 0 = .ok (.aload_n 0, 1) := by decide +kernel
theorem dX8_write_1 : decode cX8_write 1 = .ok (.getfield 25, 3) := by decide +kernel
theorem dX8_write_4 : decode cX8_write 4 = .ok (.iload_n 1, 1) := by decide +kernel
theorem dX8_write_5 : decode cX8_write 5 = .ok (.invokevirtual 86, 3) := by decide +kernel
theorem dX8_write_8 : decode cX8_write 8 = .ok (.ireturn, 1) := by decide +kernel
theorem dX8_advance_0 : decode cX8_advance 0 = .ok (.iload_n 1, 1) := by decide +kernel
theorem dX8_advance_1 : decode cX8_advance 1 = .ok (.ifCond .lt 20, 3) := by decide +kernel
theorem dX8_advance_4 : decode cX8_advance 4 = .ok (.iload_n 1, 1) := by decide +kernel
theorem dX8_advance_5 : decode cX8_advance 5 = .ok (.sipush 1000, 3) := by decide +kernel
theorem dX8_advance_8 : decode cX8_advance 8 = .ok (.if_icmp .gt 13, 3) := by decide +kernel
theorem dX8_advance_11 : decode cX8_advance 11 = .ok (.aload_n 0, 1) := by decide +kernel
theorem dX8_advance_12 : decode cX8_advance 12 = .ok (.dup, 1) := by decide +kernel
theorem dX8_advance_13 : decode cX8_advance 13 = .ok (.getfield 90, 3) := by decide +kernel
theorem dX8_advance_16 : decode cX8_advance 16 = .ok (.iload_n 1, 1) := by decide +kernel
theorem dX8_advance_17 : decode cX8_advance 17 = .ok (.iadd, 1) := by decide +kernel
theorem dX8_advance_18 : decode cX8_advance 18 = .ok (.putfield 90, 3) := by decide +kernel
theorem dX8_advance_21 : decode cX8_advance 21 = .ok (.aload_n 0, 1) := by decide +kernel
theorem dX8_advance_22 : decode cX8_advance 22 = .ok (.getfield 90, 3) := by decide +kernel
theorem dX8_advance_25 : decode cX8_advance 25 = .ok (.ireturn, 1) := by decide +kernel
theorem dX8_type_0 : decode cX8_type 0 = .ok (.iload_n 1, 1) := by decide +kernel
theorem dX8_type_1 : decode cX8_type 1 = .ok (.ifCond .lt 8, 3) := by decide +kernel
theorem dX8_type_4 : decode cX8_type 4 = .ok (.iload_n 1, 1) := by decide +kernel
theorem dX8_type_5 : decode cX8_type 5 = .ok (.iconst 3, 1) := by decide +kernel
theorem dX8_type_6 : decode cX8_type 6 = .ok (.if_icmp .le 13, 3) := by decide +kernel
theorem dX8_type_9 : decode cX8_type 9 = .ok (.new 93, 3) := by decide +kernel
theorem dX8_type_12 : decode cX8_type 12 = .ok (.dup, 1) := by decide +kernel
theorem dX8_type_13 : decode cX8_type 13 = .ok (.ldc 95, 2) := by decide +kernel
theorem dX8_type_15 : decode cX8_type 15 = .ok (.invokespecial 97, 3) := by decide +kernel
theorem dX8_type_18 : decode cX8_type 18 = .ok (.athrow, 1) := by decide +kernel
theorem dX8_type_19 : decode cX8_type 19 = .ok (.aload_n 0, 1) := by decide +kernel
theorem dX8_type_20 : decode cX8_type 20 = .ok (.getfield 100, 3) := by decide +kernel
theorem dX8_type_23 : decode cX8_type 23 = .ok (.bipush 6, 2) := by decide +kernel
theorem dX8_type_25 : decode cX8_type 25 = .ok (.if_icmp .lt 13, 3) := by decide +kernel
theorem dX8_type_28 : decode cX8_type 28 = .ok (.new 103, 3) := by decide +kernel
theorem dX8_type_31 : decode cX8_type 31 = .ok (.dup, 1) := by decide +kernel
theorem dX8_type_32 : decode cX8_type 32 = .ok (.ldc 105, 2) := by decide +kernel
theorem dX8_type_34 : decode cX8_type 34 = .ok (.invokespecial 107, 3) := by decide +kernel
theorem dX8_type_37 : decode cX8_type 37 = .ok (.athrow, 1) := by decide +kernel
theorem dX8_type_38 : decode cX8_type 38 = .ok (.aload_n 0, 1) := by decide +kernel
theorem dX8_type_39 : decode cX8_type 39 = .ok (.getfield 45, 3) := by decide +kernel
theorem dX8_type_42 : decode cX8_type 42 = .ok (.aload_n 0, 1) := by decide +kernel
theorem dX8_type_43 : decode cX8_type 43 = .ok (.getfield 100, 3) := by decide +kernel
theorem dX8_type_46 : decode cX8_type 46 = .ok (.iload_n 1, 1) := by decide +kernel
theorem dX8_type_47 : decode cX8_type 47 = .ok (.iastore, 1) := by decide +kernel
theorem dX8_type_48 : decode cX8_type 48 = .ok (.aload_n 0, 1) := by decide +kernel
theorem dX8_type_49 : decode cX8_type 49 = .ok (.getfield 49, 3) := by decide +kernel
theorem dX8_type_52 : decode cX8_type 52 = .ok (.aload_n 0, 1) := by decide +kernel
theorem dX8_type_53 : decode cX8_type 53 = .ok (.getfield 100, 3) := by decide +kernel
theorem dX8_type_56 : decode cX8_type 56 = .ok (.iload_n 2, 1) := by decide +kernel
theorem dX8_type_57 : decode cX8_type 57 = .ok (.bastore, 1) := by decide +kernel
theorem dX8_type_58 : decode cX8_type 58 = .ok (.aload_n 0, 1) := by decide +kernel
theorem dX8_type_59 : decode cX8_type 59 = .ok (.dup, 1) := by decide +kernel
theorem dX8_type_60 : decode cX8_type 60 = .ok (.getfield 100, 3) := by decide +kernel
theorem dX8_type_63 : decode cX8_type 63 = .ok (.iconst 1, 1) := by decide +kernel
theorem dX8_type_64 : decode cX8_type 64 = .ok (.iadd, 1) := by decide +kernel
theorem dX8_type_65 : decode cX8_type 65 = .ok (.putfield 100, 3) := by decide +kernel
theorem dX8_type_68 : decode cX8_type 68 = .ok (.aload_n 0, 1) := by decide +kernel
theorem dX8_type_69 : decode cX8_type 69 = .ok (.getfield 100, 3) := by decide +kernel
theorem dX8_type_72 : decode cX8_type 72 = .ok (.iconst 1, 1) := by decide +kernel
theorem dX8_type_73 : decode cX8_type 73 = .ok (.isub, 1) := by decide +kernel
theorem dX8_type_74 : decode cX8_type 74 = .ok (.ireturn, 1) := by decide +kernel
theorem dX8_begin_0 : decode cX8_begin 0 = .ok (.iload_n 1, 1) := by decide +kernel
theorem dX8_begin_1 : decode cX8_begin 1 = .ok (.invokestatic 108, 3) := by decide +kernel
theorem dX8_begin_4 : decode cX8_begin 4 = .ok (.ifCond .eq 23, 3) := by decide +kernel
theorem dX8_begin_7 : decode cX8_begin 7 = .ok (.aload_n 0, 1) := by decide +kernel
theorem dX8_begin_8 : decode cX8_begin 8 = .ok (.getfield 38, 3) := by decide +kernel
theorem dX8_begin_11 : decode cX8_begin 11 = .ok (.iload_n 1, 1) := by decide +kernel
theorem dX8_begin_12 : decode cX8_begin 12 = .ok (.aaload, 1) := by decide +kernel
theorem dX8_begin_13 : decode cX8_begin 13 = .ok (.aload_n 0, 1) := by decide +kernel
theorem dX8_begin_14 : decode cX8_begin 14 = .ok (.getfield 90, 3) := by decide +kernel
theorem dX8_begin_17 : decode cX8_begin 17 = .ok (.invokevirtual 112, 3) := by decide +kernel
theorem dX8_begin_20 : decode cX8_begin 20 = .ok (.ifCond .eq 7, 3) := by decide +kernel
theorem dX8_begin_23 : decode cX8_begin 23 = .ok (.iconst 1, 1) := by decide +kernel
theorem dX8_begin_24 : decode cX8_begin 24 = .ok (.goto 4, 3) := by decide +kernel
theorem dX8_begin_27 : decode cX8_begin 27 = .ok (.iconst 0, 1) := by decide +kernel
theorem dX8_begin_28 : decode cX8_begin 28 = .ok (.ireturn, 1) := by decide +kernel
theorem dX8_commit_0 : decode cX8_commit 0 = .ok (.iload_n 1, 1) := by decide +kernel
theorem dX8_commit_1 : decode cX8_commit 1 = .ok (.invokestatic 108, 3) := by decide +kernel
theorem dX8_commit_4 : decode cX8_commit 4 = .ok (.ifCond .eq 11, 3) := by decide +kernel
theorem dX8_commit_7 : decode cX8_commit 7 = .ok (.aload_n 0, 1) := by decide +kernel
theorem dX8_commit_8 : decode cX8_commit 8 = .ok (.iload_n 2, 1) := by decide +kernel
theorem dX8_commit_9 : decode cX8_commit 9 = .ok (.invokevirtual 115, 3) := by decide +kernel
theorem dX8_commit_12 : decode cX8_commit 12 = .ok (.ifCond .ne 5, 3) := by decide +kernel
theorem dX8_commit_15 : decode cX8_commit 15 = .ok (.iconst (-1), 1) := by decide +kernel
theorem dX8_commit_16 : decode cX8_commit 16 = .ok (.ireturn, 1) := by decide +kernel
theorem dX8_commit_17 : decode cX8_commit 17 = .ok (.aload_n 0, 1) := by decide +kernel
theorem dX8_commit_18 : decode cX8_commit 18 = .ok (.aload_n 0, 1) := by decide +kernel
theorem dX8_commit_19 : decode cX8_commit 19 = .ok (.getfield 38, 3) := by decide +kernel
theorem dX8_commit_22 : decode cX8_commit 22 = .ok (.iload_n 1, 1) := by decide +kernel
theorem dX8_commit_23 : decode cX8_commit 23 = .ok (.aaload, 1) := by decide +kernel
theorem dX8_commit_24 : decode cX8_commit 24 = .ok (.iload_n 2, 1) := by decide +kernel
theorem dX8_commit_25 : decode cX8_commit 25 = .ok (.iload_n 3, 1) := by decide +kernel
theorem dX8_commit_26 : decode cX8_commit 26 = .ok (.iload 4, 2) := by decide +kernel
theorem dX8_commit_28 : decode cX8_commit 28 = .ok (.iload 5, 2) := by decide +kernel
theorem dX8_commit_30 : decode cX8_commit 30 = .ok (.invokevirtual 118, 3) := by decide +kernel
theorem dX8_commit_33 : decode cX8_commit 33 = .ok (.istore 6, 2) := by decide +kernel
theorem dX8_commit_35 : decode cX8_commit 35 = .ok (.aload_n 0, 1) := by decide +kernel
theorem dX8_commit_36 : decode cX8_commit 36 = .ok (.getfield 49, 3) := by decide +kernel
theorem dX8_commit_39 : decode cX8_commit 39 = .ok (.iload_n 2, 1) := by decide +kernel
theorem dX8_commit_40 : decode cX8_commit 40 = .ok (.baload, 1) := by decide +kernel
theorem dX8_commit_41 : decode cX8_commit 41 = .ok (.ifCond .eq 10, 3) := by decide +kernel
theorem dX8_commit_44 : decode cX8_commit 44 = .ok (.aload_n 0, 1) := by decide +kernel
theorem dX8_commit_45 : decode cX8_commit 45 = .ok (.getfield 25, 3) := by decide +kernel
theorem dX8_commit_48 : decode cX8_commit 48 = .ok (.invokevirtual 122, 3) := by decide +kernel
theorem dX8_commit_51 : decode cX8_commit 51 = .ok (.iload 6, 2) := by decide +kernel
theorem dX8_commit_53 : decode cX8_commit 53 = .ok (.ireturn, 1) := by decide +kernel
theorem dX8_flush_0 : decode cX8_flush 0 = .ok (.aload_n 0, 1) := by decide +kernel
theorem dX8_flush_1 : decode cX8_flush 1 = .ok (.getfield 72, 3) := by decide +kernel
theorem dX8_flush_4 : decode cX8_flush 4 = .ok (.invokevirtual 125, 3) := by decide +kernel
theorem dX8_flush_7 : decode cX8_flush 7 = .ok (.astore_n 1, 1) := by decide +kernel
theorem dX8_flush_8 : decode cX8_flush 8 = .ok (.aload_n 0, 1) := by decide +kernel
theorem dX8_flush_9 : decode cX8_flush 9 = .ok (.getfield 65, 3) := by decide +kernel
theorem dX8_flush_12 : decode cX8_flush 12 = .ok (.aload_n 1, 1) := by decide +kernel
theorem dX8_flush_13 : decode cX8_flush 13 = .ok (.invokevirtual 129, 3) := by decide +kernel
theorem dX8_flush_16 : decode cX8_flush 16 = .ok (.invokevirtual 135, 3) := by decide +kernel
theorem dX8_flush_19 : decode cX8_flush 19 = .ok (.istore_n 2, 1) := by decide +kernel
theorem dX8_flush_20 : decode cX8_flush 20 = .ok (.aload_n 1, 1) := by decide +kernel
theorem dX8_flush_21 : decode cX8_flush 21 = .ok (.invokevirtual 129, 3) := by decide +kernel
theorem dX8_flush_24 : decode cX8_flush 24 = .ok (.invokevirtual 139, 3) := by decide +kernel
theorem dX8_flush_27 : decode cX8_flush 27 = .ok (.sipush 150, 3) := by decide +kernel
theorem dX8_flush_30 : decode cX8_flush 30 = .ok (.if_icmp .le 7, 3) := by decide +kernel
theorem dX8_flush_33 : decode cX8_flush 33 = .ok (.aload_n 0, 1) := by decide +kernel
theorem dX8_flush_34 : decode cX8_flush 34 = .ok (.invokevirtual 143, 3) := by decide +kernel
theorem dX8_flush_37 : decode cX8_flush 37 = .ok (.iload_n 2, 1) := by decide +kernel
theorem dX8_flush_38 : decode cX8_flush 38 = .ok (.ireturn, 1) := by decide +kernel
theorem dX8_record_0 : decode cX8_record 0 = .ok (.aload_n 0, 1) := by decide +kernel
theorem dX8_record_1 : decode cX8_record 1 = .ok (.getfield 146, 3) := by decide +kernel
theorem dX8_record_4 : decode cX8_record 4 = .ok (.iconst 4, 1) := by decide +kernel
theorem dX8_record_5 : decode cX8_record 5 = .ok (.if_icmp .lt 13, 3) := by decide +kernel
theorem dX8_record_8 : decode cX8_record 8 = .ok (.new 103, 3) := by decide +kernel
theorem dX8_record_11 : decode cX8_record 11 = .ok (.dup, 1) := by decide +kernel
theorem dX8_record_12 : decode cX8_record 12 = .ok (.ldc 149, 2) := by decide +kernel
theorem dX8_record_14 : decode cX8_record 14 = .ok (.invokespecial 107, 3) := by decide +kernel
theorem dX8_record_17 : decode cX8_record 17 = .ok (.athrow, 1) := by decide +kernel
theorem dX8_record_18 : decode cX8_record 18 = .ok (.aload_n 0, 1) := by decide +kernel
theorem dX8_record_19 : decode cX8_record 19 = .ok (.dup, 1) := by decide +kernel
theorem dX8_record_20 : decode cX8_record 20 = .ok (.getfield 146, 3) := by decide +kernel
theorem dX8_record_23 : decode cX8_record 23 = .ok (.iconst 1, 1) := by decide +kernel
theorem dX8_record_24 : decode cX8_record 24 = .ok (.iadd, 1) := by decide +kernel
theorem dX8_record_25 : decode cX8_record 25 = .ok (.putfield 146, 3) := by decide +kernel
theorem dX8_record_28 : decode cX8_record 28 = .ok (.aload_n 0, 1) := by decide +kernel
theorem dX8_record_29 : decode cX8_record 29 = .ok (.getfield 146, 3) := by decide +kernel
theorem dX8_record_32 : decode cX8_record 32 = .ok (.iconst 1, 1) := by decide +kernel
theorem dX8_record_33 : decode cX8_record 33 = .ok (.isub, 1) := by decide +kernel
theorem dX8_record_34 : decode cX8_record 34 = .ok (.ireturn, 1) := by decide +kernel
theorem dX8_settings_0 : decode cX8_settings 0 = .ok (.aload_n 0, 1) := by decide +kernel
theorem dX8_settings_1 : decode cX8_settings 1 = .ok (.iconst 0, 1) := by decide +kernel
theorem dX8_settings_2 : decode cX8_settings 2 = .ok (.aload_n 0, 1) := by decide +kernel
theorem dX8_settings_3 : decode cX8_settings 3 = .ok (.getfield 25, 3) := by decide +kernel
theorem dX8_settings_6 : decode cX8_settings 6 = .ok (.invokevirtual 151, 3) := by decide +kernel
theorem dX8_settings_9 : decode cX8_settings 9 = .ok (.invokevirtual 152, 3) := by decide +kernel
theorem dX8_settings_12 : decode cX8_settings 12 = .ok (.istore_n 2, 1) := by decide +kernel
theorem dX8_settings_13 : decode cX8_settings 13 = .ok (.aload_n 0, 1) := by decide +kernel
theorem dX8_settings_14 : decode cX8_settings 14 = .ok (.iload_n 1, 1) := by decide +kernel
theorem dX8_settings_15 : decode cX8_settings 15 = .ok (.invokevirtual 155, 3) := by decide +kernel
theorem dX8_settings_18 : decode cX8_settings 18 = .ok (.ifCond .eq 12, 3) := by decide +kernel
theorem dX8_settings_21 : decode cX8_settings 21 = .ok (.iload_n 2, 1) := by decide +kernel
theorem dX8_settings_22 : decode cX8_settings 22 = .ok (.iconst (-1), 1) := by decide +kernel
theorem dX8_settings_23 : decode cX8_settings 23 = .ok (.if_icmp .eq 7, 3) := by decide +kernel
theorem dX8_settings_26 : decode cX8_settings 26 = .ok (.iconst 1, 1) := by decide +kernel
theorem dX8_settings_27 : decode cX8_settings 27 = .ok (.goto 4, 3) := by decide +kernel
theorem dX8_settings_30 : decode cX8_settings 30 = .ok (.iconst 0, 1) := by decide +kernel
theorem dX8_settings_31 : decode cX8_settings 31 = .ok (.istore_n 3, 1) := by decide +kernel
theorem dX8_settings_32 : decode cX8_settings 32 = .ok (.iload_n 3, 1) := by decide +kernel
theorem dX8_settings_33 : decode cX8_settings 33 = .ok (.ifCond .eq 20, 3) := by decide +kernel
theorem dX8_settings_36 : decode cX8_settings 36 = .ok (.aload_n 0, 1) := by decide +kernel
theorem dX8_settings_37 : decode cX8_settings 37 = .ok (.getfield 55, 3) := by decide +kernel
theorem dX8_settings_40 : decode cX8_settings 40 = .ok (.iload_n 1, 1) := by decide +kernel
theorem dX8_settings_41 : decode cX8_settings 41 = .ok (.aaload, 1) := by decide +kernel
theorem dX8_settings_42 : decode cX8_settings 42 = .ok (.iconst 3, 1) := by decide +kernel
theorem dX8_settings_43 : decode cX8_settings 43 = .ok (.invokevirtual 158, 3) := by decide +kernel
theorem dX8_settings_46 : decode cX8_settings 46 = .ok (.ifCond .eq 7, 3) := by decide +kernel
theorem dX8_settings_49 : decode cX8_settings 49 = .ok (.iconst 1, 1) := by decide +kernel
theorem dX8_settings_50 : decode cX8_settings 50 = .ok (.goto 4, 3) := by decide +kernel
theorem dX8_settings_53 : decode cX8_settings 53 = .ok (.iconst 0, 1) := by decide +kernel
theorem dX8_settings_54 : decode cX8_settings 54 = .ok (.istore 4, 2) := by decide +kernel
theorem dX8_settings_56 : decode cX8_settings 56 = .ok (.iload_n 3, 1) := by decide +kernel
theorem dX8_settings_57 : decode cX8_settings 57 = .ok (.ifCond .eq 20, 3) := by decide +kernel
theorem dX8_settings_60 : decode cX8_settings 60 = .ok (.iload 4, 2) := by decide +kernel
theorem dX8_settings_62 : decode cX8_settings 62 = .ok (.ifCond .ne 15, 3) := by decide +kernel
theorem dX8_settings_65 : decode cX8_settings 65 = .ok (.aload_n 0, 1) := by decide +kernel
theorem dX8_settings_66 : decode cX8_settings 66 = .ok (.aload_n 0, 1) := by decide +kernel
theorem dX8_settings_67 : decode cX8_settings 67 = .ok (.getfield 55, 3) := by decide +kernel
theorem dX8_settings_70 : decode cX8_settings 70 = .ok (.iload_n 1, 1) := by decide +kernel
theorem dX8_settings_71 : decode cX8_settings 71 = .ok (.aaload, 1) := by decide +kernel
theorem dX8_settings_72 : decode cX8_settings 72 = .ok (.iconst 0, 1) := by decide +kernel
theorem dX8_settings_73 : decode cX8_settings 73 = .ok (.iload_n 2, 1) := by decide +kernel
theorem dX8_settings_74 : decode cX8_settings 74 = .ok (.invokevirtual 161, 3) := by decide +kernel
theorem dX8_settings_77 : decode cX8_settings 77 = .ok (.aload_n 0, 1) := by decide +kernel
theorem dX8_settings_78 : decode cX8_settings 78 = .ok (.getfield 25, 3) := by decide +kernel
theorem dX8_settings_81 : decode cX8_settings 81 = .ok (.invokevirtual 122, 3) := by decide +kernel
theorem dX8_settings_84 : decode cX8_settings 84 = .ok (.iload_n 3, 1) := by decide +kernel
theorem dX8_settings_85 : decode cX8_settings 85 = .ok (.ifCond .ne 13, 3) := by decide +kernel
theorem dX8_settings_88 : decode cX8_settings 88 = .ok (.new 93, 3) := by decide +kernel
theorem dX8_settings_91 : decode cX8_settings 91 = .ok (.dup, 1) := by decide +kernel
theorem dX8_settings_92 : decode cX8_settings 92 = .ok (.ldc 165, 2) := by decide +kernel
theorem dX8_settings_94 : decode cX8_settings 94 = .ok (.invokespecial 97, 3) := by decide +kernel
theorem dX8_settings_97 : decode cX8_settings 97 = .ok (.athrow, 1) := by decide +kernel
theorem dX8_settings_98 : decode cX8_settings 98 = .ok (.iload 4, 2) := by decide +kernel
theorem dX8_settings_100 : decode cX8_settings 100 = .ok (.ifCond .eq 13, 3) := by decide +kernel
theorem dX8_settings_103 : decode cX8_settings 103 = .ok (.new 103, 3) := by decide +kernel
theorem dX8_settings_106 : decode cX8_settings 106 = .ok (.dup, 1) := by decide +kernel
theorem dX8_settings_107 : decode cX8_settings 107 = .ok (.ldc 167, 2) := by decide +kernel
theorem dX8_settings_109 : decode cX8_settings 109 = .ok (.invokespecial 107, 3) := by decide +kernel
theorem dX8_settings_112 : decode cX8_settings 112 = .ok (.athrow, 1) := by decide +kernel
theorem dX8_settings_113 : decode cX8_settings 113 = .ok (.iload_n 2, 1) := by decide +kernel
theorem dX8_settings_114 : decode cX8_settings 114 = .ok (.ireturn, 1) := by decide +kernel
theorem dX8_profile_0 : decode cX8_profile 0 = .ok (.iconst 0, 1) := by decide +kernel
theorem dX8_profile_1 : decode cX8_profile 1 = .ok (.istore_n 1, 1) := by decide +kernel
theorem dX8_profile_2 : decode cX8_profile 2 = .ok (.iconst 0, 1) := by decide +kernel
theorem dX8_profile_3 : decode cX8_profile 3 = .ok (.istore_n 2, 1) := by decide +kernel
theorem dX8_profile_4 : decode cX8_profile 4 = .ok (.iconst 0, 1) := by decide +kernel
theorem dX8_profile_5 : decode cX8_profile 5 = .ok (.istore_n 3, 1) := by decide +kernel
theorem dX8_profile_6 : decode cX8_profile 6 = .ok (.iconst 0, 1) := by decide +kernel
theorem dX8_profile_7 : decode cX8_profile 7 = .ok (.istore 4, 2) := by decide +kernel
theorem dX8_profile_9 : decode cX8_profile 9 = .ok (.iload 4, 2) := by decide +kernel
theorem dX8_profile_11 : decode cX8_profile 11 = .ok (.aload_n 0, 1) := by decide +kernel
theorem dX8_profile_12 : decode cX8_profile 12 = .ok (.getfield 25, 3) := by decide +kernel
theorem dX8_profile_15 : decode cX8_profile 15 = .ok (.invokevirtual 151, 3) := by decide +kernel
theorem dX8_profile_18 : decode cX8_profile 18 = .ok (.if_icmp .gt 59, 3) := by decide +kernel
theorem dX8_profile_21 : decode cX8_profile 21 = .ok (.iload 4, 2) := by decide +kernel
theorem dX8_profile_23 : decode cX8_profile 23 = .ok (.aload_n 0, 1) := by decide +kernel
theorem dX8_profile_24 : decode cX8_profile 24 = .ok (.getfield 25, 3) := by decide +kernel
theorem dX8_profile_27 : decode cX8_profile 27 = .ok (.invokevirtual 151, 3) := by decide +kernel
theorem dX8_profile_30 : decode cX8_profile 30 = .ok (.if_icmp .eq 17, 3) := by decide +kernel
theorem dX8_profile_33 : decode cX8_profile 33 = .ok (.aload_n 0, 1) := by decide +kernel
theorem dX8_profile_34 : decode cX8_profile 34 = .ok (.getfield 25, 3) := by decide +kernel
theorem dX8_profile_37 : decode cX8_profile 37 = .ok (.iload 4, 2) := by decide +kernel
theorem dX8_profile_39 : decode cX8_profile 39 = .ok (.invokevirtual 169, 3) := by decide +kernel
theorem dX8_profile_42 : decode cX8_profile 42 = .ok (.bipush 124, 2) := by decide +kernel
theorem dX8_profile_44 : decode cX8_profile 44 = .ok (.if_icmp .ne 27, 3) := by decide +kernel
theorem dX8_profile_47 : decode cX8_profile 47 = .ok (.aload_n 0, 1) := by decide +kernel
theorem dX8_profile_48 : decode cX8_profile 48 = .ok (.iload_n 3, 1) := by decide +kernel
theorem dX8_profile_49 : decode cX8_profile 49 = .ok (.iload 4, 2) := by decide +kernel
theorem dX8_profile_51 : decode cX8_profile 51 = .ok (.invokevirtual 173, 3) := by decide +kernel
theorem dX8_profile_54 : decode cX8_profile 54 = .ok (.ifCond .eq 9, 3) := by decide +kernel
theorem dX8_profile_57 : decode cX8_profile 57 = .ok (.iinc 1 1, 3) := by decide +kernel
theorem dX8_profile_60 : decode cX8_profile 60 = .ok (.goto 6, 3) := by decide +kernel
theorem dX8_profile_63 : decode cX8_profile 63 = .ok (.iinc 2 1, 3) := by decide +kernel
theorem dX8_profile_66 : decode cX8_profile 66 = .ok (.iload 4, 2) := by decide +kernel
theorem dX8_profile_68 : decode cX8_profile 68 = .ok (.iconst 1, 1) := by decide +kernel
theorem dX8_profile_69 : decode cX8_profile 69 = .ok (.iadd, 1) := by decide +kernel
theorem dX8_profile_70 : decode cX8_profile 70 = .ok (.istore_n 3, 1) := by decide +kernel
theorem dX8_profile_71 : decode cX8_profile 71 = .ok (.iinc 4 1, 3) := by decide +kernel
theorem dX8_profile_74 : decode cX8_profile 74 = .ok (.goto (-65), 3) := by decide +kernel
theorem dX8_profile_77 : decode cX8_profile 77 = .ok (.aload_n 0, 1) := by decide +kernel
theorem dX8_profile_78 : decode cX8_profile 78 = .ok (.getfield 25, 3) := by decide +kernel
theorem dX8_profile_81 : decode cX8_profile 81 = .ok (.invokevirtual 122, 3) := by decide +kernel
theorem dX8_profile_84 : decode cX8_profile 84 = .ok (.bipush 10, 2) := by decide +kernel
theorem dX8_profile_86 : decode cX8_profile 86 = .ok (.iload_n 1, 1) := by decide +kernel
theorem dX8_profile_87 : decode cX8_profile 87 = .ok (.imul, 1) := by decide +kernel
theorem dX8_profile_88 : decode cX8_profile 88 = .ok (.iload_n 2, 1) := by decide +kernel
theorem dX8_profile_89 : decode cX8_profile 89 = .ok (.iadd, 1) := by decide +kernel
theorem dX8_profile_90 : decode cX8_profile 90 = .ok (.ireturn, 1) := by decide +kernel
theorem dX8_start_0 : decode cX8_start 0 = .ok (.aload_n 0, 1) := by decide +kernel
theorem dX8_start_1 : decode cX8_start 1 = .ok (.iload_n 1, 1) := by decide +kernel
theorem dX8_start_2 : decode cX8_start 2 = .ok (.invokevirtual 155, 3) := by decide +kernel
theorem dX8_start_5 : decode cX8_start 5 = .ok (.ifCond .ne 13, 3) := by decide +kernel
theorem dX8_start_8 : decode cX8_start 8 = .ok (.new 93, 3) := by decide +kernel
theorem dX8_start_11 : decode cX8_start 11 = .ok (.dup, 1) := by decide +kernel
theorem dX8_start_12 : decode cX8_start 12 = .ok (.ldc 177, 2) := by decide +kernel
theorem dX8_start_14 : decode cX8_start 14 = .ok (.invokespecial 97, 3) := by decide +kernel
theorem dX8_start_17 : decode cX8_start 17 = .ok (.athrow, 1) := by decide +kernel
theorem dX8_start_18 : decode cX8_start 18 = .ok (.aload_n 0, 1) := by decide +kernel
theorem dX8_start_19 : decode cX8_start 19 = .ok (.getfield 55, 3) := by decide +kernel
theorem dX8_start_22 : decode cX8_start 22 = .ok (.iload_n 1, 1) := by decide +kernel
theorem dX8_start_23 : decode cX8_start 23 = .ok (.aaload, 1) := by decide +kernel
theorem dX8_start_24 : decode cX8_start 24 = .ok (.iconst 0, 1) := by decide +kernel
theorem dX8_start_25 : decode cX8_start 25 = .ok (.invokevirtual 158, 3) := by decide +kernel
theorem dX8_start_28 : decode cX8_start 28 = .ok (.ifCond .ne 13, 3) := by decide +kernel
theorem dX8_start_31 : decode cX8_start 31 = .ok (.new 103, 3) := by decide +kernel
theorem dX8_start_34 : decode cX8_start 34 = .ok (.dup, 1) := by decide +kernel
theorem dX8_start_35 : decode cX8_start 35 = .ok (.ldc 179, 2) := by decide +kernel
theorem dX8_start_37 : decode cX8_start 37 = .ok (.invokespecial 107, 3) := by decide +kernel
theorem dX8_start_40 : decode cX8_start 40 = .ok (.athrow, 1) := by decide +kernel
theorem dX8_start_41 : decode cX8_start 41 = .ok (.aload_n 0, 1) := by decide +kernel
theorem dX8_start_42 : decode cX8_start 42 = .ok (.invokevirtual 143, 3) := by decide +kernel
theorem dX8_start_45 : decode cX8_start 45 = .ok (.aload_n 0, 1) := by decide +kernel
theorem dX8_start_46 : decode cX8_start 46 = .ok (.getfield 72, 3) := by decide +kernel
theorem dX8_start_49 : decode cX8_start 49 = .ok (.invokevirtual 125, 3) := by decide +kernel
theorem dX8_start_52 : decode cX8_start 52 = .ok (.invokevirtual 181, 3) := by decide +kernel
theorem dX8_start_55 : decode cX8_start 55 = .ok (.istore_n 2, 1) := by decide +kernel
theorem dX8_start_56 : decode cX8_start 56 = .ok (.aload_n 0, 1) := by decide +kernel
theorem dX8_start_57 : decode cX8_start 57 = .ok (.getfield 55, 3) := by decide +kernel
theorem dX8_start_60 : decode cX8_start 60 = .ok (.iload_n 1, 1) := by decide +kernel
theorem dX8_start_61 : decode cX8_start 61 = .ok (.aaload, 1) := by decide +kernel
theorem dX8_start_62 : decode cX8_start 62 = .ok (.iload_n 2, 1) := by decide +kernel
theorem dX8_start_63 : decode cX8_start 63 = .ok (.invokevirtual 184, 3) := by decide +kernel
theorem dX8_start_66 : decode cX8_start 66 = .ok (.iload_n 2, 1) := by decide +kernel
theorem dX8_start_67 : decode cX8_start 67 = .ok (.ireturn, 1) := by decide +kernel
theorem dX8_stop_0 : decode cX8_stop 0 = .ok (.aload_n 0, 1) := by decide +kernel
theorem dX8_stop_1 : decode cX8_stop 1 = .ok (.iload_n 1, 1) := by decide +kernel
theorem dX8_stop_2 : decode cX8_stop 2 = .ok (.invokevirtual 155, 3) := by decide +kernel
theorem dX8_stop_5 : decode cX8_stop 5 = .ok (.ifCond .ne 13, 3) := by decide +kernel
theorem dX8_stop_8 : decode cX8_stop 8 = .ok (.new 93, 3) := by decide +kernel
theorem dX8_stop_11 : decode cX8_stop 11 = .ok (.dup, 1) := by decide +kernel
theorem dX8_stop_12 : decode cX8_stop 12 = .ok (.ldc 177, 2) := by decide +kernel
theorem dX8_stop_14 : decode cX8_stop 14 = .ok (.invokespecial 97, 3) := by decide +kernel
theorem dX8_stop_17 : decode cX8_stop 17 = .ok (.athrow, 1) := by decide +kernel
theorem dX8_stop_18 : decode cX8_stop 18 = .ok (.aload_n 0, 1) := by decide +kernel
theorem dX8_stop_19 : decode cX8_stop 19 = .ok (.getfield 55, 3) := by decide +kernel
theorem dX8_stop_22 : decode cX8_stop 22 = .ok (.iload_n 1, 1) := by decide +kernel
theorem dX8_stop_23 : decode cX8_stop 23 = .ok (.aaload, 1) := by decide +kernel
theorem dX8_stop_24 : decode cX8_stop 24 = .ok (.iconst 1, 1) := by decide +kernel
theorem dX8_stop_25 : decode cX8_stop 25 = .ok (.invokevirtual 158, 3) := by decide +kernel
theorem dX8_stop_28 : decode cX8_stop 28 = .ok (.ifCond .ne 13, 3) := by decide +kernel
theorem dX8_stop_31 : decode cX8_stop 31 = .ok (.new 103, 3) := by decide +kernel
theorem dX8_stop_34 : decode cX8_stop 34 = .ok (.dup, 1) := by decide +kernel
theorem dX8_stop_35 : decode cX8_stop 35 = .ok (.ldc 187, 2) := by decide +kernel
theorem dX8_stop_37 : decode cX8_stop 37 = .ok (.invokespecial 107, 3) := by decide +kernel
theorem dX8_stop_40 : decode cX8_stop 40 = .ok (.athrow, 1) := by decide +kernel
theorem dX8_stop_41 : decode cX8_stop 41 = .ok (.aload_n 0, 1) := by decide +kernel
theorem dX8_stop_42 : decode cX8_stop 42 = .ok (.aload_n 0, 1) := by decide +kernel
theorem dX8_stop_43 : decode cX8_stop 43 = .ok (.getfield 55, 3) := by decide +kernel
theorem dX8_stop_46 : decode cX8_stop 46 = .ok (.iload_n 1, 1) := by decide +kernel
theorem dX8_stop_47 : decode cX8_stop 47 = .ok (.aaload, 1) := by decide +kernel
theorem dX8_stop_48 : decode cX8_stop 48 = .ok (.invokevirtual 189, 3) := by decide +kernel
theorem dX8_stop_51 : decode cX8_stop 51 = .ok (.ireturn, 1) := by decide +kernel
theorem dX8_close_0 : decode cX8_close 0 = .ok (.aload_n 0, 1) := by decide +kernel
theorem dX8_close_1 : decode cX8_close 1 = .ok (.iload_n 1, 1) := by decide +kernel
theorem dX8_close_2 : decode cX8_close 2 = .ok (.invokevirtual 155, 3) := by decide +kernel
theorem dX8_close_5 : decode cX8_close 5 = .ok (.ifCond .ne 13, 3) := by decide +kernel
theorem dX8_close_8 : decode cX8_close 8 = .ok (.new 93, 3) := by decide +kernel
theorem dX8_close_11 : decode cX8_close 11 = .ok (.dup, 1) := by decide +kernel
theorem dX8_close_12 : decode cX8_close 12 = .ok (.ldc 177, 2) := by decide +kernel
theorem dX8_close_14 : decode cX8_close 14 = .ok (.invokespecial 97, 3) := by decide +kernel
theorem dX8_close_17 : decode cX8_close 17 = .ok (.athrow, 1) := by decide +kernel
theorem dX8_close_18 : decode cX8_close 18 = .ok (.aload_n 0, 1) := by decide +kernel
theorem dX8_close_19 : decode cX8_close 19 = .ok (.getfield 55, 3) := by decide +kernel
theorem dX8_close_22 : decode cX8_close 22 = .ok (.iload_n 1, 1) := by decide +kernel
theorem dX8_close_23 : decode cX8_close 23 = .ok (.aaload, 1) := by decide +kernel
theorem dX8_close_24 : decode cX8_close 24 = .ok (.astore_n 2, 1) := by decide +kernel
theorem dX8_close_25 : decode cX8_close 25 = .ok (.aload_n 2, 1) := by decide +kernel
theorem dX8_close_26 : decode cX8_close 26 = .ok (.iconst 3, 1) := by decide +kernel
theorem dX8_close_27 : decode cX8_close 27 = .ok (.invokevirtual 158, 3) := by decide +kernel
theorem dX8_close_30 : decode cX8_close 30 = .ok (.ifCond .eq 13, 3) := by decide +kernel
theorem dX8_close_33 : decode cX8_close 33 = .ok (.new 103, 3) := by decide +kernel
theorem dX8_close_36 : decode cX8_close 36 = .ok (.dup, 1) := by decide +kernel
theorem dX8_close_37 : decode cX8_close 37 = .ok (.ldc 193, 2) := by decide +kernel
theorem dX8_close_39 : decode cX8_close 39 = .ok (.invokespecial 107, 3) := by decide +kernel
theorem dX8_close_42 : decode cX8_close 42 = .ok (.athrow, 1) := by decide +kernel
theorem dX8_close_43 : decode cX8_close 43 = .ok (.aload_n 2, 1) := by decide +kernel
theorem dX8_close_44 : decode cX8_close 44 = .ok (.iconst 1, 1) := by decide +kernel
theorem dX8_close_45 : decode cX8_close 45 = .ok (.invokevirtual 158, 3) := by decide +kernel
theorem dX8_close_48 : decode cX8_close 48 = .ok (.istore_n 3, 1) := by decide +kernel
theorem dX8_close_49 : decode cX8_close 49 = .ok (.iload_n 3, 1) := by decide +kernel
theorem dX8_close_50 : decode cX8_close 50 = .ok (.ifCond .eq 9, 3) := by decide +kernel
theorem dX8_close_53 : decode cX8_close 53 = .ok (.aload_n 0, 1) := by decide +kernel
theorem dX8_close_54 : decode cX8_close 54 = .ok (.aload_n 2, 1) := by decide +kernel
theorem dX8_close_55 : decode cX8_close 55 = .ok (.invokevirtual 189, 3) := by decide +kernel
theorem dX8_close_58 : decode cX8_close 58 = .ok (.pop, 1) := by decide +kernel
theorem dX8_close_59 : decode cX8_close 59 = .ok (.aload_n 2, 1) := by decide +kernel
theorem dX8_close_60 : decode cX8_close 60 = .ok (.invokevirtual 195, 3) := by decide +kernel
theorem dX8_close_63 : decode cX8_close 63 = .ok (.iload_n 3, 1) := by decide +kernel
theorem dX8_close_64 : decode cX8_close 64 = .ok (.ireturn, 1) := by decide +kernel
theorem dX8_dump_0 : decode cX8_dump 0 = .ok (.aload_n 0, 1) := by decide +kernel
theorem dX8_dump_1 : decode cX8_dump 1 = .ok (.iload_n 1, 1) := by decide +kernel
theorem dX8_dump_2 : decode cX8_dump 2 = .ok (.invokevirtual 155, 3) := by decide +kernel
theorem dX8_dump_5 : decode cX8_dump 5 = .ok (.ifCond .ne 13, 3) := by decide +kernel
theorem dX8_dump_8 : decode cX8_dump 8 = .ok (.new 93, 3) := by decide +kernel
theorem dX8_dump_11 : decode cX8_dump 11 = .ok (.dup, 1) := by decide +kernel
theorem dX8_dump_12 : decode cX8_dump 12 = .ok (.ldc 177, 2) := by decide +kernel
theorem dX8_dump_14 : decode cX8_dump 14 = .ok (.invokespecial 97, 3) := by decide +kernel
theorem dX8_dump_17 : decode cX8_dump 17 = .ok (.athrow, 1) := by decide +kernel
theorem dX8_dump_18 : decode cX8_dump 18 = .ok (.aload_n 0, 1) := by decide +kernel
theorem dX8_dump_19 : decode cX8_dump 19 = .ok (.getfield 55, 3) := by decide +kernel
theorem dX8_dump_22 : decode cX8_dump 22 = .ok (.iload_n 1, 1) := by decide +kernel
theorem dX8_dump_23 : decode cX8_dump 23 = .ok (.aaload, 1) := by decide +kernel
theorem dX8_dump_24 : decode cX8_dump 24 = .ok (.astore_n 2, 1) := by decide +kernel
theorem dX8_dump_25 : decode cX8_dump 25 = .ok (.aload_n 2, 1) := by decide +kernel
theorem dX8_dump_26 : decode cX8_dump 26 = .ok (.iconst 0, 1) := by decide +kernel
theorem dX8_dump_27 : decode cX8_dump 27 = .ok (.invokevirtual 158, 3) := by decide +kernel
theorem dX8_dump_30 : decode cX8_dump 30 = .ok (.ifCond .ne 11, 3) := by decide +kernel
theorem dX8_dump_33 : decode cX8_dump 33 = .ok (.aload_n 2, 1) := by decide +kernel
theorem dX8_dump_34 : decode cX8_dump 34 = .ok (.iconst 3, 1) := by decide +kernel
theorem dX8_dump_35 : decode cX8_dump 35 = .ok (.invokevirtual 158, 3) := by decide +kernel
theorem dX8_dump_38 : decode cX8_dump 38 = .ok (.ifCond .eq 13, 3) := by decide +kernel
theorem dX8_dump_41 : decode cX8_dump 41 = .ok (.new 103, 3) := by decide +kernel
theorem dX8_dump_44 : decode cX8_dump 44 = .ok (.dup, 1) := by decide +kernel
theorem dX8_dump_45 : decode cX8_dump 45 = .ok (.ldc 198, 2) := by decide +kernel
theorem dX8_dump_47 : decode cX8_dump 47 = .ok (.invokespecial 107, 3) := by decide +kernel
theorem dX8_dump_50 : decode cX8_dump 50 = .ok (.athrow, 1) := by decide +kernel
theorem dX8_dump_51 : decode cX8_dump 51 = .ok (.aload_n 2, 1) := by decide +kernel
theorem dX8_dump_52 : decode cX8_dump 52 = .ok (.iconst 1, 1) := by decide +kernel
theorem dX8_dump_53 : decode cX8_dump 53 = .ok (.invokevirtual 158, 3) := by decide +kernel
theorem dX8_dump_56 : decode cX8_dump 56 = .ok (.ifCond .eq 7, 3) := by decide +kernel
theorem dX8_dump_59 : decode cX8_dump 59 = .ok (.aload_n 0, 1) := by decide +kernel
theorem dX8_dump_60 : decode cX8_dump 60 = .ok (.invokevirtual 143, 3) := by decide +kernel
theorem dX8_dump_63 : decode cX8_dump 63 = .ok (.aload_n 0, 1) := by decide +kernel
theorem dX8_dump_64 : decode cX8_dump 64 = .ok (.getfield 83, 3) := by decide +kernel
theorem dX8_dump_67 : decode cX8_dump 67 = .ok (.invokevirtual 200, 3) := by decide +kernel
theorem dX8_dump_70 : decode cX8_dump 70 = .ok (.aload_n 0, 1) := by decide +kernel
theorem dX8_dump_71 : decode cX8_dump 71 = .ok (.getfield 72, 3) := by decide +kernel
theorem dX8_dump_74 : decode cX8_dump 74 = .ok (.aload_n 0, 1) := by decide +kernel
theorem dX8_dump_75 : decode cX8_dump 75 = .ok (.getfield 83, 3) := by decide +kernel
theorem dX8_dump_78 : decode cX8_dump 78 = .ok (.aload_n 0, 1) := by decide +kernel
theorem dX8_dump_79 : decode cX8_dump 79 = .ok (.getfield 32, 3) := by decide +kernel
theorem dX8_dump_82 : decode cX8_dump 82 = .ok (.aload_n 2, 1) := by decide +kernel
theorem dX8_dump_83 : decode cX8_dump 83 = .ok (.invokevirtual 201, 3) := by decide +kernel
theorem dX8_dump_86 : decode cX8_dump 86 = .ok (.aload_n 2, 1) := by decide +kernel
theorem dX8_dump_87 : decode cX8_dump 87 = .ok (.invokevirtual 204, 3) := by decide +kernel
theorem dX8_dump_90 : decode cX8_dump 90 = .ok (.invokevirtual 207, 3) := by decide +kernel
theorem dX8_dump_93 : decode cX8_dump 93 = .ok (.aload_n 0, 1) := by decide +kernel
theorem dX8_dump_94 : decode cX8_dump 94 = .ok (.getfield 83, 3) := by decide +kernel
theorem dX8_dump_97 : decode cX8_dump 97 = .ok (.invokevirtual 139, 3) := by decide +kernel
theorem dX8_dump_100 : decode cX8_dump 100 = .ok (.ireturn, 1) := by decide +kernel
theorem dX8_output_0 : decode cX8_output 0 = .ok (.aload_n 0, 1) := by decide +kernel
theorem dX8_output_1 : decode cX8_output 1 = .ok (.getfield 83, 3) := by decide +kernel
theorem dX8_output_4 : decode cX8_output 4 = .ok (.iload_n 1, 1) := by decide +kernel
theorem dX8_output_5 : decode cX8_output 5 = .ok (.invokevirtual 211, 3) := by decide +kernel
theorem dX8_output_8 : decode cX8_output 8 = .ok (.ireturn, 1) := by decide +kernel
theorem dX8_state_0 : decode cX8_state 0 = .ok (.aload_n 0, 1) := by decide +kernel
theorem dX8_state_1 : decode cX8_state 1 = .ok (.iload_n 1, 1) := by decide +kernel
theorem dX8_state_2 : decode cX8_state 2 = .ok (.invokevirtual 155, 3) := by decide +kernel
theorem dX8_state_5 : decode cX8_state 5 = .ok (.ifCond .eq 15, 3) := by decide +kernel
theorem dX8_state_8 : decode cX8_state 8 = .ok (.aload_n 0, 1) := by decide +kernel
theorem dX8_state_9 : decode cX8_state 9 = .ok (.getfield 55, 3) := by decide +kernel
theorem dX8_state_12 : decode cX8_state 12 = .ok (.iload_n 1, 1) := by decide +kernel
theorem dX8_state_13 : decode cX8_state 13 = .ok (.aaload, 1) := by decide +kernel
theorem dX8_state_14 : decode cX8_state 14 = .ok (.invokevirtual 214, 3) := by decide +kernel
theorem dX8_state_17 : decode cX8_state 17 = .ok (.goto 4, 3) := by decide +kernel
theorem dX8_state_20 : decode cX8_state 20 = .ok (.iconst (-1), 1) := by decide +kernel
theorem dX8_state_21 : decode cX8_state 21 = .ok (.ireturn, 1) := by decide +kernel
theorem dX8_threshold_0 : decode cX8_threshold 0 = .ok (.aload_n 0, 1) := by decide +kernel
theorem dX8_threshold_1 : decode cX8_threshold 1 = .ok (.iload_n 1, 1) := by decide +kernel
theorem dX8_threshold_2 : decode cX8_threshold 2 = .ok (.invokevirtual 155, 3) := by decide +kernel
theorem dX8_threshold_5 : decode cX8_threshold 5 = .ok (.ifCond .eq 24, 3) := by decide +kernel
theorem dX8_threshold_8 : decode cX8_threshold 8 = .ok (.aload_n 0, 1) := by decide +kernel
theorem dX8_threshold_9 : decode cX8_threshold 9 = .ok (.iload_n 2, 1) := by decide +kernel
theorem dX8_threshold_10 : decode cX8_threshold 10 = .ok (.invokevirtual 115, 3) := by decide +kernel
theorem dX8_threshold_13 : decode cX8_threshold 13 = .ok (.ifCond .eq 16, 3) := by decide +kernel
theorem dX8_threshold_16 : decode cX8_threshold 16 = .ok (.aload_n 0, 1) := by decide +kernel
theorem dX8_threshold_17 : decode cX8_threshold 17 = .ok (.getfield 55, 3) := by decide +kernel
theorem dX8_threshold_20 : decode cX8_threshold 20 = .ok (.iload_n 1, 1) := by decide +kernel
theorem dX8_threshold_21 : decode cX8_threshold 21 = .ok (.aaload, 1) := by decide +kernel
theorem dX8_threshold_22 : decode cX8_threshold 22 = .ok (.iload_n 2, 1) := by decide +kernel
theorem dX8_threshold_23 : decode cX8_threshold 23 = .ok (.invokevirtual 217, 3) := by decide +kernel
theorem dX8_threshold_26 : decode cX8_threshold 26 = .ok (.ifCond .ne 5, 3) := by decide +kernel
theorem dX8_threshold_29 : decode cX8_threshold 29 = .ok (.iconst (-1), 1) := by decide +kernel
theorem dX8_threshold_30 : decode cX8_threshold 30 = .ok (.ireturn, 1) := by decide +kernel
theorem dX8_threshold_31 : decode cX8_threshold 31 = .ok (.aload_n 0, 1) := by decide +kernel
theorem dX8_threshold_32 : decode cX8_threshold 32 = .ok (.getfield 55, 3) := by decide +kernel
theorem dX8_threshold_35 : decode cX8_threshold 35 = .ok (.iload_n 1, 1) := by decide +kernel
theorem dX8_threshold_36 : decode cX8_threshold 36 = .ok (.aaload, 1) := by decide +kernel
theorem dX8_threshold_37 : decode cX8_threshold 37 = .ok (.iload_n 2, 1) := by decide +kernel
theorem dX8_threshold_38 : decode cX8_threshold 38 = .ok (.invokevirtual 220, 3) := by decide +kernel
theorem dX8_threshold_41 : decode cX8_threshold 41 = .ok (.ireturn, 1) := by decide +kernel
theorem dX8_buffered_0 : decode cX8_buffered 0 = .ok (.iload_n 1, 1) := by decide +kernel
theorem dX8_buffered_1 : decode cX8_buffered 1 = .ok (.invokestatic 108, 3) := by decide +kernel
theorem dX8_buffered_4 : decode cX8_buffered 4 = .ok (.ifCond .eq 18, 3) := by decide +kernel
theorem dX8_buffered_7 : decode cX8_buffered 7 = .ok (.aload_n 0, 1) := by decide +kernel
theorem dX8_buffered_8 : decode cX8_buffered 8 = .ok (.getfield 38, 3) := by decide +kernel
theorem dX8_buffered_11 : decode cX8_buffered 11 = .ok (.iload_n 1, 1) := by decide +kernel
theorem dX8_buffered_12 : decode cX8_buffered 12 = .ok (.aaload, 1) := by decide +kernel
theorem dX8_buffered_13 : decode cX8_buffered 13 = .ok (.invokevirtual 223, 3) := by decide +kernel
theorem dX8_buffered_16 : decode cX8_buffered 16 = .ok (.invokevirtual 139, 3) := by decide +kernel
theorem dX8_buffered_19 : decode cX8_buffered 19 = .ok (.goto 4, 3) := by decide +kernel
theorem dX8_buffered_22 : decode cX8_buffered 22 = .ok (.iconst (-1), 1) := by decide +kernel
theorem dX8_buffered_23 : decode cX8_buffered 23 = .ok (.ireturn, 1) := by decide +kernel
theorem dX8_count_0 : decode cX8_count 0 = .ok (.iload_n 1, 1) := by decide +kernel
theorem dX8_count_1 : decode cX8_count 1 = .ok (.tableswitch 96 0 5 #[39, 47, 58, 72, 80, 88], 39) := by decide +kernel
theorem dX8_count_40 : decode cX8_count 40 = .ok (.aload_n 0, 1) := by decide +kernel
theorem dX8_count_41 : decode cX8_count 41 = .ok (.getfield 65, 3) := by decide +kernel
theorem dX8_count_44 : decode cX8_count 44 = .ok (.invokevirtual 226, 3) := by decide +kernel
theorem dX8_count_47 : decode cX8_count 47 = .ok (.ireturn, 1) := by decide +kernel
theorem dX8_count_48 : decode cX8_count 48 = .ok (.aload_n 0, 1) := by decide +kernel
theorem dX8_count_49 : decode cX8_count 49 = .ok (.getfield 72, 3) := by decide +kernel
theorem dX8_count_52 : decode cX8_count 52 = .ok (.invokevirtual 125, 3) := by decide +kernel
theorem dX8_count_55 : decode cX8_count 55 = .ok (.invokevirtual 181, 3) := by decide +kernel
theorem dX8_count_58 : decode cX8_count 58 = .ok (.ireturn, 1) := by decide +kernel
theorem dX8_count_59 : decode cX8_count 59 = .ok (.aload_n 0, 1) := by decide +kernel
theorem dX8_count_60 : decode cX8_count 60 = .ok (.getfield 72, 3) := by decide +kernel
theorem dX8_count_63 : decode cX8_count 63 = .ok (.invokevirtual 125, 3) := by decide +kernel
theorem dX8_count_66 : decode cX8_count 66 = .ok (.invokevirtual 129, 3) := by decide +kernel
theorem dX8_count_69 : decode cX8_count 69 = .ok (.invokevirtual 139, 3) := by decide +kernel
theorem dX8_count_72 : decode cX8_count 72 = .ok (.ireturn, 1) := by decide +kernel
theorem dX8_count_73 : decode cX8_count 73 = .ok (.aload_n 0, 1) := by decide +kernel
theorem dX8_count_74 : decode cX8_count 74 = .ok (.getfield 72, 3) := by decide +kernel
theorem dX8_count_77 : decode cX8_count 77 = .ok (.invokevirtual 229, 3) := by decide +kernel
theorem dX8_count_80 : decode cX8_count 80 = .ok (.ireturn, 1) := by decide +kernel
theorem dX8_count_81 : decode cX8_count 81 = .ok (.aload_n 0, 1) := by decide +kernel
theorem dX8_count_82 : decode cX8_count 82 = .ok (.getfield 72, 3) := by decide +kernel
theorem dX8_count_85 : decode cX8_count 85 = .ok (.invokevirtual 232, 3) := by decide +kernel
theorem dX8_count_88 : decode cX8_count 88 = .ok (.ireturn, 1) := by decide +kernel
theorem dX8_count_89 : decode cX8_count 89 = .ok (.aload_n 0, 1) := by decide +kernel
theorem dX8_count_90 : decode cX8_count 90 = .ok (.getfield 32, 3) := by decide +kernel
theorem dX8_count_93 : decode cX8_count 93 = .ok (.invokevirtual 235, 3) := by decide +kernel
theorem dX8_count_96 : decode cX8_count 96 = .ok (.ireturn, 1) := by decide +kernel
theorem dX8_count_97 : decode cX8_count 97 = .ok (.iconst (-1), 1) := by decide +kernel
theorem dX8_count_98 : decode cX8_count 98 = .ok (.ireturn, 1) := by decide +kernel
theorem dX8_lost_0 : decode cX8_lost 0 = .ok (.iload_n 1, 1) := by decide +kernel
theorem dX8_lost_1 : decode cX8_lost 1 = .ok (.invokestatic 108, 3) := by decide +kernel
theorem dX8_lost_4 : decode cX8_lost 4 = .ok (.ifCond .eq 15, 3) := by decide +kernel
theorem dX8_lost_7 : decode cX8_lost 7 = .ok (.aload_n 0, 1) := by decide +kernel
theorem dX8_lost_8 : decode cX8_lost 8 = .ok (.getfield 38, 3) := by decide +kernel
theorem dX8_lost_11 : decode cX8_lost 11 = .ok (.iload_n 1, 1) := by decide +kernel
theorem dX8_lost_12 : decode cX8_lost 12 = .ok (.aaload, 1) := by decide +kernel
theorem dX8_lost_13 : decode cX8_lost 13 = .ok (.invokevirtual 238, 3) := by decide +kernel
theorem dX8_lost_16 : decode cX8_lost 16 = .ok (.goto 4, 3) := by decide +kernel
theorem dX8_lost_19 : decode cX8_lost 19 = .ok (.iconst (-1), 1) := by decide +kernel
theorem dX8_lost_20 : decode cX8_lost 20 = .ok (.ireturn, 1) := by decide +kernel
theorem dX8_isThread_0 : decode cX8_isThread 0 = .ok (.iload_n 0, 1) := by decide +kernel
theorem dX8_isThread_1 : decode cX8_isThread 1 = .ok (.ifCond .lt 12, 3) := by decide +kernel
theorem dX8_isThread_4 : decode cX8_isThread 4 = .ok (.iload_n 0, 1) := by decide +kernel
theorem dX8_isThread_5 : decode cX8_isThread 5 = .ok (.iconst 3, 1) := by decide +kernel
theorem dX8_isThread_6 : decode cX8_isThread 6 = .ok (.if_icmp .ge 7, 3) := by decide +kernel
theorem dX8_isThread_9 : decode cX8_isThread 9 = .ok (.iconst 1, 1) := by decide +kernel
theorem dX8_isThread_10 : decode cX8_isThread 10 = .ok (.goto 4, 3) := by decide +kernel
theorem dX8_isThread_13 : decode cX8_isThread 13 = .ok (.iconst 0, 1) := by decide +kernel
theorem dX8_isThread_14 : decode cX8_isThread 14 = .ok (.ireturn, 1) := by decide +kernel
theorem dX8_isType_0 : decode cX8_isType 0 = .ok (.iload_n 1, 1) := by decide +kernel
theorem dX8_isType_1 : decode cX8_isType 1 = .ok (.ifCond .lt 15, 3) := by decide +kernel
theorem dX8_isType_4 : decode cX8_isType 4 = .ok (.iload_n 1, 1) := by decide +kernel
theorem dX8_isType_5 : decode cX8_isType 5 = .ok (.aload_n 0, 1) := by decide +kernel
theorem dX8_isType_6 : decode cX8_isType 6 = .ok (.getfield 100, 3) := by decide +kernel
theorem dX8_isType_9 : decode cX8_isType 9 = .ok (.if_icmp .ge 7, 3) := by decide +kernel
theorem dX8_isType_12 : decode cX8_isType 12 = .ok (.iconst 1, 1) := by decide +kernel
theorem dX8_isType_13 : decode cX8_isType 13 = .ok (.goto 4, 3) := by decide +kernel
theorem dX8_isType_16 : decode cX8_isType 16 = .ok (.iconst 0, 1) := by decide +kernel
theorem dX8_isType_17 : decode cX8_isType 17 = .ok (.ireturn, 1) := by decide +kernel
theorem dX8_isRecording_0 : decode cX8_isRecording 0 = .ok (.iload_n 1, 1) := by decide +kernel
theorem dX8_isRecording_1 : decode cX8_isRecording 1 = .ok (.ifCond .lt 15, 3) := by decide +kernel
theorem dX8_isRecording_4 : decode cX8_isRecording 4 = .ok (.iload_n 1, 1) := by decide +kernel
theorem dX8_isRecording_5 : decode cX8_isRecording 5 = .ok (.aload_n 0, 1) := by decide +kernel
theorem dX8_isRecording_6 : decode cX8_isRecording 6 = .ok (.getfield 146, 3) := by decide +kernel
theorem dX8_isRecording_9 : decode cX8_isRecording 9 = .ok (.if_icmp .ge 7, 3) := by decide +kernel
theorem dX8_isRecording_12 : decode cX8_isRecording 12 = .ok (.iconst 1, 1) := by decide +kernel
theorem dX8_isRecording_13 : decode cX8_isRecording 13 = .ok (.goto 4, 3) := by decide +kernel
theorem dX8_isRecording_16 : decode cX8_isRecording 16 = .ok (.iconst 0, 1) := by decide +kernel
theorem dX8_isRecording_17 : decode cX8_isRecording 17 = .ok (.ireturn, 1) := by decide +kernel
theorem dX8_endEvent_0 : decode cX8_endEvent 0 = .ok (.aload_n 1, 1) := by decide +kernel
theorem dX8_endEvent_1 : decode cX8_endEvent 1 = .ok (.invokevirtual 241, 3) := by decide +kernel
theorem dX8_endEvent_4 : decode cX8_endEvent 4 = .ok (.ifCond .ne 5, 3) := by decide +kernel
theorem dX8_endEvent_7 : decode cX8_endEvent 7 = .ok (.iconst 1, 1) := by decide +kernel
theorem dX8_endEvent_8 : decode cX8_endEvent 8 = .ok (.ireturn, 1) := by decide +kernel
theorem dX8_endEvent_9 : decode cX8_endEvent 9 = .ok (.aload_n 1, 1) := by decide +kernel
theorem dX8_endEvent_10 : decode cX8_endEvent 10 = .ok (.invokevirtual 245, 3) := by decide +kernel
theorem dX8_endEvent_13 : decode cX8_endEvent 13 = .ok (.istore 6, 2) := by decide +kernel
theorem dX8_endEvent_15 : decode cX8_endEvent 15 = .ok (.aload_n 0, 1) := by decide +kernel
theorem dX8_endEvent_16 : decode cX8_endEvent 16 = .ok (.iload_n 2, 1) := by decide +kernel
theorem dX8_endEvent_17 : decode cX8_endEvent 17 = .ok (.aload_n 0, 1) := by decide +kernel
theorem dX8_endEvent_18 : decode cX8_endEvent 18 = .ok (.getfield 90, 3) := by decide +kernel
theorem dX8_endEvent_21 : decode cX8_endEvent 21 = .ok (.iload 6, 2) := by decide +kernel
theorem dX8_endEvent_23 : decode cX8_endEvent 23 = .ok (.isub, 1) := by decide +kernel
theorem dX8_endEvent_24 : decode cX8_endEvent 24 = .ok (.invokevirtual 248, 3) := by decide +kernel
theorem dX8_endEvent_27 : decode cX8_endEvent 27 = .ok (.istore 7, 2) := by decide +kernel
theorem dX8_endEvent_29 : decode cX8_endEvent 29 = .ok (.iload 7, 2) := by decide +kernel
theorem dX8_endEvent_31 : decode cX8_endEvent 31 = .ok (.ifCond .eq 6, 3) := by decide +kernel
theorem dX8_endEvent_34 : decode cX8_endEvent 34 = .ok (.iload 7, 2) := by decide +kernel
theorem dX8_endEvent_36 : decode cX8_endEvent 36 = .ok (.ireturn, 1) := by decide +kernel
theorem dX8_endEvent_37 : decode cX8_endEvent 37 = .ok (.aload_n 0, 1) := by decide +kernel
theorem dX8_endEvent_38 : decode cX8_endEvent 38 = .ok (.getfield 49, 3) := by decide +kernel
theorem dX8_endEvent_41 : decode cX8_endEvent 41 = .ok (.iload_n 2, 1) := by decide +kernel
theorem dX8_endEvent_42 : decode cX8_endEvent 42 = .ok (.baload, 1) := by decide +kernel
theorem dX8_endEvent_43 : decode cX8_endEvent 43 = .ok (.ifCond .eq 17, 3) := by decide +kernel
theorem dX8_endEvent_46 : decode cX8_endEvent 46 = .ok (.aload_n 0, 1) := by decide +kernel
theorem dX8_endEvent_47 : decode cX8_endEvent 47 = .ok (.getfield 32, 3) := by decide +kernel
theorem dX8_endEvent_50 : decode cX8_endEvent 50 = .ok (.aload_n 0, 1) := by decide +kernel
theorem dX8_endEvent_51 : decode cX8_endEvent 51 = .ok (.getfield 25, 3) := by decide +kernel
theorem dX8_endEvent_54 : decode cX8_endEvent 54 = .ok (.invokevirtual 251, 3) := by decide +kernel
theorem dX8_endEvent_57 : decode cX8_endEvent 57 = .ok (.goto 4, 3) := by decide +kernel
theorem dX8_endEvent_60 : decode cX8_endEvent 60 = .ok (.iconst (-1), 1) := by decide +kernel
theorem dX8_endEvent_61 : decode cX8_endEvent 61 = .ok (.istore 8, 2) := by decide +kernel
theorem dX8_endEvent_63 : decode cX8_endEvent 63 = .ok (.aload_n 0, 1) := by decide +kernel
theorem dX8_endEvent_64 : decode cX8_endEvent 64 = .ok (.iload_n 2, 1) := by decide +kernel
theorem dX8_endEvent_65 : decode cX8_endEvent 65 = .ok (.iload 6, 2) := by decide +kernel
theorem dX8_endEvent_67 : decode cX8_endEvent 67 = .ok (.iload 8, 2) := by decide +kernel
theorem dX8_endEvent_69 : decode cX8_endEvent 69 = .ok (.iload_n 3, 1) := by decide +kernel
theorem dX8_endEvent_70 : decode cX8_endEvent 70 = .ok (.iload 4, 2) := by decide +kernel
theorem dX8_endEvent_72 : decode cX8_endEvent 72 = .ok (.iload 5, 2) := by decide +kernel
theorem dX8_endEvent_74 : decode cX8_endEvent 74 = .ok (.invokevirtual 255, 3) := by decide +kernel
theorem dX8_endEvent_77 : decode cX8_endEvent 77 = .ok (.iload 8, 2) := by decide +kernel
theorem dX8_endEvent_79 : decode cX8_endEvent 79 = .ok (.bipush 24, 2) := by decide +kernel
theorem dX8_endEvent_81 : decode cX8_endEvent 81 = .ok (.if_icmp .ge 14, 3) := by decide +kernel
theorem dX8_endEvent_84 : decode cX8_endEvent 84 = .ok (.aload_n 0, 1) := by decide +kernel
theorem dX8_endEvent_85 : decode cX8_endEvent 85 = .ok (.aload_n 1, 1) := by decide +kernel
theorem dX8_endEvent_86 : decode cX8_endEvent 86 = .ok (.invokevirtual 223, 3) := by decide +kernel
theorem dX8_endEvent_89 : decode cX8_endEvent 89 = .ok (.invokevirtual 259, 3) := by decide +kernel
theorem dX8_endEvent_92 : decode cX8_endEvent 92 = .ok (.ifCond .ne 9, 3) := by decide +kernel
theorem dX8_endEvent_95 : decode cX8_endEvent 95 = .ok (.aload_n 1, 1) := by decide +kernel
theorem dX8_endEvent_96 : decode cX8_endEvent 96 = .ok (.invokevirtual 263, 3) := by decide +kernel
theorem dX8_endEvent_99 : decode cX8_endEvent 99 = .ok (.iconst 4, 1) := by decide +kernel
theorem dX8_endEvent_100 : decode cX8_endEvent 100 = .ok (.ireturn, 1) := by decide +kernel
theorem dX8_endEvent_101 : decode cX8_endEvent 101 = .ok (.aload_n 1, 1) := by decide +kernel
theorem dX8_endEvent_102 : decode cX8_endEvent 102 = .ok (.invokevirtual 223, 3) := by decide +kernel
theorem dX8_endEvent_105 : decode cX8_endEvent 105 = .ok (.aload_n 0, 1) := by decide +kernel
theorem dX8_endEvent_106 : decode cX8_endEvent 106 = .ok (.getfield 79, 3) := by decide +kernel
theorem dX8_endEvent_109 : decode cX8_endEvent 109 = .ok (.invokevirtual 139, 3) := by decide +kernel
theorem dX8_endEvent_112 : decode cX8_endEvent 112 = .ok (.invokevirtual 266, 3) := by decide +kernel
theorem dX8_endEvent_115 : decode cX8_endEvent 115 = .ok (.aload_n 1, 1) := by decide +kernel
theorem dX8_endEvent_116 : decode cX8_endEvent 116 = .ok (.invokevirtual 223, 3) := by decide +kernel
theorem dX8_endEvent_119 : decode cX8_endEvent 119 = .ok (.aload_n 0, 1) := by decide +kernel
theorem dX8_endEvent_120 : decode cX8_endEvent 120 = .ok (.getfield 79, 3) := by decide +kernel
theorem dX8_endEvent_123 : decode cX8_endEvent 123 = .ok (.invokevirtual 269, 3) := by decide +kernel
theorem dX8_endEvent_126 : decode cX8_endEvent 126 = .ok (.aload_n 0, 1) := by decide +kernel
theorem dX8_endEvent_127 : decode cX8_endEvent 127 = .ok (.getfield 72, 3) := by decide +kernel
theorem dX8_endEvent_130 : decode cX8_endEvent 130 = .ok (.invokevirtual 125, 3) := by decide +kernel
theorem dX8_endEvent_133 : decode cX8_endEvent 133 = .ok (.invokevirtual 273, 3) := by decide +kernel
theorem dX8_endEvent_136 : decode cX8_endEvent 136 = .ok (.iload 8, 2) := by decide +kernel
theorem dX8_endEvent_138 : decode cX8_endEvent 138 = .ok (.iconst (-1), 1) := by decide +kernel
theorem dX8_endEvent_139 : decode cX8_endEvent 139 = .ok (.if_icmp .eq 28, 3) := by decide +kernel
theorem dX8_endEvent_142 : decode cX8_endEvent 142 = .ok (.aload_n 0, 1) := by decide +kernel
theorem dX8_endEvent_143 : decode cX8_endEvent 143 = .ok (.getfield 32, 3) := by decide +kernel
theorem dX8_endEvent_146 : decode cX8_endEvent 146 = .ok (.iload 8, 2) := by decide +kernel
theorem dX8_endEvent_148 : decode cX8_endEvent 148 = .ok (.aload_n 0, 1) := by decide +kernel
theorem dX8_endEvent_149 : decode cX8_endEvent 149 = .ok (.getfield 25, 3) := by decide +kernel
theorem dX8_endEvent_152 : decode cX8_endEvent 152 = .ok (.invokevirtual 276, 3) := by decide +kernel
theorem dX8_endEvent_155 : decode cX8_endEvent 155 = .ok (.aload_n 0, 1) := by decide +kernel
theorem dX8_endEvent_156 : decode cX8_endEvent 156 = .ok (.getfield 72, 3) := by decide +kernel
theorem dX8_endEvent_159 : decode cX8_endEvent 159 = .ok (.invokevirtual 125, 3) := by decide +kernel
theorem dX8_endEvent_162 : decode cX8_endEvent 162 = .ok (.iload 8, 2) := by decide +kernel
theorem dX8_endEvent_164 : decode cX8_endEvent 164 = .ok (.invokevirtual 280, 3) := by decide +kernel
theorem dX8_endEvent_167 : decode cX8_endEvent 167 = .ok (.iconst 0, 1) := by decide +kernel
theorem dX8_endEvent_168 : decode cX8_endEvent 168 = .ok (.ireturn, 1) := by decide +kernel
theorem dX8_interestIn_0 : decode cX8_interestIn 0 = .ok (.iconst 2, 1) := by decide +kernel
theorem dX8_interestIn_1 : decode cX8_interestIn 1 = .ok (.istore_n 3, 1) := by decide +kernel
theorem dX8_interestIn_2 : decode cX8_interestIn 2 = .ok (.iconst 0, 1) := by decide +kernel
theorem dX8_interestIn_3 : decode cX8_interestIn 3 = .ok (.istore 4, 2) := by decide +kernel
theorem dX8_interestIn_5 : decode cX8_interestIn 5 = .ok (.iload 4, 2) := by decide +kernel
theorem dX8_interestIn_7 : decode cX8_interestIn 7 = .ok (.aload_n 0, 1) := by decide +kernel
theorem dX8_interestIn_8 : decode cX8_interestIn 8 = .ok (.getfield 146, 3) := by decide +kernel
theorem dX8_interestIn_11 : decode cX8_interestIn 11 = .ok (.if_icmp .ge 50, 3) := by decide +kernel
theorem dX8_interestIn_14 : decode cX8_interestIn 14 = .ok (.aload_n 0, 1) := by decide +kernel
theorem dX8_interestIn_15 : decode cX8_interestIn 15 = .ok (.getfield 55, 3) := by decide +kernel
theorem dX8_interestIn_18 : decode cX8_interestIn 18 = .ok (.iload 4, 2) := by decide +kernel
theorem dX8_interestIn_20 : decode cX8_interestIn 20 = .ok (.aaload, 1) := by decide +kernel
theorem dX8_interestIn_21 : decode cX8_interestIn 21 = .ok (.astore 5, 2) := by decide +kernel
theorem dX8_interestIn_23 : decode cX8_interestIn 23 = .ok (.aload 5, 2) := by decide +kernel
theorem dX8_interestIn_25 : decode cX8_interestIn 25 = .ok (.iconst 1, 1) := by decide +kernel
theorem dX8_interestIn_26 : decode cX8_interestIn 26 = .ok (.invokevirtual 158, 3) := by decide +kernel
theorem dX8_interestIn_29 : decode cX8_interestIn 29 = .ok (.ifCond .eq 26, 3) := by decide +kernel
theorem dX8_interestIn_32 : decode cX8_interestIn 32 = .ok (.aload 5, 2) := by decide +kernel
theorem dX8_interestIn_34 : decode cX8_interestIn 34 = .ok (.iload_n 1, 1) := by decide +kernel
theorem dX8_interestIn_35 : decode cX8_interestIn 35 = .ok (.invokevirtual 217, 3) := by decide +kernel
theorem dX8_interestIn_38 : decode cX8_interestIn 38 = .ok (.ifCond .eq 17, 3) := by decide +kernel
theorem dX8_interestIn_41 : decode cX8_interestIn 41 = .ok (.iload_n 2, 1) := by decide +kernel
theorem dX8_interestIn_42 : decode cX8_interestIn 42 = .ok (.aload 5, 2) := by decide +kernel
theorem dX8_interestIn_44 : decode cX8_interestIn 44 = .ok (.iload_n 1, 1) := by decide +kernel
theorem dX8_interestIn_45 : decode cX8_interestIn 45 = .ok (.invokevirtual 220, 3) := by decide +kernel
theorem dX8_interestIn_48 : decode cX8_interestIn 48 = .ok (.if_icmp .lt 5, 3) := by decide +kernel
theorem dX8_interestIn_51 : decode cX8_interestIn 51 = .ok (.iconst 0, 1) := by decide +kernel
theorem dX8_interestIn_52 : decode cX8_interestIn 52 = .ok (.ireturn, 1) := by decide +kernel
theorem dX8_interestIn_53 : decode cX8_interestIn 53 = .ok (.iconst 3, 1) := by decide +kernel
theorem dX8_interestIn_54 : decode cX8_interestIn 54 = .ok (.istore_n 3, 1) := by decide +kernel
theorem dX8_interestIn_55 : decode cX8_interestIn 55 = .ok (.iinc 4 1, 3) := by decide +kernel
theorem dX8_interestIn_58 : decode cX8_interestIn 58 = .ok (.goto (-53), 3) := by decide +kernel
theorem dX8_interestIn_61 : decode cX8_interestIn 61 = .ok (.iload_n 3, 1) := by decide +kernel
theorem dX8_interestIn_62 : decode cX8_interestIn 62 = .ok (.ireturn, 1) := by decide +kernel
theorem dX8_compose_0 : decode cX8_compose 0 = .ok (.aload_n 0, 1) := by decide +kernel
theorem dX8_compose_1 : decode cX8_compose 1 = .ok (.getfield 79, 3) := by decide +kernel
theorem dX8_compose_4 : decode cX8_compose 4 = .ok (.invokevirtual 200, 3) := by decide +kernel
theorem dX8_compose_7 : decode cX8_compose 7 = .ok (.aload_n 0, 1) := by decide +kernel
theorem dX8_compose_8 : decode cX8_compose 8 = .ok (.getfield 79, 3) := by decide +kernel
theorem dX8_compose_11 : decode cX8_compose 11 = .ok (.iload_n 1, 1) := by decide +kernel
theorem dX8_compose_12 : decode cX8_compose 12 = .ok (.invokevirtual 266, 3) := by decide +kernel
theorem dX8_compose_15 : decode cX8_compose 15 = .ok (.aload_n 0, 1) := by decide +kernel
theorem dX8_compose_16 : decode cX8_compose 16 = .ok (.getfield 79, 3) := by decide +kernel
theorem dX8_compose_19 : decode cX8_compose 19 = .ok (.iload_n 2, 1) := by decide +kernel
theorem dX8_compose_20 : decode cX8_compose 20 = .ok (.invokevirtual 266, 3) := by decide +kernel
theorem dX8_compose_23 : decode cX8_compose 23 = .ok (.aload_n 0, 1) := by decide +kernel
theorem dX8_compose_24 : decode cX8_compose 24 = .ok (.getfield 79, 3) := by decide +kernel
theorem dX8_compose_27 : decode cX8_compose 27 = .ok (.aload_n 0, 1) := by decide +kernel
theorem dX8_compose_28 : decode cX8_compose 28 = .ok (.getfield 90, 3) := by decide +kernel
theorem dX8_compose_31 : decode cX8_compose 31 = .ok (.iload_n 2, 1) := by decide +kernel
theorem dX8_compose_32 : decode cX8_compose 32 = .ok (.isub, 1) := by decide +kernel
theorem dX8_compose_33 : decode cX8_compose 33 = .ok (.invokevirtual 266, 3) := by decide +kernel
theorem dX8_compose_36 : decode cX8_compose 36 = .ok (.aload_n 0, 1) := by decide +kernel
theorem dX8_compose_37 : decode cX8_compose 37 = .ok (.getfield 45, 3) := by decide +kernel
theorem dX8_compose_40 : decode cX8_compose 40 = .ok (.iload_n 1, 1) := by decide +kernel
theorem dX8_compose_41 : decode cX8_compose 41 = .ok (.iaload, 1) := by decide +kernel
theorem dX8_compose_42 : decode cX8_compose 42 = .ok (.ifCond .le 15, 3) := by decide +kernel
theorem dX8_compose_45 : decode cX8_compose 45 = .ok (.aload_n 0, 1) := by decide +kernel
theorem dX8_compose_46 : decode cX8_compose 46 = .ok (.getfield 79, 3) := by decide +kernel
theorem dX8_compose_49 : decode cX8_compose 49 = .ok (.iload 4, 2) := by decide +kernel
theorem dX8_compose_51 : decode cX8_compose 51 = .ok (.invokestatic 283, 3) := by decide +kernel
theorem dX8_compose_54 : decode cX8_compose 54 = .ok (.invokevirtual 266, 3) := by decide +kernel
theorem dX8_compose_57 : decode cX8_compose 57 = .ok (.aload_n 0, 1) := by decide +kernel
theorem dX8_compose_58 : decode cX8_compose 58 = .ok (.getfield 45, 3) := by decide +kernel
theorem dX8_compose_61 : decode cX8_compose 61 = .ok (.iload_n 1, 1) := by decide +kernel
theorem dX8_compose_62 : decode cX8_compose 62 = .ok (.iaload, 1) := by decide +kernel
theorem dX8_compose_63 : decode cX8_compose 63 = .ok (.iconst 1, 1) := by decide +kernel
theorem dX8_compose_64 : decode cX8_compose 64 = .ok (.if_icmp .le 15, 3) := by decide +kernel
theorem dX8_compose_67 : decode cX8_compose 67 = .ok (.aload_n 0, 1) := by decide +kernel
theorem dX8_compose_68 : decode cX8_compose 68 = .ok (.getfield 79, 3) := by decide +kernel
theorem dX8_compose_71 : decode cX8_compose 71 = .ok (.iload 5, 2) := by decide +kernel
theorem dX8_compose_73 : decode cX8_compose 73 = .ok (.invokestatic 283, 3) := by decide +kernel
theorem dX8_compose_76 : decode cX8_compose 76 = .ok (.invokevirtual 266, 3) := by decide +kernel
theorem dX8_compose_79 : decode cX8_compose 79 = .ok (.aload_n 0, 1) := by decide +kernel
theorem dX8_compose_80 : decode cX8_compose 80 = .ok (.getfield 45, 3) := by decide +kernel
theorem dX8_compose_83 : decode cX8_compose 83 = .ok (.iload_n 1, 1) := by decide +kernel
theorem dX8_compose_84 : decode cX8_compose 84 = .ok (.iaload, 1) := by decide +kernel
theorem dX8_compose_85 : decode cX8_compose 85 = .ok (.iconst 2, 1) := by decide +kernel
theorem dX8_compose_86 : decode cX8_compose 86 = .ok (.if_icmp .le 15, 3) := by decide +kernel
theorem dX8_compose_89 : decode cX8_compose 89 = .ok (.aload_n 0, 1) := by decide +kernel
theorem dX8_compose_90 : decode cX8_compose 90 = .ok (.getfield 79, 3) := by decide +kernel
theorem dX8_compose_93 : decode cX8_compose 93 = .ok (.iload 6, 2) := by decide +kernel
theorem dX8_compose_95 : decode cX8_compose 95 = .ok (.invokestatic 283, 3) := by decide +kernel
theorem dX8_compose_98 : decode cX8_compose 98 = .ok (.invokevirtual 266, 3) := by decide +kernel
theorem dX8_compose_101 : decode cX8_compose 101 = .ok (.iload_n 3, 1) := by decide +kernel
theorem dX8_compose_102 : decode cX8_compose 102 = .ok (.iconst (-1), 1) := by decide +kernel
theorem dX8_compose_103 : decode cX8_compose 103 = .ok (.if_icmp .eq 11, 3) := by decide +kernel
theorem dX8_compose_106 : decode cX8_compose 106 = .ok (.aload_n 0, 1) := by decide +kernel
theorem dX8_compose_107 : decode cX8_compose 107 = .ok (.getfield 79, 3) := by decide +kernel
theorem dX8_compose_110 : decode cX8_compose 110 = .ok (.iload_n 3, 1) := by decide +kernel
theorem dX8_compose_111 : decode cX8_compose 111 = .ok (.invokevirtual 266, 3) := by decide +kernel
theorem dX8_compose_114 : decode cX8_compose 114 = .ok (.return_, 1) := by decide +kernel
theorem dX8_zigzag_0 : decode cX8_zigzag 0 = .ok (.iload_n 0, 1) := by decide +kernel
theorem dX8_zigzag_1 : decode cX8_zigzag 1 = .ok (.ifCond .lt 9, 3) := by decide +kernel
theorem dX8_zigzag_4 : decode cX8_zigzag 4 = .ok (.iconst 2, 1) := by decide +kernel
theorem dX8_zigzag_5 : decode cX8_zigzag 5 = .ok (.iload_n 0, 1) := by decide +kernel
theorem dX8_zigzag_6 : decode cX8_zigzag 6 = .ok (.imul, 1) := by decide +kernel
theorem dX8_zigzag_7 : decode cX8_zigzag 7 = .ok (.goto 9, 3) := by decide +kernel
theorem dX8_zigzag_10 : decode cX8_zigzag 10 = .ok (.bipush (-2), 2) := by decide +kernel
theorem dX8_zigzag_12 : decode cX8_zigzag 12 = .ok (.iload_n 0, 1) := by decide +kernel
theorem dX8_zigzag_13 : decode cX8_zigzag 13 = .ok (.imul, 1) := by decide +kernel
theorem dX8_zigzag_14 : decode cX8_zigzag 14 = .ok (.iconst 1, 1) := by decide +kernel
theorem dX8_zigzag_15 : decode cX8_zigzag 15 = .ok (.isub, 1) := by decide +kernel
theorem dX8_zigzag_16 : decode cX8_zigzag 16 = .ok (.ireturn, 1) := by decide +kernel
theorem dX8_makeRoom_0 : decode cX8_makeRoom 0 = .ok (.aload_n 0, 1) := by decide +kernel
theorem dX8_makeRoom_1 : decode cX8_makeRoom 1 = .ok (.getfield 79, 3) := by decide +kernel
theorem dX8_makeRoom_4 : decode cX8_makeRoom 4 = .ok (.invokevirtual 139, 3) := by decide +kernel
theorem dX8_makeRoom_7 : decode cX8_makeRoom 7 = .ok (.invokestatic 286, 3) := by decide +kernel
theorem dX8_makeRoom_10 : decode cX8_makeRoom 10 = .ok (.aload_n 0, 1) := by decide +kernel
theorem dX8_makeRoom_11 : decode cX8_makeRoom 11 = .ok (.getfield 79, 3) := by decide +kernel
theorem dX8_makeRoom_14 : decode cX8_makeRoom 14 = .ok (.invokevirtual 139, 3) := by decide +kernel
theorem dX8_makeRoom_17 : decode cX8_makeRoom 17 = .ok (.iadd, 1) := by decide +kernel
theorem dX8_makeRoom_18 : decode cX8_makeRoom 18 = .ok (.istore_n 2, 1) := by decide +kernel
theorem dX8_makeRoom_19 : decode cX8_makeRoom 19 = .ok (.iload_n 2, 1) := by decide +kernel
theorem dX8_makeRoom_20 : decode cX8_makeRoom 20 = .ok (.aload_n 0, 1) := by decide +kernel
theorem dX8_makeRoom_21 : decode cX8_makeRoom 21 = .ok (.getfield 18, 3) := by decide +kernel
theorem dX8_makeRoom_24 : decode cX8_makeRoom 24 = .ok (.if_icmp .le 5, 3) := by decide +kernel
theorem dX8_makeRoom_27 : decode cX8_makeRoom 27 = .ok (.iconst 0, 1) := by decide +kernel
theorem dX8_makeRoom_28 : decode cX8_makeRoom 28 = .ok (.ireturn, 1) := by decide +kernel
theorem dX8_makeRoom_29 : decode cX8_makeRoom 29 = .ok (.iload_n 2, 1) := by decide +kernel
theorem dX8_makeRoom_30 : decode cX8_makeRoom 30 = .ok (.aload_n 1, 1) := by decide +kernel
theorem dX8_makeRoom_31 : decode cX8_makeRoom 31 = .ok (.invokevirtual 289, 3) := by decide +kernel
theorem dX8_makeRoom_34 : decode cX8_makeRoom 34 = .ok (.if_icmp .le 14, 3) := by decide +kernel
theorem dX8_makeRoom_37 : decode cX8_makeRoom 37 = .ok (.aload_n 0, 1) := by decide +kernel
theorem dX8_makeRoom_38 : decode cX8_makeRoom 38 = .ok (.getfield 65, 3) := by decide +kernel
theorem dX8_makeRoom_41 : decode cX8_makeRoom 41 = .ok (.aload_n 1, 1) := by decide +kernel
theorem dX8_makeRoom_42 : decode cX8_makeRoom 42 = .ok (.invokevirtual 292, 3) := by decide +kernel
theorem dX8_makeRoom_45 : decode cX8_makeRoom 45 = .ok (.ifCond .eq 7, 3) := by decide +kernel
theorem dX8_makeRoom_48 : decode cX8_makeRoom 48 = .ok (.iconst 1, 1) := by decide +kernel
theorem dX8_makeRoom_49 : decode cX8_makeRoom 49 = .ok (.goto 4, 3) := by decide +kernel
theorem dX8_makeRoom_52 : decode cX8_makeRoom 52 = .ok (.iconst 0, 1) := by decide +kernel
theorem dX8_makeRoom_53 : decode cX8_makeRoom 53 = .ok (.ireturn, 1) := by decide +kernel
theorem dX8_rotate_0 : decode cX8_rotate 0 = .ok (.aload_n 0, 1) := by decide +kernel
theorem dX8_rotate_1 : decode cX8_rotate 1 = .ok (.getfield 72, 3) := by decide +kernel
theorem dX8_rotate_4 : decode cX8_rotate 4 = .ok (.invokevirtual 125, 3) := by decide +kernel
theorem dX8_rotate_7 : decode cX8_rotate 7 = .ok (.astore_n 1, 1) := by decide +kernel
theorem dX8_rotate_8 : decode cX8_rotate 8 = .ok (.iconst 0, 1) := by decide +kernel
theorem dX8_rotate_9 : decode cX8_rotate 9 = .ok (.istore_n 2, 1) := by decide +kernel
theorem dX8_rotate_10 : decode cX8_rotate 10 = .ok (.iload_n 2, 1) := by decide +kernel
theorem dX8_rotate_11 : decode cX8_rotate 11 = .ok (.iconst 4, 1) := by decide +kernel
theorem dX8_rotate_12 : decode cX8_rotate 12 = .ok (.if_icmp .ge 21, 3) := by decide +kernel
theorem dX8_rotate_15 : decode cX8_rotate 15 = .ok (.aload_n 0, 1) := by decide +kernel
theorem dX8_rotate_16 : decode cX8_rotate 16 = .ok (.getfield 65, 3) := by decide +kernel
theorem dX8_rotate_19 : decode cX8_rotate 19 = .ok (.aload_n 1, 1) := by decide +kernel
theorem dX8_rotate_20 : decode cX8_rotate 20 = .ok (.invokevirtual 129, 3) := by decide +kernel
theorem dX8_rotate_23 : decode cX8_rotate 23 = .ok (.invokevirtual 135, 3) := by decide +kernel
theorem dX8_rotate_26 : decode cX8_rotate 26 = .ok (.pop, 1) := by decide +kernel
theorem dX8_rotate_27 : decode cX8_rotate 27 = .ok (.iinc 2 1, 3) := by decide +kernel
theorem dX8_rotate_30 : decode cX8_rotate 30 = .ok (.goto (-20), 3) := by decide +kernel
theorem dX8_rotate_33 : decode cX8_rotate 33 = .ok (.iconst 0, 1) := by decide +kernel
theorem dX8_rotate_34 : decode cX8_rotate 34 = .ok (.istore_n 2, 1) := by decide +kernel
theorem dX8_rotate_35 : decode cX8_rotate 35 = .ok (.iload_n 2, 1) := by decide +kernel
theorem dX8_rotate_36 : decode cX8_rotate 36 = .ok (.iconst 3, 1) := by decide +kernel
theorem dX8_rotate_37 : decode cX8_rotate 37 = .ok (.if_icmp .ge 25, 3) := by decide +kernel
theorem dX8_rotate_40 : decode cX8_rotate 40 = .ok (.aload_n 0, 1) := by decide +kernel
theorem dX8_rotate_41 : decode cX8_rotate 41 = .ok (.getfield 38, 3) := by decide +kernel
theorem dX8_rotate_44 : decode cX8_rotate 44 = .ok (.iload_n 2, 1) := by decide +kernel
theorem dX8_rotate_45 : decode cX8_rotate 45 = .ok (.aaload, 1) := by decide +kernel
theorem dX8_rotate_46 : decode cX8_rotate 46 = .ok (.invokevirtual 223, 3) := by decide +kernel
theorem dX8_rotate_49 : decode cX8_rotate 49 = .ok (.aload_n 1, 1) := by decide +kernel
theorem dX8_rotate_50 : decode cX8_rotate 50 = .ok (.invokevirtual 129, 3) := by decide +kernel
theorem dX8_rotate_53 : decode cX8_rotate 53 = .ok (.invokevirtual 295, 3) := by decide +kernel
theorem dX8_rotate_56 : decode cX8_rotate 56 = .ok (.iinc 2 1, 3) := by decide +kernel
theorem dX8_rotate_59 : decode cX8_rotate 59 = .ok (.goto (-24), 3) := by decide +kernel
theorem dX8_rotate_62 : decode cX8_rotate 62 = .ok (.iconst 0, 1) := by decide +kernel
theorem dX8_rotate_63 : decode cX8_rotate 63 = .ok (.istore_n 2, 1) := by decide +kernel
theorem dX8_rotate_64 : decode cX8_rotate 64 = .ok (.iload_n 2, 1) := by decide +kernel
theorem dX8_rotate_65 : decode cX8_rotate 65 = .ok (.iconst 3, 1) := by decide +kernel
theorem dX8_rotate_66 : decode cX8_rotate 66 = .ok (.if_icmp .ge 29, 3) := by decide +kernel
theorem dX8_rotate_69 : decode cX8_rotate 69 = .ok (.aload_n 0, 1) := by decide +kernel
theorem dX8_rotate_70 : decode cX8_rotate 70 = .ok (.getfield 38, 3) := by decide +kernel
theorem dX8_rotate_73 : decode cX8_rotate 73 = .ok (.iload_n 2, 1) := by decide +kernel
theorem dX8_rotate_74 : decode cX8_rotate 74 = .ok (.aaload, 1) := by decide +kernel
theorem dX8_rotate_75 : decode cX8_rotate 75 = .ok (.invokevirtual 298, 3) := by decide +kernel
theorem dX8_rotate_78 : decode cX8_rotate 78 = .ok (.istore_n 3, 1) := by decide +kernel
theorem dX8_rotate_79 : decode cX8_rotate 79 = .ok (.iload_n 3, 1) := by decide +kernel
theorem dX8_rotate_80 : decode cX8_rotate 80 = .ok (.ifCond .le 9, 3) := by decide +kernel
theorem dX8_rotate_83 : decode cX8_rotate 83 = .ok (.aload_n 1, 1) := by decide +kernel
theorem dX8_rotate_84 : decode cX8_rotate 84 = .ok (.iload_n 2, 1) := by decide +kernel
theorem dX8_rotate_85 : decode cX8_rotate 85 = .ok (.iload_n 3, 1) := by decide +kernel
theorem dX8_rotate_86 : decode cX8_rotate 86 = .ok (.invokevirtual 301, 3) := by decide +kernel
theorem dX8_rotate_89 : decode cX8_rotate 89 = .ok (.iinc 2 1, 3) := by decide +kernel
theorem dX8_rotate_92 : decode cX8_rotate 92 = .ok (.goto (-28), 3) := by decide +kernel
theorem dX8_rotate_95 : decode cX8_rotate 95 = .ok (.aload_n 0, 1) := by decide +kernel
theorem dX8_rotate_96 : decode cX8_rotate 96 = .ok (.getfield 72, 3) := by decide +kernel
theorem dX8_rotate_99 : decode cX8_rotate 99 = .ok (.aload_n 0, 1) := by decide +kernel
theorem dX8_rotate_100 : decode cX8_rotate 100 = .ok (.getfield 90, 3) := by decide +kernel
theorem dX8_rotate_103 : decode cX8_rotate 103 = .ok (.invokevirtual 304, 3) := by decide +kernel
theorem dX8_rotate_106 : decode cX8_rotate 106 = .ok (.return_, 1) := by decide +kernel
theorem dX8_endRecording_0 : decode cX8_endRecording 0 = .ok (.aload_n 0, 1) := by decide +kernel
theorem dX8_endRecording_1 : decode cX8_endRecording 1 = .ok (.getfield 72, 3) := by decide +kernel
theorem dX8_endRecording_4 : decode cX8_endRecording 4 = .ok (.invokevirtual 125, 3) := by decide +kernel
theorem dX8_endRecording_7 : decode cX8_endRecording 7 = .ok (.invokevirtual 181, 3) := by decide +kernel
theorem dX8_endRecording_10 : decode cX8_endRecording 10 = .ok (.istore_n 2, 1) := by decide +kernel
theorem dX8_endRecording_11 : decode cX8_endRecording 11 = .ok (.aload_n 0, 1) := by decide +kernel
theorem dX8_endRecording_12 : decode cX8_endRecording 12 = .ok (.invokevirtual 143, 3) := by decide +kernel
theorem dX8_endRecording_15 : decode cX8_endRecording 15 = .ok (.aload_n 1, 1) := by decide +kernel
theorem dX8_endRecording_16 : decode cX8_endRecording 16 = .ok (.iload_n 2, 1) := by decide +kernel
theorem dX8_endRecording_17 : decode cX8_endRecording 17 = .ok (.invokevirtual 307, 3) := by decide +kernel
theorem dX8_endRecording_20 : decode cX8_endRecording 20 = .ok (.iload_n 2, 1) := by decide +kernel
theorem dX8_endRecording_21 : decode cX8_endRecording 21 = .ok (.ireturn, 1) := by decide +kernel
theorem dX8_countItems_0 : decode cX8_countItems 0 = .ok (.iload_n 1, 1) := by decide +kernel
theorem dX8_countItems_1 : decode cX8_countItems 1 = .ok (.istore_n 3, 1) := by decide +kernel
theorem dX8_countItems_2 : decode cX8_countItems 2 = .ok (.iconst 1, 1) := by decide +kernel
theorem dX8_countItems_3 : decode cX8_countItems 3 = .ok (.istore 4, 2) := by decide +kernel
theorem dX8_countItems_5 : decode cX8_countItems 5 = .ok (.iload 4, 2) := by decide +kernel
theorem dX8_countItems_7 : decode cX8_countItems 7 = .ok (.bipush 40, 2) := by decide +kernel
theorem dX8_countItems_9 : decode cX8_countItems 9 = .ok (.if_icmp .gt 58, 3) := by decide +kernel
theorem dX8_countItems_12 : decode cX8_countItems 12 = .ok (.aload_n 0, 1) := by decide +kernel
theorem dX8_countItems_13 : decode cX8_countItems 13 = .ok (.iload_n 3, 1) := by decide +kernel
theorem dX8_countItems_14 : decode cX8_countItems 14 = .ok (.invokevirtual 310, 3) := by decide +kernel
theorem dX8_countItems_17 : decode cX8_countItems 17 = .ok (.istore 5, 2) := by decide +kernel
theorem dX8_countItems_19 : decode cX8_countItems 19 = .ok (.iload 5, 2) := by decide +kernel
theorem dX8_countItems_21 : decode cX8_countItems 21 = .ok (.iconst (-1), 1) := by decide +kernel
theorem dX8_countItems_22 : decode cX8_countItems 22 = .ok (.if_icmp .eq 12, 3) := by decide +kernel
theorem dX8_countItems_25 : decode cX8_countItems 25 = .ok (.iload 5, 2) := by decide +kernel
theorem dX8_countItems_27 : decode cX8_countItems 27 = .ok (.iload_n 2, 1) := by decide +kernel
theorem dX8_countItems_28 : decode cX8_countItems 28 = .ok (.if_icmp .ne 6, 3) := by decide +kernel
theorem dX8_countItems_31 : decode cX8_countItems 31 = .ok (.iload 4, 2) := by decide +kernel
theorem dX8_countItems_33 : decode cX8_countItems 33 = .ok (.ireturn, 1) := by decide +kernel
theorem dX8_countItems_34 : decode cX8_countItems 34 = .ok (.iload 5, 2) := by decide +kernel
theorem dX8_countItems_36 : decode cX8_countItems 36 = .ok (.iconst (-1), 1) := by decide +kernel
theorem dX8_countItems_37 : decode cX8_countItems 37 = .ok (.if_icmp .eq 17, 3) := by decide +kernel
theorem dX8_countItems_40 : decode cX8_countItems 40 = .ok (.aload_n 0, 1) := by decide +kernel
theorem dX8_countItems_41 : decode cX8_countItems 41 = .ok (.getfield 25, 3) := by decide +kernel
theorem dX8_countItems_44 : decode cX8_countItems 44 = .ok (.iload 5, 2) := by decide +kernel
theorem dX8_countItems_46 : decode cX8_countItems 46 = .ok (.invokevirtual 169, 3) := by decide +kernel
theorem dX8_countItems_49 : decode cX8_countItems 49 = .ok (.bipush 44, 2) := by decide +kernel
theorem dX8_countItems_51 : decode cX8_countItems 51 = .ok (.if_icmp .eq 5, 3) := by decide +kernel
theorem dX8_countItems_54 : decode cX8_countItems 54 = .ok (.iconst (-1), 1) := by decide +kernel
theorem dX8_countItems_55 : decode cX8_countItems 55 = .ok (.ireturn, 1) := by decide +kernel
theorem dX8_countItems_56 : decode cX8_countItems 56 = .ok (.iload 5, 2) := by decide +kernel
theorem dX8_countItems_58 : decode cX8_countItems 58 = .ok (.iconst 1, 1) := by decide +kernel
theorem dX8_countItems_59 : decode cX8_countItems 59 = .ok (.iadd, 1) := by decide +kernel
theorem dX8_countItems_60 : decode cX8_countItems 60 = .ok (.istore_n 3, 1) := by decide +kernel
theorem dX8_countItems_61 : decode cX8_countItems 61 = .ok (.iinc 4 1, 3) := by decide +kernel
theorem dX8_countItems_64 : decode cX8_countItems 64 = .ok (.goto (-59), 3) := by decide +kernel
theorem dX8_countItems_67 : decode cX8_countItems 67 = .ok (.iconst (-1), 1) := by decide +kernel
theorem dX8_countItems_68 : decode cX8_countItems 68 = .ok (.ireturn, 1) := by decide +kernel
