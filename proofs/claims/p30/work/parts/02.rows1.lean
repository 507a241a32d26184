theorem dX7_init_96 : decode cX7_init 96 = .ok (.new 23, 3) := by decide +kernel
theorem dX7_init_99 : decode cX7_init 99 = .ok (.dup, 1) := by decide +kernel
theorem dX7_init_100 : decode cX7_init 100 = .ok (.bipush 8, 2) := by decide +kernel
theorem dX7_init_102 : decode cX7_init 102 = .ok (.invokespecial 25, 3) := by decide +kernel
theorem dX7_init_105 : decode cX7_init 105 = .ok (.putfield 59, 3) := by decide +kernel
theorem dX7_init_108 : decode cX7_init 108 = .ok (.return_, 1) := by decide +kernel
theorem dX7_point_0 : decode cX7_point 0 = .ok (.iload_n 1, 1) := by decide +kernel
theorem dX7_point_1 : decode cX7_point 1 = .ok (.iload_n 2, 1) := by decide +kernel
theorem dX7_point_2 : decode cX7_point 2 = .ok (.invokestatic 62, 3) := by decide +kernel
theorem dX7_point_5 : decode cX7_point 5 = .ok (.ifCond .ne 13, 3) := by decide +kernel
theorem dX7_point_8 : decode cX7_point 8 = .ok (.new 66, 3) := by decide +kernel
theorem dX7_point_11 : decode cX7_point 11 = .ok (.dup, 1) := by decide +kernel
theorem dX7_point_12 : decode cX7_point 12 = .ok (.ldc 68, 2) := by decide +kernel
theorem dX7_point_14 : decode cX7_point 14 = .ok (.invokespecial 70, 3) := by decide +kernel
theorem dX7_point_17 : decode cX7_point 17 = .ok (.athrow, 1) := by decide +kernel
theorem dX7_point_18 : decode cX7_point 18 = .ok (.aload_n 0, 1) := by decide +kernel
theorem dX7_point_19 : decode cX7_point 19 = .ok (.getfield 10, 3) := by decide +kernel
theorem dX7_point_22 : decode cX7_point 22 = .ok (.getfield 73, 3) := by decide +kernel
theorem dX7_point_25 : decode cX7_point 25 = .ok (.invokevirtual 76, 3) := by decide +kernel
theorem dX7_point_28 : decode cX7_point 28 = .ok (.bipush 40, 2) := by decide +kernel
theorem dX7_point_30 : decode cX7_point 30 = .ok (.if_icmp .lt 13, 3) := by decide +kernel
theorem dX7_point_33 : decode cX7_point 33 = .ok (.new 80, 3) := by decide +kernel
theorem dX7_point_36 : decode cX7_point 36 = .ok (.dup, 1) := by decide +kernel
theorem dX7_point_37 : decode cX7_point 37 = .ok (.ldc 82, 2) := by decide +kernel
theorem dX7_point_39 : decode cX7_point 39 = .ok (.invokespecial 84, 3) := by decide +kernel
theorem dX7_point_42 : decode cX7_point 42 = .ok (.athrow, 1) := by decide +kernel
theorem dX7_point_43 : decode cX7_point 43 = .ok (.aload_n 0, 1) := by decide +kernel
theorem dX7_point_44 : decode cX7_point 44 = .ok (.getfield 19, 3) := by decide +kernel
theorem dX7_point_47 : decode cX7_point 47 = .ok (.aload_n 0, 1) := by decide +kernel
theorem dX7_point_48 : decode cX7_point 48 = .ok (.getfield 10, 3) := by decide +kernel
theorem dX7_point_51 : decode cX7_point 51 = .ok (.invokevirtual 85, 3) := by decide +kernel
theorem dX7_point_54 : decode cX7_point 54 = .ok (.aload_n 0, 1) := by decide +kernel
theorem dX7_point_55 : decode cX7_point 55 = .ok (.getfield 10, 3) := by decide +kernel
theorem dX7_point_58 : decode cX7_point 58 = .ok (.getfield 73, 3) := by decide +kernel
theorem dX7_point_61 : decode cX7_point 61 = .ok (.iload_n 1, 1) := by decide +kernel
theorem dX7_point_62 : decode cX7_point 62 = .ok (.iload_n 2, 1) := by decide +kernel
theorem dX7_point_63 : decode cX7_point 63 = .ok (.invokevirtual 89, 3) := by decide +kernel
theorem dX7_point_66 : decode cX7_point 66 = .ok (.aload_n 0, 1) := by decide +kernel
theorem dX7_point_67 : decode cX7_point 67 = .ok (.invokevirtual 93, 3) := by decide +kernel
theorem dX7_point_70 : decode cX7_point 70 = .ok (.aload_n 0, 1) := by decide +kernel
theorem dX7_point_71 : decode cX7_point 71 = .ok (.getfield 10, 3) := by decide +kernel
theorem dX7_point_74 : decode cX7_point 74 = .ok (.getfield 73, 3) := by decide +kernel
theorem dX7_point_77 : decode cX7_point 77 = .ok (.invokevirtual 76, 3) := by decide +kernel
theorem dX7_point_80 : decode cX7_point 80 = .ok (.ireturn, 1) := by decide +kernel
theorem dX7_go_0 : decode cX7_go 0 = .ok (.iload_n 1, 1) := by decide +kernel
theorem dX7_go_1 : decode cX7_go 1 = .ok (.invokestatic 96, 3) := by decide +kernel
theorem dX7_go_4 : decode cX7_go 4 = .ok (.ifCond .eq 14, 3) := by decide +kernel
theorem dX7_go_7 : decode cX7_go 7 = .ok (.iload_n 2, 1) := by decide +kernel
theorem dX7_go_8 : decode cX7_go 8 = .ok (.iconst 1, 1) := by decide +kernel
theorem dX7_go_9 : decode cX7_go 9 = .ok (.if_icmp .lt 9, 3) := by decide +kernel
theorem dX7_go_12 : decode cX7_go 12 = .ok (.iload_n 2, 1) := by decide +kernel
theorem dX7_go_13 : decode cX7_go 13 = .ok (.bipush 31, 2) := by decide +kernel
theorem dX7_go_15 : decode cX7_go 15 = .ok (.if_icmp .le 13, 3) := by decide +kernel
theorem dX7_go_18 : decode cX7_go 18 = .ok (.new 66, 3) := by decide +kernel
theorem dX7_go_21 : decode cX7_go 21 = .ok (.dup, 1) := by decide +kernel
theorem dX7_go_22 : decode cX7_go 22 = .ok (.ldc 100, 2) := by decide +kernel
theorem dX7_go_24 : decode cX7_go 24 = .ok (.invokespecial 70, 3) := by decide +kernel
theorem dX7_go_27 : decode cX7_go 27 = .ok (.athrow, 1) := by decide +kernel
theorem dX7_go_28 : decode cX7_go 28 = .ok (.aload_n 0, 1) := by decide +kernel
theorem dX7_go_29 : decode cX7_go 29 = .ok (.getfield 10, 3) := by decide +kernel
theorem dX7_go_32 : decode cX7_go 32 = .ok (.getfield 73, 3) := by decide +kernel
theorem dX7_go_35 : decode cX7_go 35 = .ok (.astore_n 3, 1) := by decide +kernel
theorem dX7_go_36 : decode cX7_go 36 = .ok (.aload_n 3, 1) := by decide +kernel
theorem dX7_go_37 : decode cX7_go 37 = .ok (.invokevirtual 76, 3) := by decide +kernel
theorem dX7_go_40 : decode cX7_go 40 = .ok (.ifCond .ne 7, 3) := by decide +kernel
theorem dX7_go_43 : decode cX7_go 43 = .ok (.iconst 1, 1) := by decide +kernel
theorem dX7_go_44 : decode cX7_go 44 = .ok (.goto 4, 3) := by decide +kernel
theorem dX7_go_47 : decode cX7_go 47 = .ok (.iconst 0, 1) := by decide +kernel
theorem dX7_go_48 : decode cX7_go 48 = .ok (.istore 4, 2) := by decide +kernel
theorem dX7_go_50 : decode cX7_go 50 = .ok (.iload 4, 2) := by decide +kernel
theorem dX7_go_52 : decode cX7_go 52 = .ok (.ifCond .eq 7, 3) := by decide +kernel
theorem dX7_go_55 : decode cX7_go 55 = .ok (.iconst 0, 1) := by decide +kernel
theorem dX7_go_56 : decode cX7_go 56 = .ok (.goto 13, 3) := by decide +kernel
theorem dX7_go_59 : decode cX7_go 59 = .ok (.aload_n 3, 1) := by decide +kernel
theorem dX7_go_60 : decode cX7_go 60 = .ok (.aload_n 3, 1) := by decide +kernel
theorem dX7_go_61 : decode cX7_go 61 = .ok (.invokevirtual 76, 3) := by decide +kernel
theorem dX7_go_64 : decode cX7_go 64 = .ok (.iconst 1, 1) := by decide +kernel
theorem dX7_go_65 : decode cX7_go 65 = .ok (.isub, 1) := by decide +kernel
theorem dX7_go_66 : decode cX7_go 66 = .ok (.invokevirtual 102, 3) := by decide +kernel
theorem dX7_go_69 : decode cX7_go 69 = .ok (.istore 5, 2) := by decide +kernel
theorem dX7_go_71 : decode cX7_go 71 = .ok (.iload 4, 2) := by decide +kernel
theorem dX7_go_73 : decode cX7_go 73 = .ok (.ifCond .eq 7, 3) := by decide +kernel
theorem dX7_go_76 : decode cX7_go 76 = .ok (.iconst 0, 1) := by decide +kernel
theorem dX7_go_77 : decode cX7_go 77 = .ok (.goto 13, 3) := by decide +kernel
theorem dX7_go_80 : decode cX7_go 80 = .ok (.aload_n 3, 1) := by decide +kernel
theorem dX7_go_81 : decode cX7_go 81 = .ok (.aload_n 3, 1) := by decide +kernel
theorem dX7_go_82 : decode cX7_go 82 = .ok (.invokevirtual 76, 3) := by decide +kernel
theorem dX7_go_85 : decode cX7_go 85 = .ok (.iconst 1, 1) := by decide +kernel
theorem dX7_go_86 : decode cX7_go 86 = .ok (.isub, 1) := by decide +kernel
theorem dX7_go_87 : decode cX7_go 87 = .ok (.invokevirtual 106, 3) := by decide +kernel
theorem dX7_go_90 : decode cX7_go 90 = .ok (.istore 6, 2) := by decide +kernel
theorem dX7_go_92 : decode cX7_go 92 = .ok (.getstatic 109, 3) := by decide +kernel
theorem dX7_go_95 : decode cX7_go 95 = .ok (.iload_n 1, 1) := by decide +kernel
theorem dX7_go_96 : decode cX7_go 96 = .ok (.invokestatic 113, 3) := by decide +kernel
theorem dX7_go_99 : decode cX7_go 99 = .ok (.istore 7, 2) := by decide +kernel
theorem dX7_go_101 : decode cX7_go 101 = .ok (.getstatic 117, 3) := by decide +kernel
theorem dX7_go_104 : decode cX7_go 104 = .ok (.iload_n 1, 1) := by decide +kernel
theorem dX7_go_105 : decode cX7_go 105 = .ok (.invokestatic 113, 3) := by decide +kernel
theorem dX7_go_108 : decode cX7_go 108 = .ok (.istore 8, 2) := by decide +kernel
theorem dX7_go_110 : decode cX7_go 110 = .ok (.iload_n 2, 1) := by decide +kernel
theorem dX7_go_111 : decode cX7_go 111 = .ok (.iload 5, 2) := by decide +kernel
theorem dX7_go_113 : decode cX7_go 113 = .ok (.iload 7, 2) := by decide +kernel
theorem dX7_go_115 : decode cX7_go 115 = .ok (.invokestatic 120, 3) := by decide +kernel
theorem dX7_go_118 : decode cX7_go 118 = .ok (.iload 6, 2) := by decide +kernel
theorem dX7_go_120 : decode cX7_go 120 = .ok (.iload 8, 2) := by decide +kernel
theorem dX7_go_122 : decode cX7_go 122 = .ok (.invokestatic 120, 3) := by decide +kernel
theorem dX7_go_125 : decode cX7_go 125 = .ok (.invokestatic 124, 3) := by decide +kernel
theorem dX7_go_128 : decode cX7_go 128 = .ok (.invokestatic 124, 3) := by decide +kernel
theorem dX7_go_131 : decode cX7_go 131 = .ok (.istore 9, 2) := by decide +kernel
theorem dX7_go_133 : decode cX7_go 133 = .ok (.aload_n 3, 1) := by decide +kernel
theorem dX7_go_134 : decode cX7_go 134 = .ok (.invokevirtual 76, 3) := by decide +kernel
theorem dX7_go_137 : decode cX7_go 137 = .ok (.iload 4, 2) := by decide +kernel
theorem dX7_go_139 : decode cX7_go 139 = .ok (.ifCond .eq 7, 3) := by decide +kernel
theorem dX7_go_142 : decode cX7_go 142 = .ok (.iconst 1, 1) := by decide +kernel
theorem dX7_go_143 : decode cX7_go 143 = .ok (.goto 4, 3) := by decide +kernel
theorem dX7_go_146 : decode cX7_go 146 = .ok (.iconst 0, 1) := by decide +kernel
theorem dX7_go_147 : decode cX7_go 147 = .ok (.iadd, 1) := by decide +kernel
theorem dX7_go_148 : decode cX7_go 148 = .ok (.iload 9, 2) := by decide +kernel
theorem dX7_go_150 : decode cX7_go 150 = .ok (.iadd, 1) := by decide +kernel
theorem dX7_go_151 : decode cX7_go 151 = .ok (.bipush 40, 2) := by decide +kernel
theorem dX7_go_153 : decode cX7_go 153 = .ok (.if_icmp .le 13, 3) := by decide +kernel
theorem dX7_go_156 : decode cX7_go 156 = .ok (.new 80, 3) := by decide +kernel
theorem dX7_go_159 : decode cX7_go 159 = .ok (.dup, 1) := by decide +kernel
theorem dX7_go_160 : decode cX7_go 160 = .ok (.ldc 129, 2) := by decide +kernel
theorem dX7_go_162 : decode cX7_go 162 = .ok (.invokespecial 84, 3) := by decide +kernel
theorem dX7_go_165 : decode cX7_go 165 = .ok (.athrow, 1) := by decide +kernel
theorem dX7_go_166 : decode cX7_go 166 = .ok (.aload_n 0, 1) := by decide +kernel
theorem dX7_go_167 : decode cX7_go 167 = .ok (.getfield 19, 3) := by decide +kernel
theorem dX7_go_170 : decode cX7_go 170 = .ok (.aload_n 0, 1) := by decide +kernel
theorem dX7_go_171 : decode cX7_go 171 = .ok (.getfield 10, 3) := by decide +kernel
theorem dX7_go_174 : decode cX7_go 174 = .ok (.invokevirtual 85, 3) := by decide +kernel
theorem dX7_go_177 : decode cX7_go 177 = .ok (.iload 4, 2) := by decide +kernel
theorem dX7_go_179 : decode cX7_go 179 = .ok (.ifCond .eq 11, 3) := by decide +kernel
theorem dX7_go_182 : decode cX7_go 182 = .ok (.aload_n 3, 1) := by decide +kernel
theorem dX7_go_183 : decode cX7_go 183 = .ok (.iload 5, 2) := by decide +kernel
theorem dX7_go_185 : decode cX7_go 185 = .ok (.iload 6, 2) := by decide +kernel
theorem dX7_go_187 : decode cX7_go 187 = .ok (.invokevirtual 89, 3) := by decide +kernel
theorem dX7_go_190 : decode cX7_go 190 = .ok (.iconst 1, 1) := by decide +kernel
theorem dX7_go_191 : decode cX7_go 191 = .ok (.istore 10, 2) := by decide +kernel
theorem dX7_go_193 : decode cX7_go 193 = .ok (.iload 10, 2) := by decide +kernel
theorem dX7_go_195 : decode cX7_go 195 = .ok (.iload 9, 2) := by decide +kernel
theorem dX7_go_197 : decode cX7_go 197 = .ok (.if_icmp .gt 29, 3) := by decide +kernel
theorem dX7_go_200 : decode cX7_go 200 = .ok (.aload_n 3, 1) := by decide +kernel
theorem dX7_go_201 : decode cX7_go 201 = .ok (.iload 5, 2) := by decide +kernel
theorem dX7_go_203 : decode cX7_go 203 = .ok (.iload 10, 2) := by decide +kernel
theorem dX7_go_205 : decode cX7_go 205 = .ok (.iload 7, 2) := by decide +kernel
theorem dX7_go_207 : decode cX7_go 207 = .ok (.imul, 1) := by decide +kernel
theorem dX7_go_208 : decode cX7_go 208 = .ok (.iadd, 1) := by decide +kernel
theorem dX7_go_209 : decode cX7_go 209 = .ok (.iload 6, 2) := by decide +kernel
theorem dX7_go_211 : decode cX7_go 211 = .ok (.iload 10, 2) := by decide +kernel
theorem dX7_go_213 : decode cX7_go 213 = .ok (.iload 8, 2) := by decide +kernel
theorem dX7_go_215 : decode cX7_go 215 = .ok (.imul, 1) := by decide +kernel
theorem dX7_go_216 : decode cX7_go 216 = .ok (.iadd, 1) := by decide +kernel
theorem dX7_go_217 : decode cX7_go 217 = .ok (.invokevirtual 89, 3) := by decide +kernel
theorem dX7_go_220 : decode cX7_go 220 = .ok (.iinc 10 1, 3) := by decide +kernel
theorem dX7_go_223 : decode cX7_go 223 = .ok (.goto (-30), 3) := by decide +kernel
theorem dX7_go_226 : decode cX7_go 226 = .ok (.aload_n 0, 1) := by decide +kernel
theorem dX7_go_227 : decode cX7_go 227 = .ok (.invokevirtual 93, 3) := by decide +kernel
theorem dX7_go_230 : decode cX7_go 230 = .ok (.iload 9, 2) := by decide +kernel
theorem dX7_go_232 : decode cX7_go 232 = .ok (.ireturn, 1) := by decide +kernel
theorem dX7_begin_0 : decode cX7_begin 0 = .ok (.aload_n 0, 1) := by decide +kernel
theorem dX7_begin_1 : decode cX7_begin 1 = .ok (.getfield 10, 3) := by decide +kernel
theorem dX7_begin_4 : decode cX7_begin 4 = .ok (.getfield 73, 3) := by decide +kernel
theorem dX7_begin_7 : decode cX7_begin 7 = .ok (.invokevirtual 76, 3) := by decide +kernel
theorem dX7_begin_10 : decode cX7_begin 10 = .ok (.istore_n 1, 1) := by decide +kernel
theorem dX7_begin_11 : decode cX7_begin 11 = .ok (.aload_n 0, 1) := by decide +kernel
theorem dX7_begin_12 : decode cX7_begin 12 = .ok (.getfield 19, 3) := by decide +kernel
theorem dX7_begin_15 : decode cX7_begin 15 = .ok (.aload_n 0, 1) := by decide +kernel
theorem dX7_begin_16 : decode cX7_begin 16 = .ok (.getfield 10, 3) := by decide +kernel
theorem dX7_begin_19 : decode cX7_begin 19 = .ok (.invokevirtual 85, 3) := by decide +kernel
theorem dX7_begin_22 : decode cX7_begin 22 = .ok (.aload_n 0, 1) := by decide +kernel
theorem dX7_begin_23 : decode cX7_begin 23 = .ok (.getfield 10, 3) := by decide +kernel
theorem dX7_begin_26 : decode cX7_begin 26 = .ok (.getfield 73, 3) := by decide +kernel
theorem dX7_begin_29 : decode cX7_begin 29 = .ok (.iconst 0, 1) := by decide +kernel
theorem dX7_begin_30 : decode cX7_begin 30 = .ok (.invokevirtual 133, 3) := by decide +kernel
theorem dX7_begin_33 : decode cX7_begin 33 = .ok (.aload_n 0, 1) := by decide +kernel
theorem dX7_begin_34 : decode cX7_begin 34 = .ok (.invokevirtual 93, 3) := by decide +kernel
theorem dX7_begin_37 : decode cX7_begin 37 = .ok (.iload_n 1, 1) := by decide +kernel
theorem dX7_begin_38 : decode cX7_begin 38 = .ok (.ireturn, 1) := by decide +kernel
theorem dX7_learn_0 : decode cX7_learn 0 = .ok (.aload_n 0, 1) := by decide +kernel
theorem dX7_learn_1 : decode cX7_learn 1 = .ok (.getfield 35, 3) := by decide +kernel
theorem dX7_learn_4 : decode cX7_learn 4 = .ok (.getfield 147, 3) := by decide +kernel
theorem dX7_learn_7 : decode cX7_learn 7 = .ok (.invokevirtual 150, 3) := by decide +kernel
theorem dX7_learn_10 : decode cX7_learn 10 = .ok (.istore_n 1, 1) := by decide +kernel
theorem dX7_learn_11 : decode cX7_learn 11 = .ok (.aload_n 0, 1) := by decide +kernel
theorem dX7_learn_12 : decode cX7_learn 12 = .ok (.getfield 10, 3) := by decide +kernel
theorem dX7_learn_15 : decode cX7_learn 15 = .ok (.getfield 151, 3) := by decide +kernel
theorem dX7_learn_18 : decode cX7_learn 18 = .ok (.invokevirtual 155, 3) := by decide +kernel
theorem dX7_learn_21 : decode cX7_learn 21 = .ok (.bipush 10, 2) := by decide +kernel
theorem dX7_learn_23 : decode cX7_learn 23 = .ok (.if_icmp .ge 14, 3) := by decide +kernel
theorem dX7_learn_26 : decode cX7_learn 26 = .ok (.iload_n 1, 1) := by decide +kernel
theorem dX7_learn_27 : decode cX7_learn 27 = .ok (.iconst 1, 1) := by decide +kernel
theorem dX7_learn_28 : decode cX7_learn 28 = .ok (.if_icmp .lt 9, 3) := by decide +kernel
theorem dX7_learn_31 : decode cX7_learn 31 = .ok (.iload_n 1, 1) := by decide +kernel
theorem dX7_learn_32 : decode cX7_learn 32 = .ok (.bipush 8, 2) := by decide +kernel
theorem dX7_learn_34 : decode cX7_learn 34 = .ok (.if_icmp .le 13, 3) := by decide +kernel
theorem dX7_learn_37 : decode cX7_learn 37 = .ok (.new 80, 3) := by decide +kernel
theorem dX7_learn_40 : decode cX7_learn 40 = .ok (.dup, 1) := by decide +kernel
theorem dX7_learn_41 : decode cX7_learn 41 = .ok (.ldc 158, 2) := by decide +kernel
theorem dX7_learn_43 : decode cX7_learn 43 = .ok (.invokespecial 84, 3) := by decide +kernel
theorem dX7_learn_46 : decode cX7_learn 46 = .ok (.athrow, 1) := by decide +kernel
theorem dX7_learn_47 : decode cX7_learn 47 = .ok (.aload_n 0, 1) := by decide +kernel
theorem dX7_learn_48 : decode cX7_learn 48 = .ok (.aload_n 0, 1) := by decide +kernel
theorem dX7_learn_49 : decode cX7_learn 49 = .ok (.getfield 35, 3) := by decide +kernel
theorem dX7_learn_52 : decode cX7_learn 52 = .ok (.getfield 147, 3) := by decide +kernel
theorem dX7_learn_55 : decode cX7_learn 55 = .ok (.invokevirtual 160, 3) := by decide +kernel
theorem dX7_learn_58 : decode cX7_learn 58 = .ok (.ifCond .eq 13, 3) := by decide +kernel
theorem dX7_learn_61 : decode cX7_learn 61 = .ok (.new 80, 3) := by decide +kernel
theorem dX7_learn_64 : decode cX7_learn 64 = .ok (.dup, 1) := by decide +kernel
theorem dX7_learn_65 : decode cX7_learn 65 = .ok (.ldc 164, 2) := by decide +kernel
theorem dX7_learn_67 : decode cX7_learn 67 = .ok (.invokespecial 84, 3) := by decide +kernel
theorem dX7_learn_70 : decode cX7_learn 70 = .ok (.athrow, 1) := by decide +kernel
theorem dX7_learn_71 : decode cX7_learn 71 = .ok (.aload_n 0, 1) := by decide +kernel
theorem dX7_learn_72 : decode cX7_learn 72 = .ok (.aload_n 0, 1) := by decide +kernel
theorem dX7_learn_73 : decode cX7_learn 73 = .ok (.getfield 35, 3) := by decide +kernel
theorem dX7_learn_76 : decode cX7_learn 76 = .ok (.getfield 147, 3) := by decide +kernel
theorem dX7_learn_79 : decode cX7_learn 79 = .ok (.invokevirtual 166, 3) := by decide +kernel
theorem dX7_learn_82 : decode cX7_learn 82 = .ok (.ireturn, 1) := by decide +kernel
theorem dX7_forget_0 : decode cX7_forget 0 = .ok (.aload_n 0, 1) := by decide +kernel
theorem dX7_forget_1 : decode cX7_forget 1 = .ok (.iload_n 1, 1) := by decide +kernel
theorem dX7_forget_2 : decode cX7_forget 2 = .ok (.invokevirtual 185, 3) := by decide +kernel
theorem dX7_forget_5 : decode cX7_forget 5 = .ok (.ifCond .ne 13, 3) := by decide +kernel
theorem dX7_forget_8 : decode cX7_forget 8 = .ok (.new 188, 3) := by decide +kernel
theorem dX7_forget_11 : decode cX7_forget 11 = .ok (.dup, 1) := by decide +kernel
theorem dX7_forget_12 : decode cX7_forget 12 = .ok (.ldc 190, 2) := by decide +kernel
theorem dX7_forget_14 : decode cX7_forget 14 = .ok (.invokespecial 192, 3) := by decide +kernel
theorem dX7_forget_17 : decode cX7_forget 17 = .ok (.athrow, 1) := by decide +kernel
theorem dX7_forget_18 : decode cX7_forget 18 = .ok (.aload_n 0, 1) := by decide +kernel
theorem dX7_forget_19 : decode cX7_forget 19 = .ok (.getfield 19, 3) := by decide +kernel
theorem dX7_forget_22 : decode cX7_forget 22 = .ok (.aload_n 0, 1) := by decide +kernel
theorem dX7_forget_23 : decode cX7_forget 23 = .ok (.getfield 10, 3) := by decide +kernel
theorem dX7_forget_26 : decode cX7_forget 26 = .ok (.invokevirtual 85, 3) := by decide +kernel
theorem dX7_forget_29 : decode cX7_forget 29 = .ok (.aload_n 0, 1) := by decide +kernel
theorem dX7_forget_30 : decode cX7_forget 30 = .ok (.getfield 10, 3) := by decide +kernel
theorem dX7_forget_33 : decode cX7_forget 33 = .ok (.getfield 151, 3) := by decide +kernel
theorem dX7_forget_36 : decode cX7_forget 36 = .ok (.iload_n 1, 1) := by decide +kernel
theorem dX7_forget_37 : decode cX7_forget 37 = .ok (.invokevirtual 193, 3) := by decide +kernel
theorem dX7_forget_40 : decode cX7_forget 40 = .ok (.aload_n 0, 1) := by decide +kernel
theorem dX7_forget_41 : decode cX7_forget 41 = .ok (.invokevirtual 93, 3) := by decide +kernel
theorem dX7_forget_44 : decode cX7_forget 44 = .ok (.aload_n 0, 1) := by decide +kernel
theorem dX7_forget_45 : decode cX7_forget 45 = .ok (.getfield 10, 3) := by decide +kernel
theorem dX7_forget_48 : decode cX7_forget 48 = .ok (.getfield 151, 3) := by decide +kernel
theorem dX7_forget_51 : decode cX7_forget 51 = .ok (.invokevirtual 155, 3) := by decide +kernel
theorem dX7_forget_54 : decode cX7_forget 54 = .ok (.ireturn, 1) := by decide +kernel
theorem dX7_set_0 : decode cX7_set 0 = .ok (.iload_n 1, 1) := by decide +kernel
theorem dX7_set_1 : decode cX7_set 1 = .ok (.invokestatic 196, 3) := by decide +kernel
theorem dX7_set_4 : decode cX7_set 4 = .ok (.ifCond .ne 13, 3) := by decide +kernel
theorem dX7_set_7 : decode cX7_set 7 = .ok (.new 188, 3) := by decide +kernel
theorem dX7_set_10 : decode cX7_set 10 = .ok (.dup, 1) := by decide +kernel
theorem dX7_set_11 : decode cX7_set 11 = .ok (.ldc 199, 2) := by decide +kernel
theorem dX7_set_13 : decode cX7_set 13 = .ok (.invokespecial 192, 3) := by decide +kernel
theorem dX7_set_16 : decode cX7_set 16 = .ok (.athrow, 1) := by decide +kernel
theorem dX7_set_17 : decode cX7_set 17 = .ok (.iload_n 2, 1) := by decide +kernel
theorem dX7_set_18 : decode cX7_set 18 = .ok (.getstatic 201, 3) := by decide +kernel
theorem dX7_set_21 : decode cX7_set 21 = .ok (.iload_n 1, 1) := by decide +kernel
theorem dX7_set_22 : decode cX7_set 22 = .ok (.invokestatic 113, 3) := by decide +kernel
theorem dX7_set_25 : decode cX7_set 25 = .ok (.if_icmp .lt 14, 3) := by decide +kernel
theorem dX7_set_28 : decode cX7_set 28 = .ok (.iload_n 2, 1) := by decide +kernel
theorem dX7_set_29 : decode cX7_set 29 = .ok (.getstatic 204, 3) := by decide +kernel
theorem dX7_set_32 : decode cX7_set 32 = .ok (.iload_n 1, 1) := by decide +kernel
theorem dX7_set_33 : decode cX7_set 33 = .ok (.invokestatic 113, 3) := by decide +kernel
theorem dX7_set_36 : decode cX7_set 36 = .ok (.if_icmp .le 13, 3) := by decide +kernel
theorem dX7_set_39 : decode cX7_set 39 = .ok (.new 66, 3) := by decide +kernel
theorem dX7_set_42 : decode cX7_set 42 = .ok (.dup, 1) := by decide +kernel
theorem dX7_set_43 : decode cX7_set 43 = .ok (.ldc 207, 2) := by decide +kernel
theorem dX7_set_45 : decode cX7_set 45 = .ok (.invokespecial 70, 3) := by decide +kernel
theorem dX7_set_48 : decode cX7_set 48 = .ok (.athrow, 1) := by decide +kernel
theorem dX7_set_49 : decode cX7_set 49 = .ok (.aload_n 0, 1) := by decide +kernel
theorem dX7_set_50 : decode cX7_set 50 = .ok (.getfield 56, 3) := by decide +kernel
theorem dX7_set_53 : decode cX7_set 53 = .ok (.aload_n 0, 1) := by decide +kernel
theorem dX7_set_54 : decode cX7_set 54 = .ok (.getfield 10, 3) := by decide +kernel
theorem dX7_set_57 : decode cX7_set 57 = .ok (.getfield 209, 3) := by decide +kernel
theorem dX7_set_60 : decode cX7_set 60 = .ok (.invokevirtual 212, 3) := by decide +kernel
theorem dX7_set_63 : decode cX7_set 63 = .ok (.aload_n 0, 1) := by decide +kernel
theorem dX7_set_64 : decode cX7_set 64 = .ok (.getfield 56, 3) := by decide +kernel
theorem dX7_set_67 : decode cX7_set 67 = .ok (.iload_n 1, 1) := by decide +kernel
theorem dX7_set_68 : decode cX7_set 68 = .ok (.iload_n 2, 1) := by decide +kernel
theorem dX7_set_69 : decode cX7_set 69 = .ok (.invokevirtual 215, 3) := by decide +kernel
theorem dX7_set_72 : decode cX7_set 72 = .ok (.aload_n 0, 1) := by decide +kernel
theorem dX7_set_73 : decode cX7_set 73 = .ok (.aload_n 0, 1) := by decide +kernel
theorem dX7_set_74 : decode cX7_set 74 = .ok (.getfield 56, 3) := by decide +kernel
theorem dX7_set_77 : decode cX7_set 77 = .ok (.invokevirtual 218, 3) := by decide +kernel
theorem dX7_set_80 : decode cX7_set 80 = .ok (.istore_n 3, 1) := by decide +kernel
theorem dX7_set_81 : decode cX7_set 81 = .ok (.iload_n 3, 1) := by decide +kernel
theorem dX7_set_82 : decode cX7_set 82 = .ok (.iconst (-1), 1) := by decide +kernel
theorem dX7_set_83 : decode cX7_set 83 = .ok (.if_icmp .eq 27, 3) := by decide +kernel
theorem dX7_set_86 : decode cX7_set 86 = .ok (.iload_n 3, 1) := by decide +kernel
theorem dX7_set_87 : decode cX7_set 87 = .ok (.iconst 2, 1) := by decide +kernel
theorem dX7_set_88 : decode cX7_set 88 = .ok (.aload_n 0, 1) := by decide +kernel
theorem dX7_set_89 : decode cX7_set 89 = .ok (.getfield 56, 3) := by decide +kernel
theorem dX7_set_92 : decode cX7_set 92 = .ok (.iconst 4, 1) := by decide +kernel
theorem dX7_set_93 : decode cX7_set 93 = .ok (.invokevirtual 180, 3) := by decide +kernel
theorem dX7_set_96 : decode cX7_set 96 = .ok (.imul, 1) := by decide +kernel
theorem dX7_set_97 : decode cX7_set 97 = .ok (.if_icmp .gt 13, 3) := by decide +kernel
theorem dX7_set_100 : decode cX7_set 100 = .ok (.new 80, 3) := by decide +kernel
theorem dX7_set_103 : decode cX7_set 103 = .ok (.dup, 1) := by decide +kernel
theorem dX7_set_104 : decode cX7_set 104 = .ok (.ldc 221, 2) := by decide +kernel
theorem dX7_set_106 : decode cX7_set 106 = .ok (.invokespecial 84, 3) := by decide +kernel
theorem dX7_set_109 : decode cX7_set 109 = .ok (.athrow, 1) := by decide +kernel
theorem dX7_set_110 : decode cX7_set 110 = .ok (.aload_n 0, 1) := by decide +kernel
theorem dX7_set_111 : decode cX7_set 111 = .ok (.getfield 10, 3) := by decide +kernel
theorem dX7_set_114 : decode cX7_set 114 = .ok (.getfield 209, 3) := by decide +kernel
theorem dX7_set_117 : decode cX7_set 117 = .ok (.iload_n 1, 1) := by decide +kernel
theorem dX7_set_118 : decode cX7_set 118 = .ok (.invokevirtual 180, 3) := by decide +kernel
theorem dX7_set_121 : decode cX7_set 121 = .ok (.istore 4, 2) := by decide +kernel
theorem dX7_set_123 : decode cX7_set 123 = .ok (.aload_n 0, 1) := by decide +kernel
theorem dX7_set_124 : decode cX7_set 124 = .ok (.getfield 19, 3) := by decide +kernel
theorem dX7_set_127 : decode cX7_set 127 = .ok (.aload_n 0, 1) := by decide +kernel
theorem dX7_set_128 : decode cX7_set 128 = .ok (.getfield 10, 3) := by decide +kernel
theorem dX7_set_131 : decode cX7_set 131 = .ok (.invokevirtual 85, 3) := by decide +kernel
theorem dX7_set_134 : decode cX7_set 134 = .ok (.aload_n 0, 1) := by decide +kernel
theorem dX7_set_135 : decode cX7_set 135 = .ok (.getfield 10, 3) := by decide +kernel
theorem dX7_set_138 : decode cX7_set 138 = .ok (.getfield 209, 3) := by decide +kernel
theorem dX7_set_141 : decode cX7_set 141 = .ok (.iload_n 1, 1) := by decide +kernel
theorem dX7_set_142 : decode cX7_set 142 = .ok (.iload_n 2, 1) := by decide +kernel
theorem dX7_set_143 : decode cX7_set 143 = .ok (.invokevirtual 215, 3) := by decide +kernel
theorem dX7_set_146 : decode cX7_set 146 = .ok (.aload_n 0, 1) := by decide +kernel
theorem dX7_set_147 : decode cX7_set 147 = .ok (.invokevirtual 93, 3) := by decide +kernel
theorem dX7_set_150 : decode cX7_set 150 = .ok (.iload 4, 2) := by decide +kernel
theorem dX7_set_152 : decode cX7_set 152 = .ok (.ireturn, 1) := by decide +kernel
theorem dX7_run_0 : decode cX7_run 0 = .ok (.iload_n 1, 1) := by decide +kernel
theorem dX7_run_1 : decode cX7_run 1 = .ok (.ifCond .lt 12, 3) := by decide +kernel
theorem dX7_run_4 : decode cX7_run 4 = .ok (.iload_n 2, 1) := by decide +kernel
theorem dX7_run_5 : decode cX7_run 5 = .ok (.ifCond .lt 8, 3) := by decide +kernel
theorem dX7_run_8 : decode cX7_run 8 = .ok (.iload_n 2, 1) := by decide +kernel
theorem dX7_run_9 : decode cX7_run 9 = .ok (.iconst 3, 1) := by decide +kernel
theorem dX7_run_10 : decode cX7_run 10 = .ok (.if_icmp .le 13, 3) := by decide +kernel
theorem dX7_run_13 : decode cX7_run 13 = .ok (.new 66, 3) := by decide +kernel
theorem dX7_run_16 : decode cX7_run 16 = .ok (.dup, 1) := by decide +kernel
theorem dX7_run_17 : decode cX7_run 17 = .ok (.ldc 243, 2) := by decide +kernel
theorem dX7_run_19 : decode cX7_run 19 = .ok (.invokespecial 70, 3) := by decide +kernel
theorem dX7_run_22 : decode cX7_run 22 = .ok (.athrow, 1) := by decide +kernel
theorem dX7_run_23 : decode cX7_run 23 = .ok (.iload_n 1, 1) := by decide +kernel
theorem dX7_run_24 : decode cX7_run 24 = .ok (.aload_n 0, 1) := by decide +kernel
theorem dX7_run_25 : decode cX7_run 25 = .ok (.getfield 35, 3) := by decide +kernel
theorem dX7_run_28 : decode cX7_run 28 = .ok (.getfield 245, 3) := by decide +kernel
theorem dX7_run_31 : decode cX7_run 31 = .ok (.invokevirtual 150, 3) := by decide +kernel
theorem dX7_run_34 : decode cX7_run 34 = .ok (.if_icmp .lt 5, 3) := by decide +kernel
theorem dX7_run_37 : decode cX7_run 37 = .ok (.iconst (-1), 1) := by decide +kernel
theorem dX7_run_38 : decode cX7_run 38 = .ok (.ireturn, 1) := by decide +kernel
theorem dX7_run_39 : decode cX7_run 39 = .ok (.iload_n 2, 1) := by decide +kernel
theorem dX7_run_40 : decode cX7_run 40 = .ok (.tableswitch 83 0 2 #[28, 40, 52], 28) := by decide +kernel
theorem dX7_run_68 : decode cX7_run 68 = .ok (.aload_n 0, 1) := by decide +kernel
theorem dX7_run_69 : decode cX7_run 69 = .ok (.getfield 35, 3) := by decide +kernel
theorem dX7_run_72 : decode cX7_run 72 = .ok (.getfield 245, 3) := by decide +kernel
theorem dX7_run_75 : decode cX7_run 75 = .ok (.iload_n 1, 1) := by decide +kernel
theorem dX7_run_76 : decode cX7_run 76 = .ok (.invokevirtual 180, 3) := by decide +kernel
theorem dX7_run_79 : decode cX7_run 79 = .ok (.ireturn, 1) := by decide +kernel
theorem dX7_run_80 : decode cX7_run 80 = .ok (.aload_n 0, 1) := by decide +kernel
theorem dX7_run_81 : decode cX7_run 81 = .ok (.getfield 35, 3) := by decide +kernel
theorem dX7_run_84 : decode cX7_run 84 = .ok (.getfield 248, 3) := by decide +kernel
theorem dX7_run_87 : decode cX7_run 87 = .ok (.iload_n 1, 1) := by decide +kernel
theorem dX7_run_88 : decode cX7_run 88 = .ok (.invokevirtual 180, 3) := by decide +kernel
theorem dX7_run_91 : decode cX7_run 91 = .ok (.ireturn, 1) := by decide +kernel
theorem dX7_run_92 : decode cX7_run 92 = .ok (.aload_n 0, 1) := by decide +kernel
theorem dX7_run_93 : decode cX7_run 93 = .ok (.getfield 35, 3) := by decide +kernel
theorem dX7_run_96 : decode cX7_run 96 = .ok (.getfield 248, 3) := by decide +kernel
theorem dX7_run_99 : decode cX7_run 99 = .ok (.iload_n 1, 1) := by decide +kernel
theorem dX7_run_100 : decode cX7_run 100 = .ok (.invokevirtual 180, 3) := by decide +kernel
theorem dX7_run_103 : decode cX7_run 103 = .ok (.aload_n 0, 1) := by decide +kernel
theorem dX7_run_104 : decode cX7_run 104 = .ok (.getfield 10, 3) := by decide +kernel
theorem dX7_run_107 : decode cX7_run 107 = .ok (.getfield 209, 3) := by decide +kernel
theorem dX7_run_110 : decode cX7_run 110 = .ok (.iconst 0, 1) := by decide +kernel
theorem dX7_run_111 : decode cX7_run 111 = .ok (.invokevirtual 180, 3) := by decide +kernel
theorem dX7_run_114 : decode cX7_run 114 = .ok (.if_icmp .ge 7, 3) := by decide +kernel
theorem dX7_run_117 : decode cX7_run 117 = .ok (.iconst 1, 1) := by decide +kernel
theorem dX7_run_118 : decode cX7_run 118 = .ok (.goto 4, 3) := by decide +kernel
theorem dX7_run_121 : decode cX7_run 121 = .ok (.iconst 0, 1) := by decide +kernel
theorem dX7_run_122 : decode cX7_run 122 = .ok (.ireturn, 1) := by decide +kernel
theorem dX7_run_123 : decode cX7_run 123 = .ok (.aload_n 0, 1) := by decide +kernel
theorem dX7_run_124 : decode cX7_run 124 = .ok (.getfield 35, 3) := by decide +kernel
theorem dX7_run_127 : decode cX7_run 127 = .ok (.getfield 245, 3) := by decide +kernel
theorem dX7_run_130 : decode cX7_run 130 = .ok (.aload_n 0, 1) := by decide +kernel
theorem dX7_run_131 : decode cX7_run 131 = .ok (.getfield 35, 3) := by decide +kernel
theorem dX7_run_134 : decode cX7_run 134 = .ok (.getfield 248, 3) := by decide +kernel
theorem dX7_run_137 : decode cX7_run 137 = .ok (.iload_n 1, 1) := by decide +kernel
theorem dX7_run_138 : decode cX7_run 138 = .ok (.aload_n 0, 1) := by decide +kernel
theorem dX7_run_139 : decode cX7_run 139 = .ok (.getfield 10, 3) := by decide +kernel
theorem dX7_run_142 : decode cX7_run 142 = .ok (.getfield 209, 3) := by decide +kernel
theorem dX7_run_145 : decode cX7_run 145 = .ok (.iconst 1, 1) := by decide +kernel
theorem dX7_run_146 : decode cX7_run 146 = .ok (.invokevirtual 180, 3) := by decide +kernel
theorem dX7_run_149 : decode cX7_run 149 = .ok (.invokestatic 251, 3) := by decide +kernel
theorem dX7_run_152 : decode cX7_run 152 = .ok (.ifCond .eq 7, 3) := by decide +kernel
theorem dX7_run_155 : decode cX7_run 155 = .ok (.iconst 1, 1) := by decide +kernel
theorem dX7_run_156 : decode cX7_run 156 = .ok (.goto 4, 3) := by decide +kernel
theorem dX7_run_159 : decode cX7_run 159 = .ok (.iconst 0, 1) := by decide +kernel
theorem dX7_run_160 : decode cX7_run 160 = .ok (.ireturn, 1) := by decide +kernel
theorem dX7_stroke_0 : decode cX7_stroke 0 = .ok (.iload_n 1, 1) := by decide +kernel
theorem dX7_stroke_1 : decode cX7_stroke 1 = .ok (.ifCond .ge 13, 3) := by decide +kernel
theorem dX7_stroke_4 : decode cX7_stroke 4 = .ok (.new 66, 3) := by decide +kernel
theorem dX7_stroke_7 : decode cX7_stroke 7 = .ok (.dup, 1) := by decide +kernel
theorem dX7_stroke_8 : decode cX7_stroke 8 = .ok (.ldc 255, 2) := by decide +kernel
theorem dX7_stroke_10 : decode cX7_stroke 10 = .ok (.invokespecial 70, 3) := by decide +kernel
theorem dX7_stroke_13 : decode cX7_stroke 13 = .ok (.athrow, 1) := by decide +kernel
theorem dX7_stroke_14 : decode cX7_stroke 14 = .ok (.aload_n 0, 1) := by decide +kernel
theorem dX7_stroke_15 : decode cX7_stroke 15 = .ok (.getfield 35, 3) := by decide +kernel
theorem dX7_stroke_18 : decode cX7_stroke 18 = .ok (.getfield 147, 3) := by decide +kernel
theorem dX7_stroke_21 : decode cX7_stroke 21 = .ok (.iload_n 1, 1) := by decide +kernel
theorem dX7_stroke_22 : decode cX7_stroke 22 = .ok (.invokevirtual 180, 3) := by decide +kernel
theorem dX7_stroke_25 : decode cX7_stroke 25 = .ok (.ireturn, 1) := by decide +kernel
theorem dX7_distance_0 : decode cX7_distance 0 = .ok (.aload_n 0, 1) := by decide +kernel
theorem dX7_distance_1 : decode cX7_distance 1 = .ok (.iload_n 1, 1) := by decide +kernel
theorem dX7_distance_2 : decode cX7_distance 2 = .ok (.invokevirtual 185, 3) := by decide +kernel
theorem dX7_distance_5 : decode cX7_distance 5 = .ok (.ifCond .eq 16, 3) := by decide +kernel
theorem dX7_distance_8 : decode cX7_distance 8 = .ok (.iload_n 2, 1) := by decide +kernel
theorem dX7_distance_9 : decode cX7_distance 9 = .ok (.iconst (-1), 1) := by decide +kernel
theorem dX7_distance_10 : decode cX7_distance 10 = .ok (.if_icmp .eq 21, 3) := by decide +kernel
theorem dX7_distance_13 : decode cX7_distance 13 = .ok (.aload_n 0, 1) := by decide +kernel
theorem dX7_distance_14 : decode cX7_distance 14 = .ok (.iload_n 2, 1) := by decide +kernel
theorem dX7_distance_15 : decode cX7_distance 15 = .ok (.invokevirtual 185, 3) := by decide +kernel
theorem dX7_distance_18 : decode cX7_distance 18 = .ok (.ifCond .ne 13, 3) := by decide +kernel
theorem dX7_distance_21 : decode cX7_distance 21 = .ok (.new 188, 3) := by decide +kernel
theorem dX7_distance_24 : decode cX7_distance 24 = .ok (.dup, 1) := by decide +kernel
theorem dX7_distance_25 : decode cX7_distance 25 = .ok (.ldc 190, 2) := by decide +kernel
theorem dX7_distance_27 : decode cX7_distance 27 = .ok (.invokespecial 192, 3) := by decide +kernel
theorem dX7_distance_30 : decode cX7_distance 30 = .ok (.athrow, 1) := by decide +kernel
theorem dX7_distance_31 : decode cX7_distance 31 = .ok (.iload_n 2, 1) := by decide +kernel
theorem dX7_distance_32 : decode cX7_distance 32 = .ok (.iconst (-1), 1) := by decide +kernel
theorem dX7_distance_33 : decode cX7_distance 33 = .ok (.if_icmp .ne 15, 3) := by decide +kernel
theorem dX7_distance_36 : decode cX7_distance 36 = .ok (.aload_n 0, 1) := by decide +kernel
theorem dX7_distance_37 : decode cX7_distance 37 = .ok (.getfield 35, 3) := by decide +kernel
theorem dX7_distance_40 : decode cX7_distance 40 = .ok (.getfield 260, 3) := by decide +kernel
theorem dX7_distance_43 : decode cX7_distance 43 = .ok (.iload_n 1, 1) := by decide +kernel
theorem dX7_distance_44 : decode cX7_distance 44 = .ok (.invokevirtual 180, 3) := by decide +kernel
theorem dX7_distance_47 : decode cX7_distance 47 = .ok (.ireturn, 1) := by decide +kernel
theorem dX7_distance_48 : decode cX7_distance 48 = .ok (.aload_n 0, 1) := by decide +kernel
theorem dX7_distance_49 : decode cX7_distance 49 = .ok (.getfield 42, 3) := by decide +kernel
theorem dX7_distance_52 : decode cX7_distance 52 = .ok (.aload_n 0, 1) := by decide +kernel
theorem dX7_distance_53 : decode cX7_distance 53 = .ok (.getfield 10, 3) := by decide +kernel
theorem dX7_distance_56 : decode cX7_distance 56 = .ok (.getfield 151, 3) := by decide +kernel
theorem dX7_distance_59 : decode cX7_distance 59 = .ok (.iload_n 2, 1) := by decide +kernel
theorem dX7_distance_60 : decode cX7_distance 60 = .ok (.invokevirtual 257, 3) := by decide +kernel
theorem dX7_distance_63 : decode cX7_distance 63 = .ok (.aload_n 0, 1) := by decide +kernel
theorem dX7_distance_64 : decode cX7_distance 64 = .ok (.getfield 10, 3) := by decide +kernel
theorem dX7_distance_67 : decode cX7_distance 67 = .ok (.getfield 151, 3) := by decide +kernel
theorem dX7_distance_70 : decode cX7_distance 70 = .ok (.iload_n 1, 1) := by decide +kernel
theorem dX7_distance_71 : decode cX7_distance 71 = .ok (.invokevirtual 257, 3) := by decide +kernel
theorem dX7_distance_74 : decode cX7_distance 74 = .ok (.aload_n 0, 1) := by decide +kernel
theorem dX7_distance_75 : decode cX7_distance 75 = .ok (.getfield 10, 3) := by decide +kernel
theorem dX7_distance_78 : decode cX7_distance 78 = .ok (.getfield 209, 3) := by decide +kernel
theorem dX7_distance_81 : decode cX7_distance 81 = .ok (.invokevirtual 263, 3) := by decide +kernel
theorem dX7_distance_84 : decode cX7_distance 84 = .ok (.aload_n 0, 1) := by decide +kernel
theorem dX7_distance_85 : decode cX7_distance 85 = .ok (.getfield 42, 3) := by decide +kernel
theorem dX7_distance_88 : decode cX7_distance 88 = .ok (.invokevirtual 267, 3) := by decide +kernel
theorem dX7_distance_91 : decode cX7_distance 91 = .ok (.ireturn, 1) := by decide +kernel
theorem dX7_reading_0 : decode cX7_reading 0 = .ok (.iload_n 1, 1) := by decide +kernel
theorem dX7_reading_1 : decode cX7_reading 1 = .ok (.tableswitch 94 0 4 #[35, 50, 59, 78, 86], 35) := by decide +kernel
theorem dX7_reading_36 : decode cX7_reading 36 = .ok (.aload_n 0, 1) := by decide +kernel
theorem dX7_reading_37 : decode cX7_reading 37 = .ok (.getfield 35, 3) := by decide +kernel
theorem dX7_reading_40 : decode cX7_reading 40 = .ok (.aload_n 0, 1) := by decide +kernel
theorem dX7_reading_41 : decode cX7_reading 41 = .ok (.getfield 10, 3) := by decide +kernel
theorem dX7_reading_44 : decode cX7_reading 44 = .ok (.getfield 209, 3) := by decide +kernel
theorem dX7_reading_47 : decode cX7_reading 47 = .ok (.invokevirtual 270, 3) := by decide +kernel
theorem dX7_reading_50 : decode cX7_reading 50 = .ok (.ireturn, 1) := by decide +kernel
theorem dX7_reading_51 : decode cX7_reading 51 = .ok (.aload_n 0, 1) := by decide +kernel
theorem dX7_reading_52 : decode cX7_reading 52 = .ok (.getfield 35, 3) := by decide +kernel
theorem dX7_reading_55 : decode cX7_reading 55 = .ok (.iconst (-1), 1) := by decide +kernel
theorem dX7_reading_56 : decode cX7_reading 56 = .ok (.invokevirtual 273, 3) := by decide +kernel
theorem dX7_reading_59 : decode cX7_reading 59 = .ok (.ireturn, 1) := by decide +kernel
theorem dX7_reading_60 : decode cX7_reading 60 = .ok (.aload_n 0, 1) := by decide +kernel
theorem dX7_reading_61 : decode cX7_reading 61 = .ok (.getfield 35, 3) := by decide +kernel
theorem dX7_reading_64 : decode cX7_reading 64 = .ok (.getfield 260, 3) := by decide +kernel
theorem dX7_reading_67 : decode cX7_reading 67 = .ok (.aload_n 0, 1) := by decide +kernel
theorem dX7_reading_68 : decode cX7_reading 68 = .ok (.getfield 35, 3) := by decide +kernel
theorem dX7_reading_71 : decode cX7_reading 71 = .ok (.iconst (-1), 1) := by decide +kernel
theorem dX7_reading_72 : decode cX7_reading 72 = .ok (.invokevirtual 273, 3) := by decide +kernel
theorem dX7_reading_75 : decode cX7_reading 75 = .ok (.invokevirtual 180, 3) := by decide +kernel
theorem dX7_reading_78 : decode cX7_reading 78 = .ok (.ireturn, 1) := by decide +kernel
theorem dX7_reading_79 : decode cX7_reading 79 = .ok (.aload_n 0, 1) := by decide +kernel
theorem dX7_reading_80 : decode cX7_reading 80 = .ok (.getfield 35, 3) := by decide +kernel
theorem dX7_reading_83 : decode cX7_reading 83 = .ok (.invokevirtual 276, 3) := by decide +kernel
theorem dX7_reading_86 : decode cX7_reading 86 = .ok (.ireturn, 1) := by decide +kernel
theorem dX7_reading_87 : decode cX7_reading 87 = .ok (.aload_n 0, 1) := by decide +kernel
theorem dX7_reading_88 : decode cX7_reading 88 = .ok (.getfield 35, 3) := by decide +kernel
theorem dX7_reading_91 : decode cX7_reading 91 = .ok (.invokevirtual 279, 3) := by decide +kernel
theorem dX7_reading_94 : decode cX7_reading 94 = .ok (.ireturn, 1) := by decide +kernel
theorem dX7_reading_95 : decode cX7_reading 95 = .ok (.new 66, 3) := by decide +kernel
theorem dX7_reading_98 : decode cX7_reading 98 = .ok (.dup, 1) := by decide +kernel
theorem dX7_reading_99 : decode cX7_reading 99 = .ok (.ldc_w 282, 3) := by decide +kernel
theorem dX7_reading_102 : decode cX7_reading 102 = .ok (.invokespecial 70, 3) := by decide +kernel
theorem dX7_reading_105 : decode cX7_reading 105 = .ok (.athrow, 1) := by decide +kernel
theorem dX7_count_0 : decode cX7_count 0 = .ok (.iload_n 1, 1) := by decide +kernel
theorem dX7_count_1 : decode cX7_count 1 = .ok (.tableswitch 145 0 8 #[51, 62, 73, 84, 95, 103, 114, 125, 137], 51) := by decide +kernel
theorem dX7_count_52 : decode cX7_count 52 = .ok (.aload_n 0, 1) := by decide +kernel
theorem dX7_count_53 : decode cX7_count 53 = .ok (.getfield 10, 3) := by decide +kernel
theorem dX7_count_56 : decode cX7_count 56 = .ok (.getfield 73, 3) := by decide +kernel
theorem dX7_count_59 : decode cX7_count 59 = .ok (.invokevirtual 76, 3) := by decide +kernel
theorem dX7_count_62 : decode cX7_count 62 = .ok (.ireturn, 1) := by decide +kernel
theorem dX7_count_63 : decode cX7_count 63 = .ok (.aload_n 0, 1) := by decide +kernel
theorem dX7_count_64 : decode cX7_count 64 = .ok (.getfield 35, 3) := by decide +kernel
theorem dX7_count_67 : decode cX7_count 67 = .ok (.getfield 245, 3) := by decide +kernel
theorem dX7_count_70 : decode cX7_count 70 = .ok (.invokevirtual 150, 3) := by decide +kernel
theorem dX7_count_73 : decode cX7_count 73 = .ok (.ireturn, 1) := by decide +kernel
theorem dX7_count_74 : decode cX7_count 74 = .ok (.aload_n 0, 1) := by decide +kernel
theorem dX7_count_75 : decode cX7_count 75 = .ok (.getfield 35, 3) := by decide +kernel
theorem dX7_count_78 : decode cX7_count 78 = .ok (.getfield 147, 3) := by decide +kernel
theorem dX7_count_81 : decode cX7_count 81 = .ok (.invokevirtual 150, 3) := by decide +kernel
theorem dX7_count_84 : decode cX7_count 84 = .ok (.ireturn, 1) := by decide +kernel
theorem dX7_count_85 : decode cX7_count 85 = .ok (.aload_n 0, 1) := by decide +kernel
theorem dX7_count_86 : decode cX7_count 86 = .ok (.getfield 35, 3) := by decide +kernel
theorem dX7_count_89 : decode cX7_count 89 = .ok (.getfield 248, 3) := by decide +kernel
theorem dX7_count_92 : decode cX7_count 92 = .ok (.invokevirtual 284, 3) := by decide +kernel
theorem dX7_count_95 : decode cX7_count 95 = .ok (.ireturn, 1) := by decide +kernel
theorem dX7_count_96 : decode cX7_count 96 = .ok (.aload_n 0, 1) := by decide +kernel
theorem dX7_count_97 : decode cX7_count 97 = .ok (.getfield 35, 3) := by decide +kernel
theorem dX7_count_100 : decode cX7_count 100 = .ok (.getfield 287, 3) := by decide +kernel
theorem dX7_count_103 : decode cX7_count 103 = .ok (.ireturn, 1) := by decide +kernel
theorem dX7_count_104 : decode cX7_count 104 = .ok (.aload_n 0, 1) := by decide +kernel
theorem dX7_count_105 : decode cX7_count 105 = .ok (.getfield 10, 3) := by decide +kernel
theorem dX7_count_108 : decode cX7_count 108 = .ok (.getfield 151, 3) := by decide +kernel
theorem dX7_count_111 : decode cX7_count 111 = .ok (.invokevirtual 155, 3) := by decide +kernel
theorem dX7_count_114 : decode cX7_count 114 = .ok (.ireturn, 1) := by decide +kernel
theorem dX7_count_115 : decode cX7_count 115 = .ok (.aload_n 0, 1) := by decide +kernel
theorem dX7_count_116 : decode cX7_count 116 = .ok (.getfield 10, 3) := by decide +kernel
theorem dX7_count_119 : decode cX7_count 119 = .ok (.getfield 151, 3) := by decide +kernel
theorem dX7_count_122 : decode cX7_count 122 = .ok (.invokevirtual 291, 3) := by decide +kernel
theorem dX7_count_125 : decode cX7_count 125 = .ok (.ireturn, 1) := by decide +kernel
theorem dX7_count_126 : decode cX7_count 126 = .ok (.aload_n 0, 1) := by decide +kernel
theorem dX7_count_127 : decode cX7_count 127 = .ok (.aload_n 0, 1) := by decide +kernel
theorem dX7_count_128 : decode cX7_count 128 = .ok (.getfield 10, 3) := by decide +kernel
theorem dX7_count_131 : decode cX7_count 131 = .ok (.getfield 209, 3) := by decide +kernel
theorem dX7_count_134 : decode cX7_count 134 = .ok (.invokevirtual 218, 3) := by decide +kernel
theorem dX7_count_137 : decode cX7_count 137 = .ok (.ireturn, 1) := by decide +kernel
theorem dX7_count_138 : decode cX7_count 138 = .ok (.aload_n 0, 1) := by decide +kernel
theorem dX7_count_139 : decode cX7_count 139 = .ok (.getfield 19, 3) := by decide +kernel
theorem dX7_count_142 : decode cX7_count 142 = .ok (.invokevirtual 227, 3) := by decide +kernel
theorem dX7_count_145 : decode cX7_count 145 = .ok (.ireturn, 1) := by decide +kernel
theorem dX7_count_146 : decode cX7_count 146 = .ok (.new 66, 3) := by decide +kernel
theorem dX7_count_149 : decode cX7_count 149 = .ok (.dup, 1) := by decide +kernel
theorem dX7_count_150 : decode cX7_count 150 = .ok (.ldc_w 294, 3) := by decide +kernel
theorem dX7_count_153 : decode cX7_count 153 = .ok (.invokespecial 70, 3) := by decide +kernel
theorem dX7_count_156 : decode cX7_count 156 = .ok (.athrow, 1) := by decide +kernel
theorem dX7_setting_0 : decode cX7_setting 0 = .ok (.iload_n 1, 1) := by decide +kernel
theorem dX7_setting_1 : decode cX7_setting 1 = .ok (.invokestatic 196, 3) := by decide +kernel
theorem dX7_setting_4 : decode cX7_setting 4 = .ok (.ifCond .ne 13, 3) := by decide +kernel
theorem dX7_setting_7 : decode cX7_setting 7 = .ok (.new 188, 3) := by decide +kernel
theorem dX7_setting_10 : decode cX7_setting 10 = .ok (.dup, 1) := by decide +kernel
theorem dX7_setting_11 : decode cX7_setting 11 = .ok (.ldc 199, 2) := by decide +kernel
theorem dX7_setting_13 : decode cX7_setting 13 = .ok (.invokespecial 192, 3) := by decide +kernel
theorem dX7_setting_16 : decode cX7_setting 16 = .ok (.athrow, 1) := by decide +kernel
theorem dX7_setting_17 : decode cX7_setting 17 = .ok (.aload_n 0, 1) := by decide +kernel
theorem dX7_setting_18 : decode cX7_setting 18 = .ok (.getfield 10, 3) := by decide +kernel
theorem dX7_setting_21 : decode cX7_setting 21 = .ok (.getfield 209, 3) := by decide +kernel
theorem dX7_setting_24 : decode cX7_setting 24 = .ok (.iload_n 1, 1) := by decide +kernel
theorem dX7_setting_25 : decode cX7_setting 25 = .ok (.invokevirtual 180, 3) := by decide +kernel
theorem dX7_setting_28 : decode cX7_setting 28 = .ok (.ireturn, 1) := by decide +kernel
theorem dX7_against_0 : decode cX7_against 0 = .ok (.aload_n 0, 1) := by decide +kernel
theorem dX7_against_1 : decode cX7_against 1 = .ok (.getfield 35, 3) := by decide +kernel
theorem dX7_against_4 : decode cX7_against 4 = .ok (.iconst (-1), 1) := by decide +kernel
theorem dX7_against_5 : decode cX7_against 5 = .ok (.invokevirtual 273, 3) := by decide +kernel
theorem dX7_against_8 : decode cX7_against 8 = .ok (.istore_n 1, 1) := by decide +kernel
theorem dX7_against_9 : decode cX7_against 9 = .ok (.iload_n 1, 1) := by decide +kernel
theorem dX7_against_10 : decode cX7_against 10 = .ok (.iconst (-1), 1) := by decide +kernel
theorem dX7_against_11 : decode cX7_against 11 = .ok (.if_icmp .eq 30, 3) := by decide +kernel
theorem dX7_against_14 : decode cX7_against 14 = .ok (.aload_n 0, 1) := by decide +kernel
theorem dX7_against_15 : decode cX7_against 15 = .ok (.getfield 35, 3) := by decide +kernel
theorem dX7_against_18 : decode cX7_against 18 = .ok (.getfield 260, 3) := by decide +kernel
theorem dX7_against_21 : decode cX7_against 21 = .ok (.iload_n 1, 1) := by decide +kernel
theorem dX7_against_22 : decode cX7_against 22 = .ok (.invokevirtual 180, 3) := by decide +kernel
theorem dX7_against_25 : decode cX7_against 25 = .ok (.iconst 2, 1) := by decide +kernel
theorem dX7_against_26 : decode cX7_against 26 = .ok (.aload_n 0, 1) := by decide +kernel
theorem dX7_against_27 : decode cX7_against 27 = .ok (.getfield 10, 3) := by decide +kernel
theorem dX7_against_30 : decode cX7_against 30 = .ok (.getfield 209, 3) := by decide +kernel
theorem dX7_against_33 : decode cX7_against 33 = .ok (.iconst 4, 1) := by decide +kernel
theorem dX7_against_34 : decode cX7_against 34 = .ok (.invokevirtual 180, 3) := by decide +kernel
theorem dX7_against_37 : decode cX7_against 37 = .ok (.imul, 1) := by decide +kernel
theorem dX7_against_38 : decode cX7_against 38 = .ok (.if_icmp .le 5, 3) := by decide +kernel
theorem dX7_against_41 : decode cX7_against 41 = .ok (.iconst (-1), 1) := by decide +kernel
theorem dX7_against_42 : decode cX7_against 42 = .ok (.ireturn, 1) := by decide +kernel
theorem dX7_against_43 : decode cX7_against 43 = .ok (.iload_n 1, 1) := by decide +kernel
theorem dX7_against_44 : decode cX7_against 44 = .ok (.ireturn, 1) := by decide +kernel
theorem dX7_lookAgain_0 : decode cX7_lookAgain 0 = .ok (.aload_n 0, 1) := by decide +kernel
theorem dX7_lookAgain_1 : decode cX7_lookAgain 1 = .ok (.getfield 35, 3) := by decide +kernel
theorem dX7_lookAgain_4 : decode cX7_lookAgain 4 = .ok (.aload_n 0, 1) := by decide +kernel
theorem dX7_lookAgain_5 : decode cX7_lookAgain 5 = .ok (.getfield 10, 3) := by decide +kernel
theorem dX7_lookAgain_8 : decode cX7_lookAgain 8 = .ok (.getfield 73, 3) := by decide +kernel
theorem dX7_lookAgain_11 : decode cX7_lookAgain 11 = .ok (.aload_n 0, 1) := by decide +kernel
theorem dX7_lookAgain_12 : decode cX7_lookAgain 12 = .ok (.getfield 10, 3) := by decide +kernel
theorem dX7_lookAgain_15 : decode cX7_lookAgain 15 = .ok (.invokevirtual 296, 3) := by decide +kernel
theorem dX7_lookAgain_18 : decode cX7_lookAgain 18 = .ok (.return_, 1) := by decide +kernel
theorem dX7_isCommand_0 : decode cX7_isCommand 0 = .ok (.iload_n 1, 1) := by decide +kernel
theorem dX7_isCommand_1 : decode cX7_isCommand 1 = .ok (.ifCond .lt 21, 3) := by decide +kernel
theorem dX7_isCommand_4 : decode cX7_isCommand 4 = .ok (.iload_n 1, 1) := by decide +kernel
theorem dX7_isCommand_5 : decode cX7_isCommand 5 = .ok (.aload_n 0, 1) := by decide +kernel
theorem dX7_isCommand_6 : decode cX7_isCommand 6 = .ok (.getfield 10, 3) := by decide +kernel
theorem dX7_isCommand_9 : decode cX7_isCommand 9 = .ok (.getfield 151, 3) := by decide +kernel
theorem dX7_isCommand_12 : decode cX7_isCommand 12 = .ok (.invokevirtual 155, 3) := by decide +kernel
theorem dX7_isCommand_15 : decode cX7_isCommand 15 = .ok (.if_icmp .ge 7, 3) := by decide +kernel
theorem dX7_isCommand_18 : decode cX7_isCommand 18 = .ok (.iconst 1, 1) := by decide +kernel
theorem dX7_isCommand_19 : decode cX7_isCommand 19 = .ok (.goto 4, 3) := by decide +kernel
theorem dX7_isCommand_22 : decode cX7_isCommand 22 = .ok (.iconst 0, 1) := by decide +kernel
theorem dX7_isCommand_23 : decode cX7_isCommand 23 = .ok (.ireturn, 1) := by decide +kernel
theorem dX7_isSetting_0 : decode cX7_isSetting 0 = .ok (.iload_n 0, 1) := by decide +kernel
theorem dX7_isSetting_1 : decode cX7_isSetting 1 = .ok (.ifCond .lt 12, 3) := by decide +kernel
theorem dX7_isSetting_4 : decode cX7_isSetting 4 = .ok (.iload_n 0, 1) := by decide +kernel
theorem dX7_isSetting_5 : decode cX7_isSetting 5 = .ok (.iconst 5, 1) := by decide +kernel
theorem dX7_isSetting_6 : decode cX7_isSetting 6 = .ok (.if_icmp .ge 7, 3) := by decide +kernel
theorem dX7_isSetting_9 : decode cX7_isSetting 9 = .ok (.iconst 1, 1) := by decide +kernel
theorem dX7_isSetting_10 : decode cX7_isSetting 10 = .ok (.goto 4, 3) := by decide +kernel
theorem dX7_isSetting_13 : decode cX7_isSetting 13 = .ok (.iconst 0, 1) := by decide +kernel
theorem dX7_isSetting_14 : decode cX7_isSetting 14 = .ok (.ireturn, 1) := by decide +kernel
theorem dX7_isDirection_0 : decode cX7_isDirection 0 = .ok (.iload_n 0, 1) := by decide +kernel
theorem dX7_isDirection_1 : decode cX7_isDirection 1 = .ok (.ifCond .lt 13, 3) := by decide +kernel
theorem dX7_isDirection_4 : decode cX7_isDirection 4 = .ok (.iload_n 0, 1) := by decide +kernel
theorem dX7_isDirection_5 : decode cX7_isDirection 5 = .ok (.bipush 8, 2) := by decide +kernel
theorem dX7_isDirection_7 : decode cX7_isDirection 7 = .ok (.if_icmp .ge 7, 3) := by decide +kernel
theorem dX7_isDirection_10 : decode cX7_isDirection 10 = .ok (.iconst 1, 1) := by decide +kernel
theorem dX7_isDirection_11 : decode cX7_isDirection 11 = .ok (.goto 4, 3) := by decide +kernel
theorem dX7_isDirection_14 : decode cX7_isDirection 14 = .ok (.iconst 0, 1) := by decide +kernel
theorem dX7_isDirection_15 : decode cX7_isDirection 15 = .ok (.ireturn, 1) := by decide +kernel
theorem dX7_isOnLattice_0 : decode cX7_isOnLattice 0 = .ok (.iload_n 0, 1) := by decide +kernel
theorem dX7_isOnLattice_1 : decode cX7_isOnLattice 1 = .ok (.ifCond .lt 23, 3) := by decide +kernel
theorem dX7_isOnLattice_4 : decode cX7_isOnLattice 4 = .ok (.iload_n 0, 1) := by decide +kernel
theorem dX7_isOnLattice_5 : decode cX7_isOnLattice 5 = .ok (.bipush 31, 2) := by decide +kernel
theorem dX7_isOnLattice_7 : decode cX7_isOnLattice 7 = .ok (.if_icmp .gt 17, 3) := by decide +kernel
theorem dX7_isOnLattice_10 : decode cX7_isOnLattice 10 = .ok (.iload_n 1, 1) := by decide +kernel
theorem dX7_isOnLattice_11 : decode cX7_isOnLattice 11 = .ok (.ifCond .lt 13, 3) := by decide +kernel
theorem dX7_isOnLattice_14 : decode cX7_isOnLattice 14 = .ok (.iload_n 1, 1) := by decide +kernel
theorem dX7_isOnLattice_15 : decode cX7_isOnLattice 15 = .ok (.bipush 31, 2) := by decide +kernel
theorem dX7_isOnLattice_17 : decode cX7_isOnLattice 17 = .ok (.if_icmp .gt 7, 3) := by decide +kernel
theorem dX7_isOnLattice_20 : decode cX7_isOnLattice 20 = .ok (.iconst 1, 1) := by decide +kernel
theorem dX7_isOnLattice_21 : decode cX7_isOnLattice 21 = .ok (.goto 4, 3) := by decide +kernel
theorem dX7_isOnLattice_24 : decode cX7_isOnLattice 24 = .ok (.iconst 0, 1) := by decide +kernel
theorem dX7_isOnLattice_25 : decode cX7_isOnLattice 25 = .ok (.ireturn, 1) := by decide +kernel
theorem dX7_of_0 : decode cX7_of 0 = .ok (.iload_n 1, 1) := by decide +kernel
theorem dX7_of_1 : decode cX7_of 1 = .ok (.ifCond .lt 15, 3) := by decide +kernel
theorem dX7_of_4 : decode cX7_of 4 = .ok (.iload_n 1, 1) := by decide +kernel
theorem dX7_of_5 : decode cX7_of 5 = .ok (.aload_n 0, 1) := by decide +kernel
theorem dX7_of_6 : decode cX7_of 6 = .ok (.arraylength, 1) := by decide +kernel
theorem dX7_of_7 : decode cX7_of 7 = .ok (.if_icmp .ge 9, 3) := by decide +kernel
theorem dX7_of_10 : decode cX7_of 10 = .ok (.aload_n 0, 1) := by decide +kernel
theorem dX7_of_11 : decode cX7_of 11 = .ok (.iload_n 1, 1) := by decide +kernel
theorem dX7_of_12 : decode cX7_of 12 = .ok (.iaload, 1) := by decide +kernel
theorem dX7_of_13 : decode cX7_of 13 = .ok (.goto 4, 3) := by decide +kernel
theorem dX7_of_16 : decode cX7_of 16 = .ok (.iconst 0, 1) := by decide +kernel
theorem dX7_of_17 : decode cX7_of 17 = .ok (.ireturn, 1) := by decide +kernel
theorem dX7_stepsWithin_0 : decode cX7_stepsWithin 0 = .ok (.iload_n 1, 1) := by decide +kernel
theorem dX7_stepsWithin_1 : decode cX7_stepsWithin 1 = .ok (.ifCond .ne 6, 3) := by decide +kernel
theorem dX7_stepsWithin_4 : decode cX7_stepsWithin 4 = .ok (.bipush 31, 2) := by decide +kernel
theorem dX7_stepsWithin_6 : decode cX7_stepsWithin 6 = .ok (.ireturn, 1) := by decide +kernel
theorem dX7_stepsWithin_7 : decode cX7_stepsWithin 7 = .ok (.iload_n 1, 1) := by decide +kernel
theorem dX7_stepsWithin_8 : decode cX7_stepsWithin 8 = .ok (.ifCond .le 10, 3) := by decide +kernel
theorem dX7_stepsWithin_11 : decode cX7_stepsWithin 11 = .ok (.bipush 31, 2) := by decide +kernel
theorem dX7_stepsWithin_13 : decode cX7_stepsWithin 13 = .ok (.iload_n 0, 1) := by decide +kernel
theorem dX7_stepsWithin_14 : decode cX7_stepsWithin 14 = .ok (.isub, 1) := by decide +kernel
theorem dX7_stepsWithin_15 : decode cX7_stepsWithin 15 = .ok (.goto 4, 3) := by decide +kernel
theorem dX7_stepsWithin_18 : decode cX7_stepsWithin 18 = .ok (.iload_n 0, 1) := by decide +kernel
theorem dX7_stepsWithin_19 : decode cX7_stepsWithin 19 = .ok (.ireturn, 1) := by decide +kernel
theorem dX7_isTooNear_0 : decode cX7_isTooNear 0 = .ok (.iconst 0, 1) := by decide +kernel
theorem dX7_isTooNear_1 : decode cX7_isTooNear 1 = .ok (.istore_n 2, 1) := by decide +kernel
theorem dX7_isTooNear_2 : decode cX7_isTooNear 2 = .ok (.iload_n 2, 1) := by decide +kernel
theorem dX7_isTooNear_3 : decode cX7_isTooNear 3 = .ok (.aload_n 0, 1) := by decide +kernel
theorem dX7_isTooNear_4 : decode cX7_isTooNear 4 = .ok (.getfield 10, 3) := by decide +kernel
theorem dX7_isTooNear_7 : decode cX7_isTooNear 7 = .ok (.getfield 151, 3) := by decide +kernel
theorem dX7_isTooNear_10 : decode cX7_isTooNear 10 = .ok (.invokevirtual 155, 3) := by decide +kernel
theorem dX7_isTooNear_13 : decode cX7_isTooNear 13 = .ok (.if_icmp .ge 60, 3) := by decide +kernel
theorem dX7_isTooNear_16 : decode cX7_isTooNear 16 = .ok (.aload_n 0, 1) := by decide +kernel
theorem dX7_isTooNear_17 : decode cX7_isTooNear 17 = .ok (.getfield 42, 3) := by decide +kernel
theorem dX7_isTooNear_20 : decode cX7_isTooNear 20 = .ok (.aload_n 1, 1) := by decide +kernel
theorem dX7_isTooNear_21 : decode cX7_isTooNear 21 = .ok (.aload_n 0, 1) := by decide +kernel
theorem dX7_isTooNear_22 : decode cX7_isTooNear 22 = .ok (.getfield 10, 3) := by decide +kernel
theorem dX7_isTooNear_25 : decode cX7_isTooNear 25 = .ok (.getfield 151, 3) := by decide +kernel
theorem dX7_isTooNear_28 : decode cX7_isTooNear 28 = .ok (.iload_n 2, 1) := by decide +kernel
theorem dX7_isTooNear_29 : decode cX7_isTooNear 29 = .ok (.invokevirtual 257, 3) := by decide +kernel
theorem dX7_isTooNear_32 : decode cX7_isTooNear 32 = .ok (.aload_n 0, 1) := by decide +kernel
theorem dX7_isTooNear_33 : decode cX7_isTooNear 33 = .ok (.getfield 10, 3) := by decide +kernel
theorem dX7_isTooNear_36 : decode cX7_isTooNear 36 = .ok (.getfield 209, 3) := by decide +kernel
theorem dX7_isTooNear_39 : decode cX7_isTooNear 39 = .ok (.invokevirtual 263, 3) := by decide +kernel
theorem dX7_isTooNear_42 : decode cX7_isTooNear 42 = .ok (.aload_n 0, 1) := by decide +kernel
theorem dX7_isTooNear_43 : decode cX7_isTooNear 43 = .ok (.getfield 42, 3) := by decide +kernel
theorem dX7_isTooNear_46 : decode cX7_isTooNear 46 = .ok (.invokevirtual 267, 3) := by decide +kernel
theorem dX7_isTooNear_49 : decode cX7_isTooNear 49 = .ok (.iconst 2, 1) := by decide +kernel
theorem dX7_isTooNear_50 : decode cX7_isTooNear 50 = .ok (.aload_n 0, 1) := by decide +kernel
theorem dX7_isTooNear_51 : decode cX7_isTooNear 51 = .ok (.getfield 10, 3) := by decide +kernel
theorem dX7_isTooNear_54 : decode cX7_isTooNear 54 = .ok (.getfield 209, 3) := by decide +kernel
theorem dX7_isTooNear_57 : decode cX7_isTooNear 57 = .ok (.iconst 4, 1) := by decide +kernel
theorem dX7_isTooNear_58 : decode cX7_isTooNear 58 = .ok (.invokevirtual 180, 3) := by decide +kernel
theorem dX7_isTooNear_61 : decode cX7_isTooNear 61 = .ok (.imul, 1) := by decide +kernel
theorem dX7_isTooNear_62 : decode cX7_isTooNear 62 = .ok (.if_icmp .gt 5, 3) := by decide +kernel
theorem dX7_isTooNear_65 : decode cX7_isTooNear 65 = .ok (.iconst 1, 1) := by decide +kernel
theorem dX7_isTooNear_66 : decode cX7_isTooNear 66 = .ok (.ireturn, 1) := by decide +kernel
theorem dX7_isTooNear_67 : decode cX7_isTooNear 67 = .ok (.iinc 2 1, 3) := by decide +kernel
theorem dX7_isTooNear_70 : decode cX7_isTooNear 70 = .ok (.goto (-68), 3) := by decide +kernel
theorem dX7_isTooNear_73 : decode cX7_isTooNear 73 = .ok (.iconst 0, 1) := by decide +kernel
theorem dX7_isTooNear_74 : decode cX7_isTooNear 74 = .ok (.ireturn, 1) := by decide +kernel
theorem dX7_addCommand_0 : decode cX7_addCommand 0 = .ok (.aload_n 0, 1) := by decide +kernel
theorem dX7_addCommand_1 : decode cX7_addCommand 1 = .ok (.getfield 19, 3) := by decide +kernel
theorem dX7_addCommand_4 : decode cX7_addCommand 4 = .ok (.aload_n 0, 1) := by decide +kernel
theorem dX7_addCommand_5 : decode cX7_addCommand 5 = .ok (.getfield 10, 3) := by decide +kernel
theorem dX7_addCommand_8 : decode cX7_addCommand 8 = .ok (.invokevirtual 85, 3) := by decide +kernel
theorem dX7_addCommand_11 : decode cX7_addCommand 11 = .ok (.aload_n 0, 1) := by decide +kernel
theorem dX7_addCommand_12 : decode cX7_addCommand 12 = .ok (.getfield 10, 3) := by decide +kernel
theorem dX7_addCommand_15 : decode cX7_addCommand 15 = .ok (.getfield 151, 3) := by decide +kernel
theorem dX7_addCommand_18 : decode cX7_addCommand 18 = .ok (.aload_n 1, 1) := by decide +kernel
theorem dX7_addCommand_19 : decode cX7_addCommand 19 = .ok (.invokevirtual 350, 3) := by decide +kernel
theorem dX7_addCommand_22 : decode cX7_addCommand 22 = .ok (.aload_n 0, 1) := by decide +kernel
theorem dX7_addCommand_23 : decode cX7_addCommand 23 = .ok (.invokevirtual 93, 3) := by decide +kernel
theorem dX7_addCommand_26 : decode cX7_addCommand 26 = .ok (.aload_n 0, 1) := by decide +kernel
theorem dX7_addCommand_27 : decode cX7_addCommand 27 = .ok (.getfield 10, 3) := by decide +kernel
theorem dX7_addCommand_30 : decode cX7_addCommand 30 = .ok (.getfield 151, 3) := by decide +kernel
theorem dX7_addCommand_33 : decode cX7_addCommand 33 = .ok (.invokevirtual 155, 3) := by decide +kernel
theorem dX7_addCommand_36 : decode cX7_addCommand 36 = .ok (.iconst 1, 1) := by decide +kernel
theorem dX7_addCommand_37 : decode cX7_addCommand 37 = .ok (.isub, 1) := by decide +kernel
theorem dX7_addCommand_38 : decode cX7_addCommand 38 = .ok (.ireturn, 1) := by decide +kernel
theorem dX7_leastApart_0 : decode cX7_leastApart 0 = .ok (.iconst (-1), 1) := by decide +kernel
theorem dX7_leastApart_1 : decode cX7_leastApart 1 = .ok (.istore_n 2, 1) := by decide +kernel
theorem dX7_leastApart_2 : decode cX7_leastApart 2 = .ok (.iconst 1, 1) := by decide +kernel
theorem dX7_leastApart_3 : decode cX7_leastApart 3 = .ok (.istore_n 3, 1) := by decide +kernel
theorem dX7_leastApart_4 : decode cX7_leastApart 4 = .ok (.iload_n 3, 1) := by decide +kernel
theorem dX7_leastApart_5 : decode cX7_leastApart 5 = .ok (.aload_n 0, 1) := by decide +kernel
theorem dX7_leastApart_6 : decode cX7_leastApart 6 = .ok (.getfield 10, 3) := by decide +kernel
theorem dX7_leastApart_9 : decode cX7_leastApart 9 = .ok (.getfield 151, 3) := by decide +kernel
theorem dX7_leastApart_12 : decode cX7_leastApart 12 = .ok (.invokevirtual 155, 3) := by decide +kernel
theorem dX7_leastApart_15 : decode cX7_leastApart 15 = .ok (.if_icmp .ge 79, 3) := by decide +kernel
theorem dX7_leastApart_18 : decode cX7_leastApart 18 = .ok (.iconst 0, 1) := by decide +kernel
theorem dX7_leastApart_19 : decode cX7_leastApart 19 = .ok (.istore 4, 2) := by decide +kernel
theorem dX7_leastApart_21 : decode cX7_leastApart 21 = .ok (.iload 4, 2) := by decide +kernel
theorem dX7_leastApart_23 : decode cX7_leastApart 23 = .ok (.iload_n 3, 1) := by decide +kernel
theorem dX7_leastApart_24 : decode cX7_leastApart 24 = .ok (.if_icmp .ge 64, 3) := by decide +kernel
theorem dX7_leastApart_27 : decode cX7_leastApart 27 = .ok (.aload_n 0, 1) := by decide +kernel
theorem dX7_leastApart_28 : decode cX7_leastApart 28 = .ok (.getfield 42, 3) := by decide +kernel
theorem dX7_leastApart_31 : decode cX7_leastApart 31 = .ok (.aload_n 0, 1) := by decide +kernel
theorem dX7_leastApart_32 : decode cX7_leastApart 32 = .ok (.getfield 10, 3) := by decide +kernel
theorem dX7_leastApart_35 : decode cX7_leastApart 35 = .ok (.getfield 151, 3) := by decide +kernel
theorem dX7_leastApart_38 : decode cX7_leastApart 38 = .ok (.iload 4, 2) := by decide +kernel
theorem dX7_leastApart_40 : decode cX7_leastApart 40 = .ok (.invokevirtual 257, 3) := by decide +kernel
theorem dX7_leastApart_43 : decode cX7_leastApart 43 = .ok (.aload_n 0, 1) := by decide +kernel
theorem dX7_leastApart_44 : decode cX7_leastApart 44 = .ok (.getfield 10, 3) := by decide +kernel
theorem dX7_leastApart_47 : decode cX7_leastApart 47 = .ok (.getfield 151, 3) := by decide +kernel
theorem dX7_leastApart_50 : decode cX7_leastApart 50 = .ok (.iload_n 3, 1) := by decide +kernel
theorem dX7_leastApart_51 : decode cX7_leastApart 51 = .ok (.invokevirtual 257, 3) := by decide +kernel
theorem dX7_leastApart_54 : decode cX7_leastApart 54 = .ok (.aload_n 1, 1) := by decide +kernel
theorem dX7_leastApart_55 : decode cX7_leastApart 55 = .ok (.invokevirtual 263, 3) := by decide +kernel
theorem dX7_leastApart_58 : decode cX7_leastApart 58 = .ok (.iload_n 2, 1) := by decide +kernel
theorem dX7_leastApart_59 : decode cX7_leastApart 59 = .ok (.iconst (-1), 1) := by decide +kernel
theorem dX7_leastApart_60 : decode cX7_leastApart 60 = .ok (.if_icmp .eq 14, 3) := by decide +kernel
theorem dX7_leastApart_63 : decode cX7_leastApart 63 = .ok (.aload_n 0, 1) := by decide +kernel
theorem dX7_leastApart_64 : decode cX7_leastApart 64 = .ok (.getfield 42, 3) := by decide +kernel
theorem dX7_leastApart_67 : decode cX7_leastApart 67 = .ok (.invokevirtual 267, 3) := by decide +kernel
theorem dX7_leastApart_70 : decode cX7_leastApart 70 = .ok (.iload_n 2, 1) := by decide +kernel
theorem dX7_leastApart_71 : decode cX7_leastApart 71 = .ok (.if_icmp .ge 11, 3) := by decide +kernel
theorem dX7_leastApart_74 : decode cX7_leastApart 74 = .ok (.aload_n 0, 1) := by decide +kernel
theorem dX7_leastApart_75 : decode cX7_leastApart 75 = .ok (.getfield 42, 3) := by decide +kernel
theorem dX7_leastApart_78 : decode cX7_leastApart 78 = .ok (.invokevirtual 267, 3) := by decide +kernel
theorem dX7_leastApart_81 : decode cX7_leastApart 81 = .ok (.istore_n 2, 1) := by decide +kernel
theorem dX7_leastApart_82 : decode cX7_leastApart 82 = .ok (.iinc 4 1, 3) := by decide +kernel
theorem dX7_leastApart_85 : decode cX7_leastApart 85 = .ok (.goto (-64), 3) := by decide +kernel
theorem dX7_leastApart_88 : decode cX7_leastApart 88 = .ok (.iinc 3 1, 3) := by decide +kernel
theorem dX7_leastApart_91 : decode cX7_leastApart 91 = .ok (.goto (-87), 3) := by decide +kernel
theorem dX7_leastApart_94 : decode cX7_leastApart 94 = .ok (.iload_n 2, 1) := by decide +kernel
theorem dX7_leastApart_95 : decode cX7_leastApart 95 = .ok (.ireturn, 1) := by decide +kernel
theorem dX7_eighthsBetween_0 : decode cX7_eighthsBetween 0 = .ok (.iload_n 0, 1) := by decide +kernel
theorem dX7_eighthsBetween_1 : decode cX7_eighthsBetween 1 = .ok (.iload_n 1, 1) := by decide +kernel
theorem dX7_eighthsBetween_2 : decode cX7_eighthsBetween 2 = .ok (.isub, 1) := by decide +kernel
theorem dX7_eighthsBetween_3 : decode cX7_eighthsBetween 3 = .ok (.bipush 7, 2) := by decide +kernel
theorem dX7_eighthsBetween_5 : decode cX7_eighthsBetween 5 = .ok (.iand, 1) := by decide +kernel
theorem dX7_eighthsBetween_6 : decode cX7_eighthsBetween 6 = .ok (.istore_n 2, 1) := by decide +kernel
theorem dX7_eighthsBetween_7 : decode cX7_eighthsBetween 7 = .ok (.iload_n 2, 1) := by decide +kernel
theorem dX7_eighthsBetween_8 : decode cX7_eighthsBetween 8 = .ok (.iconst 4, 1) := by decide +kernel
theorem dX7_eighthsBetween_9 : decode cX7_eighthsBetween 9 = .ok (.if_icmp .gt 7, 3) := by decide +kernel
theorem dX7_eighthsBetween_12 : decode cX7_eighthsBetween 12 = .ok (.iload_n 2, 1) := by decide +kernel
theorem dX7_eighthsBetween_13 : decode cX7_eighthsBetween 13 = .ok (.goto 7, 3) := by decide +kernel
theorem dX7_eighthsBetween_16 : decode cX7_eighthsBetween 16 = .ok (.bipush 8, 2) := by decide +kernel
theorem dX7_eighthsBetween_18 : decode cX7_eighthsBetween 18 = .ok (.iload_n 2, 1) := by decide +kernel
theorem dX7_eighthsBetween_19 : decode cX7_eighthsBetween 19 = .ok (.isub, 1) := by decide +kernel
theorem dX7_eighthsBetween_20 : decode cX7_eighthsBetween 20 = .ok (.ireturn, 1) := by decide +kernel
theorem dX7_isCutCorner_0 : decode cX7_isCutCorner 0 = .ok (.iload_n 2, 1) := by decide +kernel
theorem dX7_isCutCorner_1 : decode cX7_isCutCorner 1 = .ok (.iconst 1, 1) := by decide +kernel
theorem dX7_isCutCorner_2 : decode cX7_isCutCorner 2 = .ok (.if_icmp .lt 22, 3) := by decide +kernel
theorem dX7_isCutCorner_5 : decode cX7_isCutCorner 5 = .ok (.iload_n 2, 1) := by decide +kernel
theorem dX7_isCutCorner_6 : decode cX7_isCutCorner 6 = .ok (.iconst 1, 1) := by decide +kernel
theorem dX7_isCutCorner_7 : decode cX7_isCutCorner 7 = .ok (.iadd, 1) := by decide +kernel
theorem dX7_isCutCorner_8 : decode cX7_isCutCorner 8 = .ok (.aload_n 0, 1) := by decide +kernel
theorem dX7_isCutCorner_9 : decode cX7_isCutCorner 9 = .ok (.invokevirtual 150, 3) := by decide +kernel
theorem dX7_isCutCorner_12 : decode cX7_isCutCorner 12 = .ok (.if_icmp .ge 12, 3) := by decide +kernel
theorem dX7_isCutCorner_15 : decode cX7_isCutCorner 15 = .ok (.aload_n 1, 1) := by decide +kernel
theorem dX7_isCutCorner_16 : decode cX7_isCutCorner 16 = .ok (.iload_n 2, 1) := by decide +kernel
theorem dX7_isCutCorner_17 : decode cX7_isCutCorner 17 = .ok (.invokevirtual 180, 3) := by decide +kernel
theorem dX7_isCutCorner_20 : decode cX7_isCutCorner 20 = .ok (.iload_n 3, 1) := by decide +kernel
theorem dX7_isCutCorner_21 : decode cX7_isCutCorner 21 = .ok (.if_icmp .le 5, 3) := by decide +kernel
theorem dX7_isCutCorner_24 : decode cX7_isCutCorner 24 = .ok (.iconst 0, 1) := by decide +kernel
theorem dX7_isCutCorner_25 : decode cX7_isCutCorner 25 = .ok (.ireturn, 1) := by decide +kernel
theorem dX7_isCutCorner_26 : decode cX7_isCutCorner 26 = .ok (.aload_n 0, 1) := by decide +kernel
theorem dX7_isCutCorner_27 : decode cX7_isCutCorner 27 = .ok (.iload_n 2, 1) := by decide +kernel
theorem dX7_isCutCorner_28 : decode cX7_isCutCorner 28 = .ok (.iconst 1, 1) := by decide +kernel
theorem dX7_isCutCorner_29 : decode cX7_isCutCorner 29 = .ok (.isub, 1) := by decide +kernel
theorem dX7_isCutCorner_30 : decode cX7_isCutCorner 30 = .ok (.invokevirtual 180, 3) := by decide +kernel
theorem dX7_isCutCorner_33 : decode cX7_isCutCorner 33 = .ok (.istore 4, 2) := by decide +kernel
theorem dX7_isCutCorner_35 : decode cX7_isCutCorner 35 = .ok (.aload_n 0, 1) := by decide +kernel
theorem dX7_isCutCorner_36 : decode cX7_isCutCorner 36 = .ok (.iload_n 2, 1) := by decide +kernel
theorem dX7_isCutCorner_37 : decode cX7_isCutCorner 37 = .ok (.invokevirtual 180, 3) := by decide +kernel
theorem dX7_isCutCorner_40 : decode cX7_isCutCorner 40 = .ok (.istore 5, 2) := by decide +kernel
theorem dX7_isCutCorner_42 : decode cX7_isCutCorner 42 = .ok (.aload_n 0, 1) := by decide +kernel
theorem dX7_isCutCorner_43 : decode cX7_isCutCorner 43 = .ok (.iload_n 2, 1) := by decide +kernel
theorem dX7_isCutCorner_44 : decode cX7_isCutCorner 44 = .ok (.iconst 1, 1) := by decide +kernel
theorem dX7_isCutCorner_45 : decode cX7_isCutCorner 45 = .ok (.iadd, 1) := by decide +kernel
theorem dX7_isCutCorner_46 : decode cX7_isCutCorner 46 = .ok (.invokevirtual 180, 3) := by decide +kernel
theorem dX7_isCutCorner_49 : decode cX7_isCutCorner 49 = .ok (.istore 6, 2) := by decide +kernel
theorem dX7_isCutCorner_51 : decode cX7_isCutCorner 51 = .ok (.iload 4, 2) := by decide +kernel
theorem dX7_isCutCorner_53 : decode cX7_isCutCorner 53 = .ok (.iload 5, 2) := by decide +kernel
theorem dX7_isCutCorner_55 : decode cX7_isCutCorner 55 = .ok (.invokestatic 368, 3) := by decide +kernel
theorem dX7_isCutCorner_58 : decode cX7_isCutCorner 58 = .ok (.iconst 1, 1) := by decide +kernel
theorem dX7_isCutCorner_59 : decode cX7_isCutCorner 59 = .ok (.if_icmp .ne 29, 3) := by decide +kernel
theorem dX7_isCutCorner_62 : decode cX7_isCutCorner 62 = .ok (.iload 5, 2) := by decide +kernel
theorem dX7_isCutCorner_64 : decode cX7_isCutCorner 64 = .ok (.iload 6, 2) := by decide +kernel
theorem dX7_isCutCorner_66 : decode cX7_isCutCorner 66 = .ok (.invokestatic 368, 3) := by decide +kernel
theorem dX7_isCutCorner_69 : decode cX7_isCutCorner 69 = .ok (.iconst 1, 1) := by decide +kernel
theorem dX7_isCutCorner_70 : decode cX7_isCutCorner 70 = .ok (.if_icmp .ne 18, 3) := by decide +kernel
theorem dX7_isCutCorner_73 : decode cX7_isCutCorner 73 = .ok (.iload 4, 2) := by decide +kernel
theorem dX7_isCutCorner_75 : decode cX7_isCutCorner 75 = .ok (.iload 6, 2) := by decide +kernel
theorem dX7_isCutCorner_77 : decode cX7_isCutCorner 77 = .ok (.invokestatic 368, 3) := by decide +kernel
theorem dX7_isCutCorner_80 : decode cX7_isCutCorner 80 = .ok (.iconst 2, 1) := by decide +kernel
theorem dX7_isCutCorner_81 : decode cX7_isCutCorner 81 = .ok (.if_icmp .ne 7, 3) := by decide +kernel
theorem dX7_isCutCorner_84 : decode cX7_isCutCorner 84 = .ok (.iconst 1, 1) := by decide +kernel
theorem dX7_isCutCorner_85 : decode cX7_isCutCorner 85 = .ok (.goto 4, 3) := by decide +kernel
theorem dX7_isCutCorner_88 : decode cX7_isCutCorner 88 = .ok (.iconst 0, 1) := by decide +kernel
theorem dX7_isCutCorner_89 : decode cX7_isCutCorner 89 = .ok (.ireturn, 1) := by decide +kernel
theorem dJ6_signum_0f7a4_0 : decode cJ6_signum_0f7a4 0 = .ok (.iload_n 0, 1) := by decide +kernel
theorem dJ6_signum_0f7a4_1 : decode cJ6_signum_0f7a4 1 = .ok (.bipush 31, 2) := by decide +kernel
theorem dJ6_signum_0f7a4_3 : decode cJ6_signum_0f7a4 3 = .ok (.ishr, 1) := by decide +kernel
theorem dJ6_signum_0f7a4_4 : decode cJ6_signum_0f7a4 4 = .ok (.iload_n 0, 1) := by decide +kernel
theorem dJ6_signum_0f7a4_5 : decode cJ6_signum_0f7a4 5 = .ok (.ineg, 1) := by decide +kernel
theorem dJ6_signum_0f7a4_6 : decode cJ6_signum_0f7a4 6 = .ok (.bipush 31, 2) := by decide +kernel
theorem dJ6_signum_0f7a4_8 : decode cJ6_signum_0f7a4 8 = .ok (.iushr, 1) := by decide +kernel
theorem dJ6_signum_0f7a4_9 : decode cJ6_signum_0f7a4 9 = .ok (.ior, 1) := by decide +kernel
theorem dJ6_signum_0f7a4_10 : decode cJ6_signum_0f7a4 10 = .ok (.ireturn, 1) := by decide +kernel
theorem dJ9_abs_0f7a4_0 : decode cJ9_abs_0f7a4 0 = .ok (.iload_n 0, 1) := by decide +kernel
theorem dJ9_abs_0f7a4_1 : decode cJ9_abs_0f7a4 1 = .ok (.ifCond .ge 8, 3) := by decide +kernel
theorem dJ9_abs_0f7a4_4 : decode cJ9_abs_0f7a4 4 = .ok (.iload_n 0, 1) := by decide +kernel
theorem dJ9_abs_0f7a4_5 : decode cJ9_abs_0f7a4 5 = .ok (.ineg, 1) := by decide +kernel
theorem dJ9_abs_0f7a4_6 : decode cJ9_abs_0f7a4 6 = .ok (.goto 4, 3) := by decide +kernel
theorem dJ9_abs_0f7a4_9 : decode cJ9_abs_0f7a4 9 = .ok (.iload_n 0, 1) := by decide +kernel
theorem dJ9_abs_0f7a4_10 : decode cJ9_abs_0f7a4 10 = .ok (.ireturn, 1) := by decide +kernel
theorem dJ9_max_7cf53_0 : decode cJ9_max_7cf53 0 = .ok (.iload_n 0, 1) := by decide +kernel
theorem dJ9_max_7cf53_1 : decode cJ9_max_7cf53 1 = .ok (.iload_n 1, 1) := by decide +kernel
theorem dJ9_max_7cf53_2 : decode cJ9_max_7cf53 2 = .ok (.if_icmp .lt 7, 3) := by decide +kernel
theorem dJ9_max_7cf53_5 : decode cJ9_max_7cf53 5 = .ok (.iload_n 0, 1) := by decide +kernel
theorem dJ9_max_7cf53_6 : decode cJ9_max_7cf53 6 = .ok (.goto 4, 3) := by decide +kernel
theorem dJ9_max_7cf53_9 : decode cJ9_max_7cf53 9 = .ok (.iload_n 1, 1) := by decide +kernel
theorem dJ9_max_7cf53_10 : decode cJ9_max_7cf53 10 = .ok (.ireturn, 1) := by decide +kernel
theorem dJ9_min_7cf53_0 : decode cJ9_min_7cf53 0 = .ok (.iload_n 0, 1) := by decide +kernel
theorem dJ9_min_7cf53_1 : decode cJ9_min_7cf53 1 = .ok (.iload_n 1, 1) := by decide +kernel
theorem dJ9_min_7cf53_2 : decode cJ9_min_7cf53 2 = .ok (.if_icmp .gt 7, 3) := by decide +kernel
theorem dJ9_min_7cf53_5 : decode cJ9_min_7cf53 5 = .ok (.iload_n 0, 1) := by decide +kernel
theorem dJ9_min_7cf53_6 : decode cJ9_min_7cf53 6 = .ok (.goto 4, 3) := by decide +kernel
theorem dJ9_min_7cf53_9 : decode cJ9_min_7cf53 9 = .ok (.iload_n 1, 1) := by decide +kernel
theorem dJ9_min_7cf53_10 : decode cJ9_min_7cf53 10 = .ok (.ireturn, 1) := by decide +kernel
theorem dL_cell_0 : decode cL_cell 0 = .ok (.iload_n 1, 1) := by decide +kernel
theorem dL_cell_1 : decode cL_cell 1 = .ok (.aload_n 0, 1) := by decide +kernel
theorem dL_cell_2 : decode cL_cell 2 = .ok (.arraylength, 1) := by decide +kernel
theorem dL_cell_3 : decode cL_cell 3 = .ok (.if_icmp .ge 9, 3) := by decide +kernel
theorem dL_cell_6 : decode cL_cell 6 = .ok (.aload_n 0, 1) := by decide +kernel
theorem dL_cell_7 : decode cL_cell 7 = .ok (.iload_n 1, 1) := by decide +kernel
theorem dL_cell_8 : decode cL_cell 8 = .ok (.iaload, 1) := by decide +kernel
theorem dL_cell_9 : decode cL_cell 9 = .ok (.goto 11, 3) := by decide +kernel
theorem dL_cell_12 : decode cL_cell 12 = .ok (.ldc 7, 2) := by decide +kernel
theorem dL_cell_14 : decode cL_cell 14 = .ok (.iload_n 1, 1) := by decide +kernel
theorem dL_cell_15 : decode cL_cell 15 = .ok (.sipush 569, 3) := by decide +kernel
theorem dL_cell_18 : decode cL_cell 18 = .ok (.iadd, 1) := by decide +kernel
theorem dL_cell_19 : decode cL_cell 19 = .ok (.imul, 1) := by decide +kernel
theorem dL_cell_20 : decode cL_cell 20 = .ok (.ireturn, 1) := by decide +kernel
theorem dL_at_0 : decode cL_at 0 = .ok (.iload_n 0, 1) := by decide +kernel
theorem dL_at_1 : decode cL_at 1 = .ok (.iconst 1, 1) := by decide +kernel
theorem dL_at_2 : decode cL_at 2 = .ok (.iushr, 1) := by decide +kernel
theorem dL_at_3 : decode cL_at 3 = .ok (.iload_n 1, 1) := by decide +kernel
theorem dL_at_4 : decode cL_at 4 = .ok (.irem, 1) := by decide +kernel
theorem dL_at_5 : decode cL_at 5 = .ok (.ireturn, 1) := by decide +kernel
theorem dL_size_0 : decode cL_size 0 = .ok (.iload_n 0, 1) := by decide +kernel
theorem dL_size_1 : decode cL_size 1 = .ok (.ifCond .ge 8, 3) := by decide +kernel
theorem dL_size_4 : decode cL_size 4 = .ok (.iload_n 0, 1) := by decide +kernel
theorem dL_size_5 : decode cL_size 5 = .ok (.ineg, 1) := by decide +kernel
theorem dL_size_6 : decode cL_size 6 = .ok (.goto 4, 3) := by decide +kernel
theorem dL_size_9 : decode cL_size 9 = .ok (.iload_n 0, 1) := by decide +kernel
theorem dL_size_10 : decode cL_size 10 = .ok (.ireturn, 1) := by decide +kernel
theorem dL_direction_0 : decode cL_direction 0 = .ok (.iload_n 0, 1) := by decide +kernel
theorem dL_direction_1 : decode cL_direction 1 = .ok (.ifCond .le 22, 3) := by decide +kernel
theorem dL_direction_4 : decode cL_direction 4 = .ok (.iload_n 1, 1) := by decide +kernel
theorem dL_direction_5 : decode cL_direction 5 = .ok (.ifCond .le 7, 3) := by decide +kernel
theorem dL_direction_8 : decode cL_direction 8 = .ok (.iconst 1, 1) := by decide +kernel
theorem dL_direction_9 : decode cL_direction 9 = .ok (.goto 13, 3) := by decide +kernel
theorem dL_direction_12 : decode cL_direction 12 = .ok (.iload_n 1, 1) := by decide +kernel
theorem dL_direction_13 : decode cL_direction 13 = .ok (.ifCond .ne 7, 3) := by decide +kernel
theorem dL_direction_16 : decode cL_direction 16 = .ok (.iconst 0, 1) := by decide +kernel
theorem dL_direction_17 : decode cL_direction 17 = .ok (.goto 5, 3) := by decide +kernel
theorem dL_direction_20 : decode cL_direction 20 = .ok (.bipush 7, 2) := by decide +kernel
theorem dL_direction_22 : decode cL_direction 22 = .ok (.ireturn, 1) := by decide +kernel
theorem dL_direction_23 : decode cL_direction 23 = .ok (.iload_n 0, 1) := by decide +kernel
theorem dL_direction_24 : decode cL_direction 24 = .ok (.ifCond .ge 21, 3) := by decide +kernel
theorem dL_direction_27 : decode cL_direction 27 = .ok (.iload_n 1, 1) := by decide +kernel
theorem dL_direction_28 : decode cL_direction 28 = .ok (.ifCond .le 7, 3) := by decide +kernel
theorem dL_direction_31 : decode cL_direction 31 = .ok (.iconst 3, 1) := by decide +kernel
theorem dL_direction_32 : decode cL_direction 32 = .ok (.goto 12, 3) := by decide +kernel
theorem dL_direction_35 : decode cL_direction 35 = .ok (.iload_n 1, 1) := by decide +kernel
theorem dL_direction_36 : decode cL_direction 36 = .ok (.ifCond .ne 7, 3) := by decide +kernel
theorem dL_direction_39 : decode cL_direction 39 = .ok (.iconst 4, 1) := by decide +kernel
theorem dL_direction_40 : decode cL_direction 40 = .ok (.goto 4, 3) := by decide +kernel
theorem dL_direction_43 : decode cL_direction 43 = .ok (.iconst 5, 1) := by decide +kernel
theorem dL_direction_44 : decode cL_direction 44 = .ok (.ireturn, 1) := by decide +kernel
theorem dL_direction_45 : decode cL_direction 45 = .ok (.iload_n 1, 1) := by decide +kernel
theorem dL_direction_46 : decode cL_direction 46 = .ok (.ifCond .le 7, 3) := by decide +kernel
theorem dL_direction_49 : decode cL_direction 49 = .ok (.iconst 2, 1) := by decide +kernel
theorem dL_direction_50 : decode cL_direction 50 = .ok (.goto 13, 3) := by decide +kernel
theorem dL_direction_53 : decode cL_direction 53 = .ok (.iload_n 1, 1) := by decide +kernel
theorem dL_direction_54 : decode cL_direction 54 = .ok (.ifCond .ne 7, 3) := by decide +kernel
theorem dL_direction_57 : decode cL_direction 57 = .ok (.iconst (-1), 1) := by decide +kernel
theorem dL_direction_58 : decode cL_direction 58 = .ok (.goto 5, 3) := by decide +kernel
theorem dL_direction_61 : decode cL_direction 61 = .ok (.bipush 6, 2) := by decide +kernel
theorem dL_direction_63 : decode cL_direction 63 = .ok (.ireturn, 1) := by decide +kernel
theorem dL_across_0 : decode cL_across 0 = .ok (.iload_n 0, 1) := by decide +kernel
theorem dL_across_1 : decode cL_across 1 = .ok (.iconst 2, 1) := by decide +kernel
theorem dL_across_2 : decode cL_across 2 = .ok (.if_icmp .eq 9, 3) := by decide +kernel
theorem dL_across_5 : decode cL_across 5 = .ok (.iload_n 0, 1) := by decide +kernel
theorem dL_across_6 : decode cL_across 6 = .ok (.bipush 6, 2) := by decide +kernel
theorem dL_across_8 : decode cL_across 8 = .ok (.if_icmp .ne 7, 3) := by decide +kernel
theorem dL_across_11 : decode cL_across 11 = .ok (.iconst 0, 1) := by decide +kernel
theorem dL_across_12 : decode cL_across 12 = .ok (.goto 19, 3) := by decide +kernel
theorem dL_across_15 : decode cL_across 15 = .ok (.iload_n 0, 1) := by decide +kernel
theorem dL_across_16 : decode cL_across 16 = .ok (.iconst 2, 1) := by decide +kernel
theorem dL_across_17 : decode cL_across 17 = .ok (.if_icmp .le 13, 3) := by decide +kernel
theorem dL_across_20 : decode cL_across 20 = .ok (.iload_n 0, 1) := by decide +kernel
theorem dL_across_21 : decode cL_across 21 = .ok (.bipush 6, 2) := by decide +kernel
theorem dL_across_23 : decode cL_across 23 = .ok (.if_icmp .ge 7, 3) := by decide +kernel
theorem dL_across_26 : decode cL_across 26 = .ok (.iconst (-1), 1) := by decide +kernel
theorem dL_across_27 : decode cL_across 27 = .ok (.goto 4, 3) := by decide +kernel
theorem dL_across_30 : decode cL_across 30 = .ok (.iconst 1, 1) := by decide +kernel
theorem dL_across_31 : decode cL_across 31 = .ok (.ireturn, 1) := by decide +kernel
theorem dL_down_0 : decode cL_down 0 = .ok (.iload_n 0, 1) := by decide +kernel
theorem dL_down_1 : decode cL_down 1 = .ok (.ifCond .eq 8, 3) := by decide +kernel
theorem dL_down_4 : decode cL_down 4 = .ok (.iload_n 0, 1) := by decide +kernel
theorem dL_down_5 : decode cL_down 5 = .ok (.iconst 4, 1) := by decide +kernel
theorem dL_down_6 : decode cL_down 6 = .ok (.if_icmp .ne 7, 3) := by decide +kernel
theorem dL_down_9 : decode cL_down 9 = .ok (.iconst 0, 1) := by decide +kernel
theorem dL_down_10 : decode cL_down 10 = .ok (.goto 13, 3) := by decide +kernel
theorem dL_down_13 : decode cL_down 13 = .ok (.iload_n 0, 1) := by decide +kernel
theorem dL_down_14 : decode cL_down 14 = .ok (.iconst 4, 1) := by decide +kernel
theorem dL_down_15 : decode cL_down 15 = .ok (.if_icmp .ge 7, 3) := by decide +kernel
theorem dL_down_18 : decode cL_down 18 = .ok (.iconst 1, 1) := by decide +kernel
theorem dL_down_19 : decode cL_down 19 = .ok (.goto 4, 3) := by decide +kernel
theorem dL_down_22 : decode cL_down 22 = .ok (.iconst (-1), 1) := by decide +kernel
theorem dL_down_23 : decode cL_down 23 = .ok (.ireturn, 1) := by decide +kernel
theorem dL_apart_0 : decode cL_apart 0 = .ok (.iload_n 0, 1) := by decide +kernel
theorem dL_apart_1 : decode cL_apart 1 = .ok (.iload_n 1, 1) := by decide +kernel
theorem dL_apart_2 : decode cL_apart 2 = .ok (.isub, 1) := by decide +kernel
theorem dL_apart_3 : decode cL_apart 3 = .ok (.invokestatic 8, 3) := by decide +kernel
theorem dL_apart_6 : decode cL_apart 6 = .ok (.istore_n 2, 1) := by decide +kernel
theorem dL_apart_7 : decode cL_apart 7 = .ok (.iload_n 2, 1) := by decide +kernel
theorem dL_apart_8 : decode cL_apart 8 = .ok (.iconst 4, 1) := by decide +kernel
theorem dL_apart_9 : decode cL_apart 9 = .ok (.if_icmp .le 10, 3) := by decide +kernel
theorem dL_apart_12 : decode cL_apart 12 = .ok (.bipush 8, 2) := by decide +kernel
theorem dL_apart_14 : decode cL_apart 14 = .ok (.iload_n 2, 1) := by decide +kernel
theorem dL_apart_15 : decode cL_apart 15 = .ok (.isub, 1) := by decide +kernel
theorem dL_apart_16 : decode cL_apart 16 = .ok (.goto 4, 3) := by decide +kernel
theorem dL_apart_19 : decode cL_apart 19 = .ok (.iload_n 2, 1) := by decide +kernel
theorem dL_apart_20 : decode cL_apart 20 = .ok (.ireturn, 1) := by decide +kernel
theorem dL_runs_0 : decode cL_runs 0 = .ok (.aload 5, 2) := by decide +kernel
theorem dL_runs_2 : decode cL_runs 2 = .ok (.iconst 0, 1) := by decide +kernel
theorem dL_runs_3 : decode cL_runs 3 = .ok (.iconst 0, 1) := by decide +kernel
theorem dL_runs_4 : decode cL_runs 4 = .ok (.iastore, 1) := by decide +kernel
theorem dL_runs_5 : decode cL_runs 5 = .ok (.iconst 1, 1) := by decide +kernel
theorem dL_runs_6 : decode cL_runs 6 = .ok (.istore 6, 2) := by decide +kernel
theorem dL_runs_8 : decode cL_runs 8 = .ok (.iload 6, 2) := by decide +kernel
theorem dL_runs_10 : decode cL_runs 10 = .ok (.iload_n 0, 1) := by decide +kernel
theorem dL_runs_11 : decode cL_runs 11 = .ok (.if_icmp .ge 131, 3) := by decide +kernel
theorem dL_runs_14 : decode cL_runs 14 = .ok (.aload_n 1, 1) := by decide +kernel
theorem dL_runs_15 : decode cL_runs 15 = .ok (.iload 6, 2) := by decide +kernel
theorem dL_runs_17 : decode cL_runs 17 = .ok (.iaload, 1) := by decide +kernel
theorem dL_runs_18 : decode cL_runs 18 = .ok (.aload_n 1, 1) := by decide +kernel
theorem dL_runs_19 : decode cL_runs 19 = .ok (.iload 6, 2) := by decide +kernel
theorem dL_runs_21 : decode cL_runs 21 = .ok (.iconst 1, 1) := by decide +kernel
theorem dL_runs_22 : decode cL_runs 22 = .ok (.isub, 1) := by decide +kernel
theorem dL_runs_23 : decode cL_runs 23 = .ok (.iaload, 1) := by decide +kernel
theorem dL_runs_24 : decode cL_runs 24 = .ok (.isub, 1) := by decide +kernel
theorem dL_runs_25 : decode cL_runs 25 = .ok (.istore 7, 2) := by decide +kernel
theorem dL_runs_27 : decode cL_runs 27 = .ok (.aload_n 2, 1) := by decide +kernel
theorem dL_runs_28 : decode cL_runs 28 = .ok (.iload 6, 2) := by decide +kernel
theorem dL_runs_30 : decode cL_runs 30 = .ok (.iaload, 1) := by decide +kernel
theorem dL_runs_31 : decode cL_runs 31 = .ok (.aload_n 2, 1) := by decide +kernel
theorem dL_runs_32 : decode cL_runs 32 = .ok (.iload 6, 2) := by decide +kernel
theorem dL_runs_34 : decode cL_runs 34 = .ok (.iconst 1, 1) := by decide +kernel
theorem dL_runs_35 : decode cL_runs 35 = .ok (.isub, 1) := by decide +kernel
theorem dL_runs_36 : decode cL_runs 36 = .ok (.iaload, 1) := by decide +kernel
theorem dL_runs_37 : decode cL_runs 37 = .ok (.isub, 1) := by decide +kernel
theorem dL_runs_38 : decode cL_runs 38 = .ok (.istore 8, 2) := by decide +kernel
theorem dL_runs_40 : decode cL_runs 40 = .ok (.iload 7, 2) := by decide +kernel
theorem dL_runs_42 : decode cL_runs 42 = .ok (.iload 8, 2) := by decide +kernel
theorem dL_runs_44 : decode cL_runs 44 = .ok (.invokestatic 14, 3) := by decide +kernel
theorem dL_runs_47 : decode cL_runs 47 = .ok (.istore 9, 2) := by decide +kernel
theorem dL_runs_49 : decode cL_runs 49 = .ok (.iload 9, 2) := by decide +kernel
theorem dL_runs_51 : decode cL_runs 51 = .ok (.ifCond .ge 6, 3) := by decide +kernel
theorem dL_runs_54 : decode cL_runs 54 = .ok (.goto 82, 3) := by decide +kernel
theorem dL_runs_57 : decode cL_runs 57 = .ok (.aload 5, 2) := by decide +kernel
theorem dL_runs_59 : decode cL_runs 59 = .ok (.iconst 0, 1) := by decide +kernel
theorem dL_runs_60 : decode cL_runs 60 = .ok (.iaload, 1) := by decide +kernel
theorem dL_runs_61 : decode cL_runs 61 = .ok (.ifCond .eq 16, 3) := by decide +kernel
theorem dL_runs_64 : decode cL_runs 64 = .ok (.aload_n 3, 1) := by decide +kernel
theorem dL_runs_65 : decode cL_runs 65 = .ok (.aload 5, 2) := by decide +kernel
theorem dL_runs_67 : decode cL_runs 67 = .ok (.iconst 0, 1) := by decide +kernel
theorem dL_runs_68 : decode cL_runs 68 = .ok (.iaload, 1) := by decide +kernel
theorem dL_runs_69 : decode cL_runs 69 = .ok (.iconst 1, 1) := by decide +kernel
theorem dL_runs_70 : decode cL_runs 70 = .ok (.isub, 1) := by decide +kernel
theorem dL_runs_71 : decode cL_runs 71 = .ok (.iaload, 1) := by decide +kernel
theorem dL_runs_72 : decode cL_runs 72 = .ok (.iload 9, 2) := by decide +kernel
theorem dL_runs_74 : decode cL_runs 74 = .ok (.if_icmp .eq 24, 3) := by decide +kernel
theorem dL_runs_77 : decode cL_runs 77 = .ok (.aload_n 3, 1) := by decide +kernel
theorem dL_runs_78 : decode cL_runs 78 = .ok (.aload 5, 2) := by decide +kernel
theorem dL_runs_80 : decode cL_runs 80 = .ok (.iconst 0, 1) := by decide +kernel
theorem dL_runs_81 : decode cL_runs 81 = .ok (.iaload, 1) := by decide +kernel
theorem dL_runs_82 : decode cL_runs 82 = .ok (.iload 9, 2) := by decide +kernel
theorem dL_runs_84 : decode cL_runs 84 = .ok (.iastore, 1) := by decide +kernel
theorem dL_runs_85 : decode cL_runs 85 = .ok (.aload 4, 2) := by decide +kernel
theorem dL_runs_87 : decode cL_runs 87 = .ok (.aload 5, 2) := by decide +kernel
theorem dL_runs_89 : decode cL_runs 89 = .ok (.iconst 0, 1) := by decide +kernel
theorem dL_runs_90 : decode cL_runs 90 = .ok (.dup2, 1) := by decide +kernel
theorem dL_runs_91 : decode cL_runs 91 = .ok (.iaload, 1) := by decide +kernel
theorem dL_runs_92 : decode cL_runs 92 = .ok (.dup_x2, 1) := by decide +kernel
theorem dL_runs_93 : decode cL_runs 93 = .ok (.iconst 1, 1) := by decide +kernel
theorem dL_runs_94 : decode cL_runs 94 = .ok (.iadd, 1) := by decide +kernel
theorem dL_runs_95 : decode cL_runs 95 = .ok (.iastore, 1) := by decide +kernel
theorem dL_runs_96 : decode cL_runs 96 = .ok (.iconst 0, 1) := by decide +kernel
theorem dL_runs_97 : decode cL_runs 97 = .ok (.iastore, 1) := by decide +kernel
theorem dL_runs_98 : decode cL_runs 98 = .ok (.aload 4, 2) := by decide +kernel
theorem dL_runs_100 : decode cL_runs 100 = .ok (.aload 5, 2) := by decide +kernel
theorem dL_runs_102 : decode cL_runs 102 = .ok (.iconst 0, 1) := by decide +kernel
theorem dL_runs_103 : decode cL_runs 103 = .ok (.iaload, 1) := by decide +kernel
theorem dL_runs_104 : decode cL_runs 104 = .ok (.iconst 1, 1) := by decide +kernel
theorem dL_runs_105 : decode cL_runs 105 = .ok (.isub, 1) := by decide +kernel
theorem dL_runs_106 : decode cL_runs 106 = .ok (.dup2, 1) := by decide +kernel
theorem dL_runs_107 : decode cL_runs 107 = .ok (.iaload, 1) := by decide +kernel
theorem dL_runs_108 : decode cL_runs 108 = .ok (.iload 7, 2) := by decide +kernel
theorem dL_runs_110 : decode cL_runs 110 = .ok (.invokestatic 8, 3) := by decide +kernel
theorem dL_runs_113 : decode cL_runs 113 = .ok (.iload 8, 2) := by decide +kernel
theorem dL_runs_115 : decode cL_runs 115 = .ok (.invokestatic 8, 3) := by decide +kernel
theorem dL_runs_118 : decode cL_runs 118 = .ok (.if_icmp .le 11, 3) := by decide +kernel
theorem dL_runs_121 : decode cL_runs 121 = .ok (.iload 7, 2) := by decide +kernel
theorem dL_runs_123 : decode cL_runs 123 = .ok (.invokestatic 8, 3) := by decide +kernel
theorem dL_runs_126 : decode cL_runs 126 = .ok (.goto 8, 3) := by decide +kernel
theorem dL_runs_129 : decode cL_runs 129 = .ok (.iload 8, 2) := by decide +kernel
theorem dL_runs_131 : decode cL_runs 131 = .ok (.invokestatic 8, 3) := by decide +kernel
theorem dL_runs_134 : decode cL_runs 134 = .ok (.iadd, 1) := by decide +kernel
theorem dL_runs_135 : decode cL_runs 135 = .ok (.iastore, 1) := by decide +kernel
theorem dL_runs_136 : decode cL_runs 136 = .ok (.iinc 6 1, 3) := by decide +kernel
theorem dL_runs_139 : decode cL_runs 139 = .ok (.goto (-131), 3) := by decide +kernel
theorem dL_runs_142 : decode cL_runs 142 = .ok (.return_, 1) := by decide +kernel
theorem dL_loose_0 : decode cL_loose 0 = .ok (.aload_n 2, 1) := by decide +kernel
theorem dL_loose_1 : decode cL_loose 1 = .ok (.iload 4, 2) := by decide +kernel
theorem dL_loose_3 : decode cL_loose 3 = .ok (.iaload, 1) := by decide +kernel
theorem dL_loose_4 : decode cL_loose 4 = .ok (.aload_n 0, 1) := by decide +kernel
theorem dL_loose_5 : decode cL_loose 5 = .ok (.iconst 3, 1) := by decide +kernel
theorem dL_loose_6 : decode cL_loose 6 = .ok (.iaload, 1) := by decide +kernel
theorem dL_loose_7 : decode cL_loose 7 = .ok (.if_icmp .ge 5, 3) := by decide +kernel
theorem dL_loose_10 : decode cL_loose 10 = .ok (.iconst 1, 1) := by decide +kernel
theorem dL_loose_11 : decode cL_loose 11 = .ok (.ireturn, 1) := by decide +kernel
theorem dL_loose_12 : decode cL_loose 12 = .ok (.iload 4, 2) := by decide +kernel
theorem dL_loose_14 : decode cL_loose 14 = .ok (.ifCond .le 80, 3) := by decide +kernel
theorem dL_loose_17 : decode cL_loose 17 = .ok (.iload 4, 2) := by decide +kernel
theorem dL_loose_19 : decode cL_loose 19 = .ok (.aload_n 3, 1) := by decide +kernel
theorem dL_loose_20 : decode cL_loose 20 = .ok (.iconst 0, 1) := by decide +kernel
theorem dL_loose_21 : decode cL_loose 21 = .ok (.iaload, 1) := by decide +kernel
theorem dL_loose_22 : decode cL_loose 22 = .ok (.iconst 1, 1) := by decide +kernel
theorem dL_loose_23 : decode cL_loose 23 = .ok (.isub, 1) := by decide +kernel
theorem dL_loose_24 : decode cL_loose 24 = .ok (.if_icmp .ge 70, 3) := by decide +kernel
theorem dL_loose_27 : decode cL_loose 27 = .ok (.aload_n 1, 1) := by decide +kernel
theorem dL_loose_28 : decode cL_loose 28 = .ok (.iload 4, 2) := by decide +kernel
theorem dL_loose_30 : decode cL_loose 30 = .ok (.iconst 1, 1) := by decide +kernel
theorem dL_loose_31 : decode cL_loose 31 = .ok (.isub, 1) := by decide +kernel
theorem dL_loose_32 : decode cL_loose 32 = .ok (.iaload, 1) := by decide +kernel
theorem dL_loose_33 : decode cL_loose 33 = .ok (.aload_n 1, 1) := by decide +kernel
theorem dL_loose_34 : decode cL_loose 34 = .ok (.iload 4, 2) := by decide +kernel
theorem dL_loose_36 : decode cL_loose 36 = .ok (.iaload, 1) := by decide +kernel
theorem dL_loose_37 : decode cL_loose 37 = .ok (.invokestatic 18, 3) := by decide +kernel
theorem dL_loose_40 : decode cL_loose 40 = .ok (.iconst 1, 1) := by decide +kernel
theorem dL_loose_41 : decode cL_loose 41 = .ok (.if_icmp .ne 53, 3) := by decide +kernel
theorem dL_loose_44 : decode cL_loose 44 = .ok (.aload_n 1, 1) := by decide +kernel
theorem dL_loose_45 : decode cL_loose 45 = .ok (.iload 4, 2) := by decide +kernel
theorem dL_loose_47 : decode cL_loose 47 = .ok (.iaload, 1) := by decide +kernel
theorem dL_loose_48 : decode cL_loose 48 = .ok (.aload_n 1, 1) := by decide +kernel
theorem dL_loose_49 : decode cL_loose 49 = .ok (.iload 4, 2) := by decide +kernel
theorem dL_loose_51 : decode cL_loose 51 = .ok (.iconst 1, 1) := by decide +kernel
theorem dL_loose_52 : decode cL_loose 52 = .ok (.iadd, 1) := by decide +kernel
theorem dL_loose_53 : decode cL_loose 53 = .ok (.iaload, 1) := by decide +kernel
theorem dL_loose_54 : decode cL_loose 54 = .ok (.invokestatic 18, 3) := by decide +kernel
theorem dL_loose_57 : decode cL_loose 57 = .ok (.iconst 1, 1) := by decide +kernel
theorem dL_loose_58 : decode cL_loose 58 = .ok (.if_icmp .ne 36, 3) := by decide +kernel
theorem dL_loose_61 : decode cL_loose 61 = .ok (.aload_n 1, 1) := by decide +kernel
theorem dL_loose_62 : decode cL_loose 62 = .ok (.iload 4, 2) := by decide +kernel
theorem dL_loose_64 : decode cL_loose 64 = .ok (.iconst 1, 1) := by decide +kernel
theorem dL_loose_65 : decode cL_loose 65 = .ok (.isub, 1) := by decide +kernel
theorem dL_loose_66 : decode cL_loose 66 = .ok (.iaload, 1) := by decide +kernel
theorem dL_loose_67 : decode cL_loose 67 = .ok (.aload_n 1, 1) := by decide +kernel
theorem dL_loose_68 : decode cL_loose 68 = .ok (.iload 4, 2) := by decide +kernel
theorem dL_loose_70 : decode cL_loose 70 = .ok (.iconst 1, 1) := by decide +kernel
theorem dL_loose_71 : decode cL_loose 71 = .ok (.iadd, 1) := by decide +kernel
theorem dL_loose_72 : decode cL_loose 72 = .ok (.iaload, 1) := by decide +kernel
theorem dL_loose_73 : decode cL_loose 73 = .ok (.invokestatic 18, 3) := by decide +kernel
theorem dL_loose_76 : decode cL_loose 76 = .ok (.iconst 2, 1) := by decide +kernel
theorem dL_loose_77 : decode cL_loose 77 = .ok (.if_icmp .ne 17, 3) := by decide +kernel
theorem dL_loose_80 : decode cL_loose 80 = .ok (.aload_n 2, 1) := by decide +kernel
theorem dL_loose_81 : decode cL_loose 81 = .ok (.iload 4, 2) := by decide +kernel
theorem dL_loose_83 : decode cL_loose 83 = .ok (.iaload, 1) := by decide +kernel
theorem dL_loose_84 : decode cL_loose 84 = .ok (.aload_n 0, 1) := by decide +kernel
theorem dL_loose_85 : decode cL_loose 85 = .ok (.iconst 4, 1) := by decide +kernel
theorem dL_loose_86 : decode cL_loose 86 = .ok (.iaload, 1) := by decide +kernel
theorem dL_loose_87 : decode cL_loose 87 = .ok (.if_icmp .gt 7, 3) := by decide +kernel
theorem dL_loose_90 : decode cL_loose 90 = .ok (.iconst 1, 1) := by decide +kernel
theorem dL_loose_91 : decode cL_loose 91 = .ok (.goto 4, 3) := by decide +kernel
theorem dL_loose_94 : decode cL_loose 94 = .ok (.iconst 0, 1) := by decide +kernel
theorem dL_loose_95 : decode cL_loose 95 = .ok (.ireturn, 1) := by decide +kernel
theorem dL_drop_0 : decode cL_drop 0 = .ok (.aload_n 2, 1) := by decide +kernel
theorem dL_drop_1 : decode cL_drop 1 = .ok (.iconst 0, 1) := by decide +kernel
theorem dL_drop_2 : decode cL_drop 2 = .ok (.dup2, 1) := by decide +kernel
theorem dL_drop_3 : decode cL_drop 3 = .ok (.iaload, 1) := by decide +kernel
theorem dL_drop_4 : decode cL_drop 4 = .ok (.iconst 1, 1) := by decide +kernel
theorem dL_drop_5 : decode cL_drop 5 = .ok (.isub, 1) := by decide +kernel
theorem dL_drop_6 : decode cL_drop 6 = .ok (.iastore, 1) := by decide +kernel
theorem dL_drop_7 : decode cL_drop 7 = .ok (.iload_n 3, 1) := by decide +kernel
theorem dL_drop_8 : decode cL_drop 8 = .ok (.istore 4, 2) := by decide +kernel
theorem dL_drop_10 : decode cL_drop 10 = .ok (.iload 4, 2) := by decide +kernel
theorem dL_drop_12 : decode cL_drop 12 = .ok (.aload_n 2, 1) := by decide +kernel
theorem dL_drop_13 : decode cL_drop 13 = .ok (.iconst 0, 1) := by decide +kernel
theorem dL_drop_14 : decode cL_drop 14 = .ok (.iaload, 1) := by decide +kernel
theorem dL_drop_15 : decode cL_drop 15 = .ok (.if_icmp .ge 29, 3) := by decide +kernel
theorem dL_drop_18 : decode cL_drop 18 = .ok (.aload_n 0, 1) := by decide +kernel
theorem dL_drop_19 : decode cL_drop 19 = .ok (.iload 4, 2) := by decide +kernel
theorem dL_drop_21 : decode cL_drop 21 = .ok (.aload_n 0, 1) := by decide +kernel
theorem dL_drop_22 : decode cL_drop 22 = .ok (.iload 4, 2) := by decide +kernel
theorem dL_drop_24 : decode cL_drop 24 = .ok (.iconst 1, 1) := by decide +kernel
theorem dL_drop_25 : decode cL_drop 25 = .ok (.iadd, 1) := by decide +kernel
theorem dL_drop_26 : decode cL_drop 26 = .ok (.iaload, 1) := by decide +kernel
theorem dL_drop_27 : decode cL_drop 27 = .ok (.iastore, 1) := by decide +kernel
theorem dL_drop_28 : decode cL_drop 28 = .ok (.aload_n 1, 1) := by decide +kernel
theorem dL_drop_29 : decode cL_drop 29 = .ok (.iload 4, 2) := by decide +kernel
theorem dL_drop_31 : decode cL_drop 31 = .ok (.aload_n 1, 1) := by decide +kernel
theorem dL_drop_32 : decode cL_drop 32 = .ok (.iload 4, 2) := by decide +kernel
theorem dL_drop_34 : decode cL_drop 34 = .ok (.iconst 1, 1) := by decide +kernel
theorem dL_drop_35 : decode cL_drop 35 = .ok (.iadd, 1) := by decide +kernel
theorem dL_drop_36 : decode cL_drop 36 = .ok (.iaload, 1) := by decide +kernel
theorem dL_drop_37 : decode cL_drop 37 = .ok (.iastore, 1) := by decide +kernel
theorem dL_drop_38 : decode cL_drop 38 = .ok (.iinc 4 1, 3) := by decide +kernel
theorem dL_drop_41 : decode cL_drop 41 = .ok (.goto (-31), 3) := by decide +kernel
theorem dL_drop_44 : decode cL_drop 44 = .ok (.return_, 1) := by decide +kernel
theorem dL_forgive_0 : decode cL_forgive 0 = .ok (.aload_n 3, 1) := by decide +kernel
theorem dL_forgive_1 : decode cL_forgive 1 = .ok (.iconst 1, 1) := by decide +kernel
theorem dL_forgive_2 : decode cL_forgive 2 = .ok (.iconst 0, 1) := by decide +kernel
theorem dL_forgive_3 : decode cL_forgive 3 = .ok (.iastore, 1) := by decide +kernel
theorem dL_forgive_4 : decode cL_forgive 4 = .ok (.iconst 0, 1) := by decide +kernel
theorem dL_forgive_5 : decode cL_forgive 5 = .ok (.istore 4, 2) := by decide +kernel
theorem dL_forgive_7 : decode cL_forgive 7 = .ok (.iload 4, 2) := by decide +kernel
theorem dL_forgive_9 : decode cL_forgive 9 = .ok (.aload_n 3, 1) := by decide +kernel
theorem dL_forgive_10 : decode cL_forgive 10 = .ok (.iconst 0, 1) := by decide +kernel
theorem dL_forgive_11 : decode cL_forgive 11 = .ok (.iaload, 1) := by decide +kernel
theorem dL_forgive_12 : decode cL_forgive 12 = .ok (.if_icmp .ge 96, 3) := by decide +kernel
theorem dL_forgive_15 : decode cL_forgive 15 = .ok (.aload_n 3, 1) := by decide +kernel
theorem dL_forgive_16 : decode cL_forgive 16 = .ok (.iconst 0, 1) := by decide +kernel
