theorem dL_forgive_17 : decode cL_forgive 17 = .ok (.iaload, 1) := by decide +kernel
theorem dL_forgive_18 : decode cL_forgive 18 = .ok (.iconst 1, 1) := by decide +kernel
theorem dL_forgive_19 : decode cL_forgive 19 = .ok (.if_icmp .le 89, 3) := by decide +kernel
theorem dL_forgive_22 : decode cL_forgive 22 = .ok (.aload_n 0, 1) := by decide +kernel
theorem dL_forgive_23 : decode cL_forgive 23 = .ok (.aload_n 1, 1) := by decide +kernel
theorem dL_forgive_24 : decode cL_forgive 24 = .ok (.aload_n 2, 1) := by decide +kernel
theorem dL_forgive_25 : decode cL_forgive 25 = .ok (.aload_n 3, 1) := by decide +kernel
theorem dL_forgive_26 : decode cL_forgive 26 = .ok (.iload 4, 2) := by decide +kernel
theorem dL_forgive_28 : decode cL_forgive 28 = .ok (.invokestatic 21, 3) := by decide +kernel
theorem dL_forgive_31 : decode cL_forgive 31 = .ok (.ifCond .ne 9, 3) := by decide +kernel
theorem dL_forgive_34 : decode cL_forgive 34 = .ok (.iinc 4 1, 3) := by decide +kernel
theorem dL_forgive_37 : decode cL_forgive 37 = .ok (.goto (-30), 3) := by decide +kernel
theorem dL_forgive_40 : decode cL_forgive 40 = .ok (.aload_n 1, 1) := by decide +kernel
theorem dL_forgive_41 : decode cL_forgive 41 = .ok (.aload_n 2, 1) := by decide +kernel
theorem dL_forgive_42 : decode cL_forgive 42 = .ok (.aload_n 3, 1) := by decide +kernel
theorem dL_forgive_43 : decode cL_forgive 43 = .ok (.iload 4, 2) := by decide +kernel
theorem dL_forgive_45 : decode cL_forgive 45 = .ok (.invokestatic 25, 3) := by decide +kernel
theorem dL_forgive_48 : decode cL_forgive 48 = .ok (.aload_n 3, 1) := by decide +kernel
theorem dL_forgive_49 : decode cL_forgive 49 = .ok (.iconst 1, 1) := by decide +kernel
theorem dL_forgive_50 : decode cL_forgive 50 = .ok (.dup2, 1) := by decide +kernel
theorem dL_forgive_51 : decode cL_forgive 51 = .ok (.iaload, 1) := by decide +kernel
theorem dL_forgive_52 : decode cL_forgive 52 = .ok (.iconst 1, 1) := by decide +kernel
theorem dL_forgive_53 : decode cL_forgive 53 = .ok (.iadd, 1) := by decide +kernel
theorem dL_forgive_54 : decode cL_forgive 54 = .ok (.iastore, 1) := by decide +kernel
theorem dL_forgive_55 : decode cL_forgive 55 = .ok (.iload 4, 2) := by decide +kernel
theorem dL_forgive_57 : decode cL_forgive 57 = .ok (.ifCond .le 45, 3) := by decide +kernel
theorem dL_forgive_60 : decode cL_forgive 60 = .ok (.iload 4, 2) := by decide +kernel
theorem dL_forgive_62 : decode cL_forgive 62 = .ok (.aload_n 3, 1) := by decide +kernel
theorem dL_forgive_63 : decode cL_forgive 63 = .ok (.iconst 0, 1) := by decide +kernel
theorem dL_forgive_64 : decode cL_forgive 64 = .ok (.iaload, 1) := by decide +kernel
theorem dL_forgive_65 : decode cL_forgive 65 = .ok (.if_icmp .ge 37, 3) := by decide +kernel
theorem dL_forgive_68 : decode cL_forgive 68 = .ok (.aload_n 1, 1) := by decide +kernel
theorem dL_forgive_69 : decode cL_forgive 69 = .ok (.iload 4, 2) := by decide +kernel
theorem dL_forgive_71 : decode cL_forgive 71 = .ok (.iconst 1, 1) := by decide +kernel
theorem dL_forgive_72 : decode cL_forgive 72 = .ok (.isub, 1) := by decide +kernel
theorem dL_forgive_73 : decode cL_forgive 73 = .ok (.iaload, 1) := by decide +kernel
theorem dL_forgive_74 : decode cL_forgive 74 = .ok (.aload_n 1, 1) := by decide +kernel
theorem dL_forgive_75 : decode cL_forgive 75 = .ok (.iload 4, 2) := by decide +kernel
theorem dL_forgive_77 : decode cL_forgive 77 = .ok (.iaload, 1) := by decide +kernel
theorem dL_forgive_78 : decode cL_forgive 78 = .ok (.if_icmp .ne 24, 3) := by decide +kernel
theorem dL_forgive_81 : decode cL_forgive 81 = .ok (.aload_n 2, 1) := by decide +kernel
theorem dL_forgive_82 : decode cL_forgive 82 = .ok (.iload 4, 2) := by decide +kernel
theorem dL_forgive_84 : decode cL_forgive 84 = .ok (.iconst 1, 1) := by decide +kernel
theorem dL_forgive_85 : decode cL_forgive 85 = .ok (.isub, 1) := by decide +kernel
theorem dL_forgive_86 : decode cL_forgive 86 = .ok (.dup2, 1) := by decide +kernel
theorem dL_forgive_87 : decode cL_forgive 87 = .ok (.iaload, 1) := by decide +kernel
theorem dL_forgive_88 : decode cL_forgive 88 = .ok (.aload_n 2, 1) := by decide +kernel
theorem dL_forgive_89 : decode cL_forgive 89 = .ok (.iload 4, 2) := by decide +kernel
theorem dL_forgive_91 : decode cL_forgive 91 = .ok (.iaload, 1) := by decide +kernel
theorem dL_forgive_92 : decode cL_forgive 92 = .ok (.iadd, 1) := by decide +kernel
theorem dL_forgive_93 : decode cL_forgive 93 = .ok (.iastore, 1) := by decide +kernel
theorem dL_forgive_94 : decode cL_forgive 94 = .ok (.aload_n 1, 1) := by decide +kernel
theorem dL_forgive_95 : decode cL_forgive 95 = .ok (.aload_n 2, 1) := by decide +kernel
theorem dL_forgive_96 : decode cL_forgive 96 = .ok (.aload_n 3, 1) := by decide +kernel
theorem dL_forgive_97 : decode cL_forgive 97 = .ok (.iload 4, 2) := by decide +kernel
theorem dL_forgive_99 : decode cL_forgive 99 = .ok (.invokestatic 25, 3) := by decide +kernel
theorem dL_forgive_102 : decode cL_forgive 102 = .ok (.iconst 0, 1) := by decide +kernel
theorem dL_forgive_103 : decode cL_forgive 103 = .ok (.istore 4, 2) := by decide +kernel
theorem dL_forgive_105 : decode cL_forgive 105 = .ok (.goto (-98), 3) := by decide +kernel
theorem dL_forgive_108 : decode cL_forgive 108 = .ok (.return_, 1) := by decide +kernel
theorem dL_distance_0 : decode cL_distance 0 = .ok (.bipush 9, 2) := by decide +kernel
theorem dL_distance_2 : decode cL_distance 2 = .ok (.newarray .int, 2) := by decide +kernel
theorem dL_distance_4 : decode cL_distance 4 = .ok (.astore 6, 2) := by decide +kernel
theorem dL_distance_6 : decode cL_distance 6 = .ok (.iconst 0, 1) := by decide +kernel
theorem dL_distance_7 : decode cL_distance 7 = .ok (.istore 7, 2) := by decide +kernel
theorem dL_distance_9 : decode cL_distance 9 = .ok (.iload 7, 2) := by decide +kernel
theorem dL_distance_11 : decode cL_distance 11 = .ok (.iload 5, 2) := by decide +kernel
theorem dL_distance_13 : decode cL_distance 13 = .ok (.if_icmp .gt 21, 3) := by decide +kernel
theorem dL_distance_16 : decode cL_distance 16 = .ok (.aload 6, 2) := by decide +kernel
theorem dL_distance_18 : decode cL_distance 18 = .ok (.iload 7, 2) := by decide +kernel
theorem dL_distance_20 : decode cL_distance 20 = .ok (.iload 7, 2) := by decide +kernel
theorem dL_distance_22 : decode cL_distance 22 = .ok (.aload_n 0, 1) := by decide +kernel
theorem dL_distance_23 : decode cL_distance 23 = .ok (.bipush 6, 2) := by decide +kernel
theorem dL_distance_25 : decode cL_distance 25 = .ok (.iaload, 1) := by decide +kernel
theorem dL_distance_26 : decode cL_distance 26 = .ok (.imul, 1) := by decide +kernel
theorem dL_distance_27 : decode cL_distance 27 = .ok (.iastore, 1) := by decide +kernel
theorem dL_distance_28 : decode cL_distance 28 = .ok (.iinc 7 1, 3) := by decide +kernel
theorem dL_distance_31 : decode cL_distance 31 = .ok (.goto (-22), 3) := by decide +kernel
theorem dL_distance_34 : decode cL_distance 34 = .ok (.iconst 0, 1) := by decide +kernel
theorem dL_distance_35 : decode cL_distance 35 = .ok (.istore 7, 2) := by decide +kernel
theorem dL_distance_37 : decode cL_distance 37 = .ok (.iload 7, 2) := by decide +kernel
theorem dL_distance_39 : decode cL_distance 39 = .ok (.iload_n 2, 1) := by decide +kernel
theorem dL_distance_40 : decode cL_distance 40 = .ok (.if_icmp .ge 137, 3) := by decide +kernel
theorem dL_distance_43 : decode cL_distance 43 = .ok (.aload 6, 2) := by decide +kernel
theorem dL_distance_45 : decode cL_distance 45 = .ok (.iconst 0, 1) := by decide +kernel
theorem dL_distance_46 : decode cL_distance 46 = .ok (.iaload, 1) := by decide +kernel
theorem dL_distance_47 : decode cL_distance 47 = .ok (.istore 8, 2) := by decide +kernel
theorem dL_distance_49 : decode cL_distance 49 = .ok (.aload 6, 2) := by decide +kernel
theorem dL_distance_51 : decode cL_distance 51 = .ok (.iconst 0, 1) := by decide +kernel
theorem dL_distance_52 : decode cL_distance 52 = .ok (.dup2, 1) := by decide +kernel
theorem dL_distance_53 : decode cL_distance 53 = .ok (.iaload, 1) := by decide +kernel
theorem dL_distance_54 : decode cL_distance 54 = .ok (.aload_n 0, 1) := by decide +kernel
theorem dL_distance_55 : decode cL_distance 55 = .ok (.bipush 6, 2) := by decide +kernel
theorem dL_distance_57 : decode cL_distance 57 = .ok (.iaload, 1) := by decide +kernel
theorem dL_distance_58 : decode cL_distance 58 = .ok (.iadd, 1) := by decide +kernel
theorem dL_distance_59 : decode cL_distance 59 = .ok (.iastore, 1) := by decide +kernel
theorem dL_distance_60 : decode cL_distance 60 = .ok (.iconst 1, 1) := by decide +kernel
theorem dL_distance_61 : decode cL_distance 61 = .ok (.istore 9, 2) := by decide +kernel
theorem dL_distance_63 : decode cL_distance 63 = .ok (.iload 9, 2) := by decide +kernel
theorem dL_distance_65 : decode cL_distance 65 = .ok (.iload 5, 2) := by decide +kernel
theorem dL_distance_67 : decode cL_distance 67 = .ok (.if_icmp .gt 104, 3) := by decide +kernel
theorem dL_distance_70 : decode cL_distance 70 = .ok (.iload 8, 2) := by decide +kernel
theorem dL_distance_72 : decode cL_distance 72 = .ok (.aload_n 0, 1) := by decide +kernel
theorem dL_distance_73 : decode cL_distance 73 = .ok (.iconst 5, 1) := by decide +kernel
theorem dL_distance_74 : decode cL_distance 74 = .ok (.iaload, 1) := by decide +kernel
theorem dL_distance_75 : decode cL_distance 75 = .ok (.aload_n 1, 1) := by decide +kernel
theorem dL_distance_76 : decode cL_distance 76 = .ok (.iload 7, 2) := by decide +kernel
theorem dL_distance_78 : decode cL_distance 78 = .ok (.iaload, 1) := by decide +kernel
theorem dL_distance_79 : decode cL_distance 79 = .ok (.aload_n 3, 1) := by decide +kernel
theorem dL_distance_80 : decode cL_distance 80 = .ok (.bipush 9, 2) := by decide +kernel
theorem dL_distance_82 : decode cL_distance 82 = .ok (.iload 4, 2) := by decide +kernel
theorem dL_distance_84 : decode cL_distance 84 = .ok (.imul, 1) := by decide +kernel
theorem dL_distance_85 : decode cL_distance 85 = .ok (.iload 9, 2) := by decide +kernel
theorem dL_distance_87 : decode cL_distance 87 = .ok (.iadd, 1) := by decide +kernel
theorem dL_distance_88 : decode cL_distance 88 = .ok (.iaload, 1) := by decide +kernel
theorem dL_distance_89 : decode cL_distance 89 = .ok (.invokestatic 18, 3) := by decide +kernel
theorem dL_distance_92 : decode cL_distance 92 = .ok (.imul, 1) := by decide +kernel
theorem dL_distance_93 : decode cL_distance 93 = .ok (.iadd, 1) := by decide +kernel
theorem dL_distance_94 : decode cL_distance 94 = .ok (.istore 10, 2) := by decide +kernel
theorem dL_distance_96 : decode cL_distance 96 = .ok (.aload 6, 2) := by decide +kernel
theorem dL_distance_98 : decode cL_distance 98 = .ok (.iload 9, 2) := by decide +kernel
theorem dL_distance_100 : decode cL_distance 100 = .ok (.iaload, 1) := by decide +kernel
theorem dL_distance_101 : decode cL_distance 101 = .ok (.istore 8, 2) := by decide +kernel
theorem dL_distance_103 : decode cL_distance 103 = .ok (.aload 6, 2) := by decide +kernel
theorem dL_distance_105 : decode cL_distance 105 = .ok (.iload 9, 2) := by decide +kernel
theorem dL_distance_107 : decode cL_distance 107 = .ok (.aload 6, 2) := by decide +kernel
theorem dL_distance_109 : decode cL_distance 109 = .ok (.iload 9, 2) := by decide +kernel
theorem dL_distance_111 : decode cL_distance 111 = .ok (.iaload, 1) := by decide +kernel
theorem dL_distance_112 : decode cL_distance 112 = .ok (.aload 6, 2) := by decide +kernel
theorem dL_distance_114 : decode cL_distance 114 = .ok (.iload 9, 2) := by decide +kernel
theorem dL_distance_116 : decode cL_distance 116 = .ok (.iconst 1, 1) := by decide +kernel
theorem dL_distance_117 : decode cL_distance 117 = .ok (.isub, 1) := by decide +kernel
theorem dL_distance_118 : decode cL_distance 118 = .ok (.iaload, 1) := by decide +kernel
theorem dL_distance_119 : decode cL_distance 119 = .ok (.if_icmp .ge 16, 3) := by decide +kernel
theorem dL_distance_122 : decode cL_distance 122 = .ok (.aload 6, 2) := by decide +kernel
theorem dL_distance_124 : decode cL_distance 124 = .ok (.iload 9, 2) := by decide +kernel
theorem dL_distance_126 : decode cL_distance 126 = .ok (.iaload, 1) := by decide +kernel
theorem dL_distance_127 : decode cL_distance 127 = .ok (.aload_n 0, 1) := by decide +kernel
theorem dL_distance_128 : decode cL_distance 128 = .ok (.bipush 6, 2) := by decide +kernel
theorem dL_distance_130 : decode cL_distance 130 = .ok (.iaload, 1) := by decide +kernel
theorem dL_distance_131 : decode cL_distance 131 = .ok (.iadd, 1) := by decide +kernel
theorem dL_distance_132 : decode cL_distance 132 = .ok (.goto 15, 3) := by decide +kernel
theorem dL_distance_135 : decode cL_distance 135 = .ok (.aload 6, 2) := by decide +kernel
theorem dL_distance_137 : decode cL_distance 137 = .ok (.iload 9, 2) := by decide +kernel
theorem dL_distance_139 : decode cL_distance 139 = .ok (.iconst 1, 1) := by decide +kernel
theorem dL_distance_140 : decode cL_distance 140 = .ok (.isub, 1) := by decide +kernel
theorem dL_distance_141 : decode cL_distance 141 = .ok (.iaload, 1) := by decide +kernel
theorem dL_distance_142 : decode cL_distance 142 = .ok (.aload_n 0, 1) := by decide +kernel
theorem dL_distance_143 : decode cL_distance 143 = .ok (.bipush 6, 2) := by decide +kernel
theorem dL_distance_145 : decode cL_distance 145 = .ok (.iaload, 1) := by decide +kernel
theorem dL_distance_146 : decode cL_distance 146 = .ok (.iadd, 1) := by decide +kernel
theorem dL_distance_147 : decode cL_distance 147 = .ok (.iastore, 1) := by decide +kernel
theorem dL_distance_148 : decode cL_distance 148 = .ok (.iload 10, 2) := by decide +kernel
theorem dL_distance_150 : decode cL_distance 150 = .ok (.aload 6, 2) := by decide +kernel
theorem dL_distance_152 : decode cL_distance 152 = .ok (.iload 9, 2) := by decide +kernel
theorem dL_distance_154 : decode cL_distance 154 = .ok (.iaload, 1) := by decide +kernel
theorem dL_distance_155 : decode cL_distance 155 = .ok (.if_icmp .ge 10, 3) := by decide +kernel
theorem dL_distance_158 : decode cL_distance 158 = .ok (.aload 6, 2) := by decide +kernel
theorem dL_distance_160 : decode cL_distance 160 = .ok (.iload 9, 2) := by decide +kernel
theorem dL_distance_162 : decode cL_distance 162 = .ok (.iload 10, 2) := by decide +kernel
theorem dL_distance_164 : decode cL_distance 164 = .ok (.iastore, 1) := by decide +kernel
theorem dL_distance_165 : decode cL_distance 165 = .ok (.iinc 9 1, 3) := by decide +kernel
theorem dL_distance_168 : decode cL_distance 168 = .ok (.goto (-105), 3) := by decide +kernel
theorem dL_distance_171 : decode cL_distance 171 = .ok (.iinc 7 1, 3) := by decide +kernel
theorem dL_distance_174 : decode cL_distance 174 = .ok (.goto (-137), 3) := by decide +kernel
theorem dL_distance_177 : decode cL_distance 177 = .ok (.aload 6, 2) := by decide +kernel
theorem dL_distance_179 : decode cL_distance 179 = .ok (.iload 5, 2) := by decide +kernel
theorem dL_distance_181 : decode cL_distance 181 = .ok (.iaload, 1) := by decide +kernel
theorem dL_distance_182 : decode cL_distance 182 = .ok (.ireturn, 1) := by decide +kernel
theorem dL_least_0 : decode cL_least 0 = .ok (.sipush 9999, 3) := by decide +kernel
theorem dL_least_3 : decode cL_least 3 = .ok (.istore 4, 2) := by decide +kernel
theorem dL_least_5 : decode cL_least 5 = .ok (.iconst 0, 1) := by decide +kernel
theorem dL_least_6 : decode cL_least 6 = .ok (.istore 5, 2) := by decide +kernel
theorem dL_least_8 : decode cL_least 8 = .ok (.iload 5, 2) := by decide +kernel
theorem dL_least_10 : decode cL_least 10 = .ok (.aload_n 0, 1) := by decide +kernel
theorem dL_least_11 : decode cL_least 11 = .ok (.iconst 1, 1) := by decide +kernel
theorem dL_least_12 : decode cL_least 12 = .ok (.iaload, 1) := by decide +kernel
theorem dL_least_13 : decode cL_least 13 = .ok (.if_icmp .ge 38, 3) := by decide +kernel
theorem dL_least_16 : decode cL_least 16 = .ok (.aload_n 0, 1) := by decide +kernel
theorem dL_least_17 : decode cL_least 17 = .ok (.aload_n 1, 1) := by decide +kernel
theorem dL_least_18 : decode cL_least 18 = .ok (.iload_n 2, 1) := by decide +kernel
theorem dL_least_19 : decode cL_least 19 = .ok (.aload_n 3, 1) := by decide +kernel
theorem dL_least_20 : decode cL_least 20 = .ok (.iload 5, 2) := by decide +kernel
theorem dL_least_22 : decode cL_least 22 = .ok (.aload_n 3, 1) := by decide +kernel
theorem dL_least_23 : decode cL_least 23 = .ok (.bipush 9, 2) := by decide +kernel
theorem dL_least_25 : decode cL_least 25 = .ok (.iload 5, 2) := by decide +kernel
theorem dL_least_27 : decode cL_least 27 = .ok (.imul, 1) := by decide +kernel
theorem dL_least_28 : decode cL_least 28 = .ok (.iaload, 1) := by decide +kernel
theorem dL_least_29 : decode cL_least 29 = .ok (.invokestatic 29, 3) := by decide +kernel
theorem dL_least_32 : decode cL_least 32 = .ok (.istore 6, 2) := by decide +kernel
theorem dL_least_34 : decode cL_least 34 = .ok (.iload 6, 2) := by decide +kernel
theorem dL_least_36 : decode cL_least 36 = .ok (.iload 4, 2) := by decide +kernel
theorem dL_least_38 : decode cL_least 38 = .ok (.if_icmp .ge 7, 3) := by decide +kernel
theorem dL_least_41 : decode cL_least 41 = .ok (.iload 6, 2) := by decide +kernel
theorem dL_least_43 : decode cL_least 43 = .ok (.istore 4, 2) := by decide +kernel
theorem dL_least_45 : decode cL_least 45 = .ok (.iinc 5 1, 3) := by decide +kernel
theorem dL_least_48 : decode cL_least 48 = .ok (.goto (-40), 3) := by decide +kernel
theorem dL_least_51 : decode cL_least 51 = .ok (.iload 4, 2) := by decide +kernel
theorem dL_least_53 : decode cL_least 53 = .ok (.ireturn, 1) := by decide +kernel
theorem dL_pairs_0 : decode cL_pairs 0 = .ok (.bipush 8, 2) := by decide +kernel
theorem dL_pairs_2 : decode cL_pairs 2 = .ok (.newarray .int, 2) := by decide +kernel
theorem dL_pairs_4 : decode cL_pairs 4 = .ok (.astore_n 2, 1) := by decide +kernel
theorem dL_pairs_5 : decode cL_pairs 5 = .ok (.sipush 9999, 3) := by decide +kernel
theorem dL_pairs_8 : decode cL_pairs 8 = .ok (.istore_n 3, 1) := by decide +kernel
theorem dL_pairs_9 : decode cL_pairs 9 = .ok (.iconst 0, 1) := by decide +kernel
theorem dL_pairs_10 : decode cL_pairs 10 = .ok (.istore 4, 2) := by decide +kernel
theorem dL_pairs_12 : decode cL_pairs 12 = .ok (.iload 4, 2) := by decide +kernel
theorem dL_pairs_14 : decode cL_pairs 14 = .ok (.aload_n 0, 1) := by decide +kernel
theorem dL_pairs_15 : decode cL_pairs 15 = .ok (.iconst 1, 1) := by decide +kernel
theorem dL_pairs_16 : decode cL_pairs 16 = .ok (.iaload, 1) := by decide +kernel
theorem dL_pairs_17 : decode cL_pairs 17 = .ok (.if_icmp .ge 95, 3) := by decide +kernel
theorem dL_pairs_20 : decode cL_pairs 20 = .ok (.iconst 0, 1) := by decide +kernel
theorem dL_pairs_21 : decode cL_pairs 21 = .ok (.istore 5, 2) := by decide +kernel
theorem dL_pairs_23 : decode cL_pairs 23 = .ok (.iload 5, 2) := by decide +kernel
theorem dL_pairs_25 : decode cL_pairs 25 = .ok (.iload 4, 2) := by decide +kernel
theorem dL_pairs_27 : decode cL_pairs 27 = .ok (.if_icmp .ge 79, 3) := by decide +kernel
theorem dL_pairs_30 : decode cL_pairs 30 = .ok (.iconst 0, 1) := by decide +kernel
theorem dL_pairs_31 : decode cL_pairs 31 = .ok (.istore 6, 2) := by decide +kernel
theorem dL_pairs_33 : decode cL_pairs 33 = .ok (.iload 6, 2) := by decide +kernel
theorem dL_pairs_35 : decode cL_pairs 35 = .ok (.aload_n 1, 1) := by decide +kernel
theorem dL_pairs_36 : decode cL_pairs 36 = .ok (.bipush 9, 2) := by decide +kernel
theorem dL_pairs_38 : decode cL_pairs 38 = .ok (.iload 5, 2) := by decide +kernel
theorem dL_pairs_40 : decode cL_pairs 40 = .ok (.imul, 1) := by decide +kernel
theorem dL_pairs_41 : decode cL_pairs 41 = .ok (.iaload, 1) := by decide +kernel
theorem dL_pairs_42 : decode cL_pairs 42 = .ok (.if_icmp .ge 25, 3) := by decide +kernel
theorem dL_pairs_45 : decode cL_pairs 45 = .ok (.aload_n 2, 1) := by decide +kernel
theorem dL_pairs_46 : decode cL_pairs 46 = .ok (.iload 6, 2) := by decide +kernel
theorem dL_pairs_48 : decode cL_pairs 48 = .ok (.aload_n 1, 1) := by decide +kernel
theorem dL_pairs_49 : decode cL_pairs 49 = .ok (.bipush 9, 2) := by decide +kernel
theorem dL_pairs_51 : decode cL_pairs 51 = .ok (.iload 5, 2) := by decide +kernel
theorem dL_pairs_53 : decode cL_pairs 53 = .ok (.imul, 1) := by decide +kernel
theorem dL_pairs_54 : decode cL_pairs 54 = .ok (.iconst 1, 1) := by decide +kernel
theorem dL_pairs_55 : decode cL_pairs 55 = .ok (.iadd, 1) := by decide +kernel
theorem dL_pairs_56 : decode cL_pairs 56 = .ok (.iload 6, 2) := by decide +kernel
theorem dL_pairs_58 : decode cL_pairs 58 = .ok (.iadd, 1) := by decide +kernel
theorem dL_pairs_59 : decode cL_pairs 59 = .ok (.iaload, 1) := by decide +kernel
theorem dL_pairs_60 : decode cL_pairs 60 = .ok (.iastore, 1) := by decide +kernel
theorem dL_pairs_61 : decode cL_pairs 61 = .ok (.iinc 6 1, 3) := by decide +kernel
theorem dL_pairs_64 : decode cL_pairs 64 = .ok (.goto (-31), 3) := by decide +kernel
theorem dL_pairs_67 : decode cL_pairs 67 = .ok (.aload_n 0, 1) := by decide +kernel
theorem dL_pairs_68 : decode cL_pairs 68 = .ok (.aload_n 2, 1) := by decide +kernel
theorem dL_pairs_69 : decode cL_pairs 69 = .ok (.aload_n 1, 1) := by decide +kernel
theorem dL_pairs_70 : decode cL_pairs 70 = .ok (.bipush 9, 2) := by decide +kernel
theorem dL_pairs_72 : decode cL_pairs 72 = .ok (.iload 5, 2) := by decide +kernel
theorem dL_pairs_74 : decode cL_pairs 74 = .ok (.imul, 1) := by decide +kernel
theorem dL_pairs_75 : decode cL_pairs 75 = .ok (.iaload, 1) := by decide +kernel
theorem dL_pairs_76 : decode cL_pairs 76 = .ok (.aload_n 1, 1) := by decide +kernel
theorem dL_pairs_77 : decode cL_pairs 77 = .ok (.iload 4, 2) := by decide +kernel
theorem dL_pairs_79 : decode cL_pairs 79 = .ok (.aload_n 1, 1) := by decide +kernel
theorem dL_pairs_80 : decode cL_pairs 80 = .ok (.bipush 9, 2) := by decide +kernel
theorem dL_pairs_82 : decode cL_pairs 82 = .ok (.iload 4, 2) := by decide +kernel
theorem dL_pairs_84 : decode cL_pairs 84 = .ok (.imul, 1) := by decide +kernel
theorem dL_pairs_85 : decode cL_pairs 85 = .ok (.iaload, 1) := by decide +kernel
theorem dL_pairs_86 : decode cL_pairs 86 = .ok (.invokestatic 29, 3) := by decide +kernel
theorem dL_pairs_89 : decode cL_pairs 89 = .ok (.istore 6, 2) := by decide +kernel
theorem dL_pairs_91 : decode cL_pairs 91 = .ok (.iload 6, 2) := by decide +kernel
theorem dL_pairs_93 : decode cL_pairs 93 = .ok (.iload_n 3, 1) := by decide +kernel
theorem dL_pairs_94 : decode cL_pairs 94 = .ok (.if_icmp .ge 6, 3) := by decide +kernel
theorem dL_pairs_97 : decode cL_pairs 97 = .ok (.iload 6, 2) := by decide +kernel
theorem dL_pairs_99 : decode cL_pairs 99 = .ok (.istore_n 3, 1) := by decide +kernel
theorem dL_pairs_100 : decode cL_pairs 100 = .ok (.iinc 5 1, 3) := by decide +kernel
theorem dL_pairs_103 : decode cL_pairs 103 = .ok (.goto (-80), 3) := by decide +kernel
theorem dL_pairs_106 : decode cL_pairs 106 = .ok (.iinc 4 1, 3) := by decide +kernel
theorem dL_pairs_109 : decode cL_pairs 109 = .ok (.goto (-97), 3) := by decide +kernel
theorem dL_pairs_112 : decode cL_pairs 112 = .ok (.iload_n 3, 1) := by decide +kernel
theorem dL_pairs_113 : decode cL_pairs 113 = .ok (.ireturn, 1) := by decide +kernel
theorem dL_act_0 : decode cL_act 0 = .ok (.iload_n 1, 1) := by decide +kernel
theorem dL_act_1 : decode cL_act 1 = .ok (.bipush 20, 2) := by decide +kernel
theorem dL_act_3 : decode cL_act 3 = .ok (.ishr, 1) := by decide +kernel
theorem dL_act_4 : decode cL_act 4 = .ok (.bipush 14, 2) := by decide +kernel
theorem dL_act_6 : decode cL_act 6 = .ok (.invokestatic 33, 3) := by decide +kernel
theorem dL_act_9 : decode cL_act 9 = .ok (.istore 7, 2) := by decide +kernel
theorem dL_act_11 : decode cL_act 11 = .ok (.bipush 40, 2) := by decide +kernel
theorem dL_act_13 : decode cL_act 13 = .ok (.newarray .int, 2) := by decide +kernel
theorem dL_act_15 : decode cL_act 15 = .ok (.astore 8, 2) := by decide +kernel
theorem dL_act_17 : decode cL_act 17 = .ok (.bipush 40, 2) := by decide +kernel
theorem dL_act_19 : decode cL_act 19 = .ok (.newarray .int, 2) := by decide +kernel
theorem dL_act_21 : decode cL_act 21 = .ok (.astore 9, 2) := by decide +kernel
theorem dL_act_23 : decode cL_act 23 = .ok (.iconst 2, 1) := by decide +kernel
theorem dL_act_24 : decode cL_act 24 = .ok (.newarray .int, 2) := by decide +kernel
theorem dL_act_26 : decode cL_act 26 = .ok (.astore 10, 2) := by decide +kernel
theorem dL_act_28 : decode cL_act 28 = .ok (.iload 7, 2) := by decide +kernel
theorem dL_act_30 : decode cL_act 30 = .ok (.bipush 6, 2) := by decide +kernel
theorem dL_act_32 : decode cL_act 32 = .ok (.if_icmp .ge 294, 3) := by decide +kernel
theorem dL_act_35 : decode cL_act 35 = .ok (.iload_n 2, 1) := by decide +kernel
theorem dL_act_36 : decode cL_act 36 = .ok (.bipush 8, 2) := by decide +kernel
theorem dL_act_38 : decode cL_act 38 = .ok (.invokestatic 33, 3) := by decide +kernel
theorem dL_act_41 : decode cL_act 41 = .ok (.istore 11, 2) := by decide +kernel
theorem dL_act_43 : decode cL_act 43 = .ok (.iconst 1, 1) := by decide +kernel
theorem dL_act_44 : decode cL_act 44 = .ok (.iload_n 2, 1) := by decide +kernel
theorem dL_act_45 : decode cL_act 45 = .ok (.iconst 4, 1) := by decide +kernel
theorem dL_act_46 : decode cL_act 46 = .ok (.ishr, 1) := by decide +kernel
theorem dL_act_47 : decode cL_act 47 = .ok (.bipush 6, 2) := by decide +kernel
theorem dL_act_49 : decode cL_act 49 = .ok (.invokestatic 33, 3) := by decide +kernel
theorem dL_act_52 : decode cL_act 52 = .ok (.iadd, 1) := by decide +kernel
theorem dL_act_53 : decode cL_act 53 = .ok (.istore 12, 2) := by decide +kernel
theorem dL_act_55 : decode cL_act 55 = .ok (.iconst 0, 1) := by decide +kernel
theorem dL_act_56 : decode cL_act 56 = .ok (.istore 13, 2) := by decide +kernel
theorem dL_act_58 : decode cL_act 58 = .ok (.aload_n 3, 1) := by decide +kernel
theorem dL_act_59 : decode cL_act 59 = .ok (.iconst 0, 1) := by decide +kernel
theorem dL_act_60 : decode cL_act 60 = .ok (.iaload, 1) := by decide +kernel
theorem dL_act_61 : decode cL_act 61 = .ok (.ifCond .ne 7, 3) := by decide +kernel
theorem dL_act_64 : decode cL_act 64 = .ok (.iconst 0, 1) := by decide +kernel
theorem dL_act_65 : decode cL_act 65 = .ok (.goto 11, 3) := by decide +kernel
theorem dL_act_68 : decode cL_act 68 = .ok (.aload 4, 2) := by decide +kernel
theorem dL_act_70 : decode cL_act 70 = .ok (.aload_n 3, 1) := by decide +kernel
theorem dL_act_71 : decode cL_act 71 = .ok (.iconst 0, 1) := by decide +kernel
theorem dL_act_72 : decode cL_act 72 = .ok (.iaload, 1) := by decide +kernel
theorem dL_act_73 : decode cL_act 73 = .ok (.iconst 1, 1) := by decide +kernel
theorem dL_act_74 : decode cL_act 74 = .ok (.isub, 1) := by decide +kernel
theorem dL_act_75 : decode cL_act 75 = .ok (.iaload, 1) := by decide +kernel
theorem dL_act_76 : decode cL_act 76 = .ok (.istore 14, 2) := by decide +kernel
theorem dL_act_78 : decode cL_act 78 = .ok (.aload_n 3, 1) := by decide +kernel
theorem dL_act_79 : decode cL_act 79 = .ok (.iconst 0, 1) := by decide +kernel
theorem dL_act_80 : decode cL_act 80 = .ok (.iaload, 1) := by decide +kernel
theorem dL_act_81 : decode cL_act 81 = .ok (.ifCond .ne 7, 3) := by decide +kernel
theorem dL_act_84 : decode cL_act 84 = .ok (.iconst 0, 1) := by decide +kernel
theorem dL_act_85 : decode cL_act 85 = .ok (.goto 11, 3) := by decide +kernel
theorem dL_act_88 : decode cL_act 88 = .ok (.aload 5, 2) := by decide +kernel
theorem dL_act_90 : decode cL_act 90 = .ok (.aload_n 3, 1) := by decide +kernel
theorem dL_act_91 : decode cL_act 91 = .ok (.iconst 0, 1) := by decide +kernel
theorem dL_act_92 : decode cL_act 92 = .ok (.iaload, 1) := by decide +kernel
theorem dL_act_93 : decode cL_act 93 = .ok (.iconst 1, 1) := by decide +kernel
theorem dL_act_94 : decode cL_act 94 = .ok (.isub, 1) := by decide +kernel
theorem dL_act_95 : decode cL_act 95 = .ok (.iaload, 1) := by decide +kernel
theorem dL_act_96 : decode cL_act 96 = .ok (.istore 15, 2) := by decide +kernel
theorem dL_act_98 : decode cL_act 98 = .ok (.iload 13, 2) := by decide +kernel
theorem dL_act_100 : decode cL_act 100 = .ok (.iload 12, 2) := by decide +kernel
theorem dL_act_102 : decode cL_act 102 = .ok (.if_icmp .ge 77, 3) := by decide +kernel
theorem dL_act_105 : decode cL_act 105 = .ok (.iload 14, 2) := by decide +kernel
theorem dL_act_107 : decode cL_act 107 = .ok (.iload 11, 2) := by decide +kernel
theorem dL_act_109 : decode cL_act 109 = .ok (.invokestatic 36, 3) := by decide +kernel
theorem dL_act_112 : decode cL_act 112 = .ok (.iload 13, 2) := by decide +kernel
theorem dL_act_114 : decode cL_act 114 = .ok (.iconst 1, 1) := by decide +kernel
theorem dL_act_115 : decode cL_act 115 = .ok (.iadd, 1) := by decide +kernel
theorem dL_act_116 : decode cL_act 116 = .ok (.imul, 1) := by decide +kernel
theorem dL_act_117 : decode cL_act 117 = .ok (.iadd, 1) := by decide +kernel
theorem dL_act_118 : decode cL_act 118 = .ok (.ifCond .lt 61, 3) := by decide +kernel
theorem dL_act_121 : decode cL_act 121 = .ok (.iload 14, 2) := by decide +kernel
theorem dL_act_123 : decode cL_act 123 = .ok (.iload 11, 2) := by decide +kernel
theorem dL_act_125 : decode cL_act 125 = .ok (.invokestatic 36, 3) := by decide +kernel
theorem dL_act_128 : decode cL_act 128 = .ok (.iload 13, 2) := by decide +kernel
theorem dL_act_130 : decode cL_act 130 = .ok (.iconst 1, 1) := by decide +kernel
theorem dL_act_131 : decode cL_act 131 = .ok (.iadd, 1) := by decide +kernel
theorem dL_act_132 : decode cL_act 132 = .ok (.imul, 1) := by decide +kernel
theorem dL_act_133 : decode cL_act 133 = .ok (.iadd, 1) := by decide +kernel
theorem dL_act_134 : decode cL_act 134 = .ok (.bipush 32, 2) := by decide +kernel
theorem dL_act_136 : decode cL_act 136 = .ok (.if_icmp .ge 43, 3) := by decide +kernel
theorem dL_act_139 : decode cL_act 139 = .ok (.iload 15, 2) := by decide +kernel
theorem dL_act_141 : decode cL_act 141 = .ok (.iload 11, 2) := by decide +kernel
theorem dL_act_143 : decode cL_act 143 = .ok (.invokestatic 39, 3) := by decide +kernel
theorem dL_act_146 : decode cL_act 146 = .ok (.iload 13, 2) := by decide +kernel
theorem dL_act_148 : decode cL_act 148 = .ok (.iconst 1, 1) := by decide +kernel
theorem dL_act_149 : decode cL_act 149 = .ok (.iadd, 1) := by decide +kernel
theorem dL_act_150 : decode cL_act 150 = .ok (.imul, 1) := by decide +kernel
theorem dL_act_151 : decode cL_act 151 = .ok (.iadd, 1) := by decide +kernel
theorem dL_act_152 : decode cL_act 152 = .ok (.ifCond .lt 27, 3) := by decide +kernel
theorem dL_act_155 : decode cL_act 155 = .ok (.iload 15, 2) := by decide +kernel
theorem dL_act_157 : decode cL_act 157 = .ok (.iload 11, 2) := by decide +kernel
theorem dL_act_159 : decode cL_act 159 = .ok (.invokestatic 39, 3) := by decide +kernel
theorem dL_act_162 : decode cL_act 162 = .ok (.iload 13, 2) := by decide +kernel
theorem dL_act_164 : decode cL_act 164 = .ok (.iconst 1, 1) := by decide +kernel
theorem dL_act_165 : decode cL_act 165 = .ok (.iadd, 1) := by decide +kernel
theorem dL_act_166 : decode cL_act 166 = .ok (.imul, 1) := by decide +kernel
theorem dL_act_167 : decode cL_act 167 = .ok (.iadd, 1) := by decide +kernel
theorem dL_act_168 : decode cL_act 168 = .ok (.bipush 32, 2) := by decide +kernel
theorem dL_act_170 : decode cL_act 170 = .ok (.if_icmp .ge 9, 3) := by decide +kernel
theorem dL_act_173 : decode cL_act 173 = .ok (.iinc 13 1, 3) := by decide +kernel
theorem dL_act_176 : decode cL_act 176 = .ok (.goto (-78), 3) := by decide +kernel
theorem dL_act_179 : decode cL_act 179 = .ok (.aload_n 3, 1) := by decide +kernel
theorem dL_act_180 : decode cL_act 180 = .ok (.iconst 0, 1) := by decide +kernel
theorem dL_act_181 : decode cL_act 181 = .ok (.iaload, 1) := by decide +kernel
theorem dL_act_182 : decode cL_act 182 = .ok (.ifCond .ne 7, 3) := by decide +kernel
theorem dL_act_185 : decode cL_act 185 = .ok (.iconst 1, 1) := by decide +kernel
theorem dL_act_186 : decode cL_act 186 = .ok (.goto 6, 3) := by decide +kernel
theorem dL_act_189 : decode cL_act 189 = .ok (.aload_n 3, 1) := by decide +kernel
theorem dL_act_190 : decode cL_act 190 = .ok (.iconst 0, 1) := by decide +kernel
theorem dL_act_191 : decode cL_act 191 = .ok (.iaload, 1) := by decide +kernel
theorem dL_act_192 : decode cL_act 192 = .ok (.iload 13, 2) := by decide +kernel
theorem dL_act_194 : decode cL_act 194 = .ok (.iadd, 1) := by decide +kernel
theorem dL_act_195 : decode cL_act 195 = .ok (.bipush 40, 2) := by decide +kernel
theorem dL_act_197 : decode cL_act 197 = .ok (.if_icmp .le 20, 3) := by decide +kernel
theorem dL_act_200 : decode cL_act 200 = .ok (.aload_n 0, 1) := by decide +kernel
theorem dL_act_201 : decode cL_act 201 = .ok (.iconst 0, 1) := by decide +kernel
theorem dL_act_202 : decode cL_act 202 = .ok (.invokevirtual 42, 3) := by decide +kernel
theorem dL_act_205 : decode cL_act 205 = .ok (.aload_n 3, 1) := by decide +kernel
theorem dL_act_206 : decode cL_act 206 = .ok (.iconst 0, 1) := by decide +kernel
theorem dL_act_207 : decode cL_act 207 = .ok (.iaload, 1) := by decide +kernel
theorem dL_act_208 : decode cL_act 208 = .ok (.if_icmp .ne 7, 3) := by decide +kernel
theorem dL_act_211 : decode cL_act 211 = .ok (.iconst 1, 1) := by decide +kernel
theorem dL_act_212 : decode cL_act 212 = .ok (.goto 4, 3) := by decide +kernel
theorem dL_act_215 : decode cL_act 215 = .ok (.iconst 0, 1) := by decide +kernel
theorem dL_act_216 : decode cL_act 216 = .ok (.ireturn, 1) := by decide +kernel
theorem dL_act_217 : decode cL_act 217 = .ok (.aload_n 3, 1) := by decide +kernel
theorem dL_act_218 : decode cL_act 218 = .ok (.iconst 0, 1) := by decide +kernel
theorem dL_act_219 : decode cL_act 219 = .ok (.iaload, 1) := by decide +kernel
theorem dL_act_220 : decode cL_act 220 = .ok (.ifCond .ne 17, 3) := by decide +kernel
theorem dL_act_223 : decode cL_act 223 = .ok (.aload 4, 2) := by decide +kernel
theorem dL_act_225 : decode cL_act 225 = .ok (.iconst 0, 1) := by decide +kernel
theorem dL_act_226 : decode cL_act 226 = .ok (.iconst 0, 1) := by decide +kernel
theorem dL_act_227 : decode cL_act 227 = .ok (.iastore, 1) := by decide +kernel
theorem dL_act_228 : decode cL_act 228 = .ok (.aload 5, 2) := by decide +kernel
theorem dL_act_230 : decode cL_act 230 = .ok (.iconst 0, 1) := by decide +kernel
theorem dL_act_231 : decode cL_act 231 = .ok (.iconst 0, 1) := by decide +kernel
theorem dL_act_232 : decode cL_act 232 = .ok (.iastore, 1) := by decide +kernel
theorem dL_act_233 : decode cL_act 233 = .ok (.aload_n 3, 1) := by decide +kernel
theorem dL_act_234 : decode cL_act 234 = .ok (.iconst 0, 1) := by decide +kernel
theorem dL_act_235 : decode cL_act 235 = .ok (.iconst 1, 1) := by decide +kernel
theorem dL_act_236 : decode cL_act 236 = .ok (.iastore, 1) := by decide +kernel
theorem dL_act_237 : decode cL_act 237 = .ok (.iconst 1, 1) := by decide +kernel
theorem dL_act_238 : decode cL_act 238 = .ok (.istore 16, 2) := by decide +kernel
theorem dL_act_240 : decode cL_act 240 = .ok (.iload 16, 2) := by decide +kernel
theorem dL_act_242 : decode cL_act 242 = .ok (.iload 13, 2) := by decide +kernel
theorem dL_act_244 : decode cL_act 244 = .ok (.if_icmp .gt 48, 3) := by decide +kernel
theorem dL_act_247 : decode cL_act 247 = .ok (.aload 4, 2) := by decide +kernel
theorem dL_act_249 : decode cL_act 249 = .ok (.aload_n 3, 1) := by decide +kernel
theorem dL_act_250 : decode cL_act 250 = .ok (.iconst 0, 1) := by decide +kernel
theorem dL_act_251 : decode cL_act 251 = .ok (.iaload, 1) := by decide +kernel
theorem dL_act_252 : decode cL_act 252 = .ok (.iload 14, 2) := by decide +kernel
theorem dL_act_254 : decode cL_act 254 = .ok (.iload 11, 2) := by decide +kernel
theorem dL_act_256 : decode cL_act 256 = .ok (.invokestatic 36, 3) := by decide +kernel
theorem dL_act_259 : decode cL_act 259 = .ok (.iload 16, 2) := by decide +kernel
theorem dL_act_261 : decode cL_act 261 = .ok (.imul, 1) := by decide +kernel
theorem dL_act_262 : decode cL_act 262 = .ok (.iadd, 1) := by decide +kernel
theorem dL_act_263 : decode cL_act 263 = .ok (.iastore, 1) := by decide +kernel
theorem dL_act_264 : decode cL_act 264 = .ok (.aload 5, 2) := by decide +kernel
theorem dL_act_266 : decode cL_act 266 = .ok (.aload_n 3, 1) := by decide +kernel
theorem dL_act_267 : decode cL_act 267 = .ok (.iconst 0, 1) := by decide +kernel
theorem dL_act_268 : decode cL_act 268 = .ok (.dup2, 1) := by decide +kernel
theorem dL_act_269 : decode cL_act 269 = .ok (.iaload, 1) := by decide +kernel
theorem dL_act_270 : decode cL_act 270 = .ok (.dup_x2, 1) := by decide +kernel
theorem dL_act_271 : decode cL_act 271 = .ok (.iconst 1, 1) := by decide +kernel
theorem dL_act_272 : decode cL_act 272 = .ok (.iadd, 1) := by decide +kernel
theorem dL_act_273 : decode cL_act 273 = .ok (.iastore, 1) := by decide +kernel
theorem dL_act_274 : decode cL_act 274 = .ok (.iload 15, 2) := by decide +kernel
theorem dL_act_276 : decode cL_act 276 = .ok (.iload 11, 2) := by decide +kernel
theorem dL_act_278 : decode cL_act 278 = .ok (.invokestatic 39, 3) := by decide +kernel
theorem dL_act_281 : decode cL_act 281 = .ok (.iload 16, 2) := by decide +kernel
theorem dL_act_283 : decode cL_act 283 = .ok (.imul, 1) := by decide +kernel
theorem dL_act_284 : decode cL_act 284 = .ok (.iadd, 1) := by decide +kernel
theorem dL_act_285 : decode cL_act 285 = .ok (.iastore, 1) := by decide +kernel
theorem dL_act_286 : decode cL_act 286 = .ok (.iinc 16 1, 3) := by decide +kernel
theorem dL_act_289 : decode cL_act 289 = .ok (.goto (-49), 3) := by decide +kernel
theorem dL_act_292 : decode cL_act 292 = .ok (.aload_n 3, 1) := by decide +kernel
theorem dL_act_293 : decode cL_act 293 = .ok (.iconst 2, 1) := by decide +kernel
theorem dL_act_294 : decode cL_act 294 = .ok (.iaload, 1) := by decide +kernel
theorem dL_act_295 : decode cL_act 295 = .ok (.bipush 6, 2) := by decide +kernel
theorem dL_act_297 : decode cL_act 297 = .ok (.if_icmp .ge 10, 3) := by decide +kernel
theorem dL_act_300 : decode cL_act 300 = .ok (.aload_n 3, 1) := by decide +kernel
theorem dL_act_301 : decode cL_act 301 = .ok (.iconst 2, 1) := by decide +kernel
theorem dL_act_302 : decode cL_act 302 = .ok (.dup2, 1) := by decide +kernel
theorem dL_act_303 : decode cL_act 303 = .ok (.iaload, 1) := by decide +kernel
theorem dL_act_304 : decode cL_act 304 = .ok (.iconst 1, 1) := by decide +kernel
theorem dL_act_305 : decode cL_act 305 = .ok (.iadd, 1) := by decide +kernel
theorem dL_act_306 : decode cL_act 306 = .ok (.iastore, 1) := by decide +kernel
theorem dL_act_307 : decode cL_act 307 = .ok (.aload_n 0, 1) := by decide +kernel
theorem dL_act_308 : decode cL_act 308 = .ok (.iload 11, 2) := by decide +kernel
theorem dL_act_310 : decode cL_act 310 = .ok (.iload 12, 2) := by decide +kernel
theorem dL_act_312 : decode cL_act 312 = .ok (.invokevirtual 47, 3) := by decide +kernel
theorem dL_act_315 : decode cL_act 315 = .ok (.iload 13, 2) := by decide +kernel
theorem dL_act_317 : decode cL_act 317 = .ok (.if_icmp .ne 7, 3) := by decide +kernel
theorem dL_act_320 : decode cL_act 320 = .ok (.iconst 1, 1) := by decide +kernel
theorem dL_act_321 : decode cL_act 321 = .ok (.goto 4, 3) := by decide +kernel
theorem dL_act_324 : decode cL_act 324 = .ok (.iconst 0, 1) := by decide +kernel
theorem dL_act_325 : decode cL_act 325 = .ok (.ireturn, 1) := by decide +kernel
theorem dL_act_326 : decode cL_act 326 = .ok (.iload 7, 2) := by decide +kernel
theorem dL_act_328 : decode cL_act 328 = .ok (.bipush 6, 2) := by decide +kernel
theorem dL_act_330 : decode cL_act 330 = .ok (.if_icmp .ne 90, 3) := by decide +kernel
theorem dL_act_333 : decode cL_act 333 = .ok (.aload_n 3, 1) := by decide +kernel
theorem dL_act_334 : decode cL_act 334 = .ok (.iconst 0, 1) := by decide +kernel
theorem dL_act_335 : decode cL_act 335 = .ok (.iaload, 1) := by decide +kernel
theorem dL_act_336 : decode cL_act 336 = .ok (.bipush 40, 2) := by decide +kernel
theorem dL_act_338 : decode cL_act 338 = .ok (.if_icmp .ge 82, 3) := by decide +kernel
theorem dL_act_341 : decode cL_act 341 = .ok (.aload 4, 2) := by decide +kernel
theorem dL_act_343 : decode cL_act 343 = .ok (.aload_n 3, 1) := by decide +kernel
theorem dL_act_344 : decode cL_act 344 = .ok (.iconst 0, 1) := by decide +kernel
theorem dL_act_345 : decode cL_act 345 = .ok (.iaload, 1) := by decide +kernel
theorem dL_act_346 : decode cL_act 346 = .ok (.iload_n 2, 1) := by decide +kernel
theorem dL_act_347 : decode cL_act 347 = .ok (.bipush 32, 2) := by decide +kernel
theorem dL_act_349 : decode cL_act 349 = .ok (.invokestatic 33, 3) := by decide +kernel
theorem dL_act_352 : decode cL_act 352 = .ok (.iastore, 1) := by decide +kernel
theorem dL_act_353 : decode cL_act 353 = .ok (.aload 5, 2) := by decide +kernel
theorem dL_act_355 : decode cL_act 355 = .ok (.aload_n 3, 1) := by decide +kernel
theorem dL_act_356 : decode cL_act 356 = .ok (.iconst 0, 1) := by decide +kernel
theorem dL_act_357 : decode cL_act 357 = .ok (.dup2, 1) := by decide +kernel
theorem dL_act_358 : decode cL_act 358 = .ok (.iaload, 1) := by decide +kernel
theorem dL_act_359 : decode cL_act 359 = .ok (.dup_x2, 1) := by decide +kernel
theorem dL_act_360 : decode cL_act 360 = .ok (.iconst 1, 1) := by decide +kernel
theorem dL_act_361 : decode cL_act 361 = .ok (.iadd, 1) := by decide +kernel
theorem dL_act_362 : decode cL_act 362 = .ok (.iastore, 1) := by decide +kernel
theorem dL_act_363 : decode cL_act 363 = .ok (.iload_n 2, 1) := by decide +kernel
theorem dL_act_364 : decode cL_act 364 = .ok (.bipush 6, 2) := by decide +kernel
theorem dL_act_366 : decode cL_act 366 = .ok (.ishr, 1) := by decide +kernel
theorem dL_act_367 : decode cL_act 367 = .ok (.bipush 32, 2) := by decide +kernel
theorem dL_act_369 : decode cL_act 369 = .ok (.invokestatic 33, 3) := by decide +kernel
theorem dL_act_372 : decode cL_act 372 = .ok (.iastore, 1) := by decide +kernel
theorem dL_act_373 : decode cL_act 373 = .ok (.aload_n 3, 1) := by decide +kernel
theorem dL_act_374 : decode cL_act 374 = .ok (.iconst 2, 1) := by decide +kernel
theorem dL_act_375 : decode cL_act 375 = .ok (.iaload, 1) := by decide +kernel
theorem dL_act_376 : decode cL_act 376 = .ok (.bipush 6, 2) := by decide +kernel
theorem dL_act_378 : decode cL_act 378 = .ok (.if_icmp .ge 10, 3) := by decide +kernel
theorem dL_act_381 : decode cL_act 381 = .ok (.aload_n 3, 1) := by decide +kernel
theorem dL_act_382 : decode cL_act 382 = .ok (.iconst 2, 1) := by decide +kernel
theorem dL_act_383 : decode cL_act 383 = .ok (.dup2, 1) := by decide +kernel
theorem dL_act_384 : decode cL_act 384 = .ok (.iaload, 1) := by decide +kernel
theorem dL_act_385 : decode cL_act 385 = .ok (.iconst 1, 1) := by decide +kernel
theorem dL_act_386 : decode cL_act 386 = .ok (.iadd, 1) := by decide +kernel
theorem dL_act_387 : decode cL_act 387 = .ok (.iastore, 1) := by decide +kernel
theorem dL_act_388 : decode cL_act 388 = .ok (.aload_n 0, 1) := by decide +kernel
theorem dL_act_389 : decode cL_act 389 = .ok (.aload 4, 2) := by decide +kernel
theorem dL_act_391 : decode cL_act 391 = .ok (.aload_n 3, 1) := by decide +kernel
theorem dL_act_392 : decode cL_act 392 = .ok (.iconst 0, 1) := by decide +kernel
theorem dL_act_393 : decode cL_act 393 = .ok (.iaload, 1) := by decide +kernel
theorem dL_act_394 : decode cL_act 394 = .ok (.iconst 1, 1) := by decide +kernel
theorem dL_act_395 : decode cL_act 395 = .ok (.isub, 1) := by decide +kernel
theorem dL_act_396 : decode cL_act 396 = .ok (.iaload, 1) := by decide +kernel
theorem dL_act_397 : decode cL_act 397 = .ok (.aload 5, 2) := by decide +kernel
theorem dL_act_399 : decode cL_act 399 = .ok (.aload_n 3, 1) := by decide +kernel
theorem dL_act_400 : decode cL_act 400 = .ok (.iconst 0, 1) := by decide +kernel
theorem dL_act_401 : decode cL_act 401 = .ok (.iaload, 1) := by decide +kernel
theorem dL_act_402 : decode cL_act 402 = .ok (.iconst 1, 1) := by decide +kernel
theorem dL_act_403 : decode cL_act 403 = .ok (.isub, 1) := by decide +kernel
theorem dL_act_404 : decode cL_act 404 = .ok (.iaload, 1) := by decide +kernel
theorem dL_act_405 : decode cL_act 405 = .ok (.invokevirtual 50, 3) := by decide +kernel
theorem dL_act_408 : decode cL_act 408 = .ok (.aload_n 3, 1) := by decide +kernel
theorem dL_act_409 : decode cL_act 409 = .ok (.iconst 0, 1) := by decide +kernel
theorem dL_act_410 : decode cL_act 410 = .ok (.iaload, 1) := by decide +kernel
theorem dL_act_411 : decode cL_act 411 = .ok (.if_icmp .ne 7, 3) := by decide +kernel
theorem dL_act_414 : decode cL_act 414 = .ok (.iconst 1, 1) := by decide +kernel
theorem dL_act_415 : decode cL_act 415 = .ok (.goto 4, 3) := by decide +kernel
theorem dL_act_418 : decode cL_act 418 = .ok (.iconst 0, 1) := by decide +kernel
theorem dL_act_419 : decode cL_act 419 = .ok (.ireturn, 1) := by decide +kernel
theorem dL_act_420 : decode cL_act 420 = .ok (.iload 7, 2) := by decide +kernel
theorem dL_act_422 : decode cL_act 422 = .ok (.bipush 7, 2) := by decide +kernel
theorem dL_act_424 : decode cL_act 424 = .ok (.if_icmp .eq 10, 3) := by decide +kernel
theorem dL_act_427 : decode cL_act 427 = .ok (.iload 7, 2) := by decide +kernel
theorem dL_act_429 : decode cL_act 429 = .ok (.bipush 6, 2) := by decide +kernel
theorem dL_act_431 : decode cL_act 431 = .ok (.if_icmp .ne 42, 3) := by decide +kernel
theorem dL_act_434 : decode cL_act 434 = .ok (.aload_n 3, 1) := by decide +kernel
theorem dL_act_435 : decode cL_act 435 = .ok (.iconst 0, 1) := by decide +kernel
theorem dL_act_436 : decode cL_act 436 = .ok (.iaload, 1) := by decide +kernel
theorem dL_act_437 : decode cL_act 437 = .ok (.istore 11, 2) := by decide +kernel
theorem dL_act_439 : decode cL_act 439 = .ok (.aload_n 3, 1) := by decide +kernel
theorem dL_act_440 : decode cL_act 440 = .ok (.iconst 0, 1) := by decide +kernel
theorem dL_act_441 : decode cL_act 441 = .ok (.iconst 0, 1) := by decide +kernel
theorem dL_act_442 : decode cL_act 442 = .ok (.iastore, 1) := by decide +kernel
theorem dL_act_443 : decode cL_act 443 = .ok (.aload_n 3, 1) := by decide +kernel
theorem dL_act_444 : decode cL_act 444 = .ok (.iconst 2, 1) := by decide +kernel
theorem dL_act_445 : decode cL_act 445 = .ok (.iaload, 1) := by decide +kernel
theorem dL_act_446 : decode cL_act 446 = .ok (.bipush 6, 2) := by decide +kernel
theorem dL_act_448 : decode cL_act 448 = .ok (.if_icmp .ge 10, 3) := by decide +kernel
theorem dL_act_451 : decode cL_act 451 = .ok (.aload_n 3, 1) := by decide +kernel
theorem dL_act_452 : decode cL_act 452 = .ok (.iconst 2, 1) := by decide +kernel
theorem dL_act_453 : decode cL_act 453 = .ok (.dup2, 1) := by decide +kernel
theorem dL_act_454 : decode cL_act 454 = .ok (.iaload, 1) := by decide +kernel
theorem dL_act_455 : decode cL_act 455 = .ok (.iconst 1, 1) := by decide +kernel
theorem dL_act_456 : decode cL_act 456 = .ok (.iadd, 1) := by decide +kernel
theorem dL_act_457 : decode cL_act 457 = .ok (.iastore, 1) := by decide +kernel
theorem dL_act_458 : decode cL_act 458 = .ok (.aload_n 0, 1) := by decide +kernel
theorem dL_act_459 : decode cL_act 459 = .ok (.invokevirtual 53, 3) := by decide +kernel
theorem dL_act_462 : decode cL_act 462 = .ok (.iload 11, 2) := by decide +kernel
theorem dL_act_464 : decode cL_act 464 = .ok (.if_icmp .ne 7, 3) := by decide +kernel
theorem dL_act_467 : decode cL_act 467 = .ok (.iconst 1, 1) := by decide +kernel
theorem dL_act_468 : decode cL_act 468 = .ok (.goto 4, 3) := by decide +kernel
theorem dL_act_471 : decode cL_act 471 = .ok (.iconst 0, 1) := by decide +kernel
theorem dL_act_472 : decode cL_act 472 = .ok (.ireturn, 1) := by decide +kernel
theorem dL_act_473 : decode cL_act 473 = .ok (.iload 7, 2) := by decide +kernel
theorem dL_act_475 : decode cL_act 475 = .ok (.bipush 11, 2) := by decide +kernel
theorem dL_act_477 : decode cL_act 477 = .ok (.if_icmp .ge 209, 3) := by decide +kernel
theorem dL_act_480 : decode cL_act 480 = .ok (.aload_n 3, 1) := by decide +kernel
theorem dL_act_481 : decode cL_act 481 = .ok (.iconst 0, 1) := by decide +kernel
theorem dL_act_482 : decode cL_act 482 = .ok (.iaload, 1) := by decide +kernel
theorem dL_act_483 : decode cL_act 483 = .ok (.aload 4, 2) := by decide +kernel
theorem dL_act_485 : decode cL_act 485 = .ok (.aload 5, 2) := by decide +kernel
theorem dL_act_487 : decode cL_act 487 = .ok (.aload 8, 2) := by decide +kernel
theorem dL_act_489 : decode cL_act 489 = .ok (.aload 9, 2) := by decide +kernel
theorem dL_act_491 : decode cL_act 491 = .ok (.aload 10, 2) := by decide +kernel
theorem dL_act_493 : decode cL_act 493 = .ok (.invokestatic 57, 3) := by decide +kernel
theorem dL_act_496 : decode cL_act 496 = .ok (.aload_n 3, 1) := by decide +kernel
theorem dL_act_497 : decode cL_act 497 = .ok (.aload 8, 2) := by decide +kernel
theorem dL_act_499 : decode cL_act 499 = .ok (.aload 9, 2) := by decide +kernel
theorem dL_act_501 : decode cL_act 501 = .ok (.aload 10, 2) := by decide +kernel
theorem dL_act_503 : decode cL_act 503 = .ok (.invokestatic 61, 3) := by decide +kernel
theorem dL_act_506 : decode cL_act 506 = .ok (.aload_n 3, 1) := by decide +kernel
theorem dL_act_507 : decode cL_act 507 = .ok (.iconst 1, 1) := by decide +kernel
theorem dL_act_508 : decode cL_act 508 = .ok (.iaload, 1) := by decide +kernel
theorem dL_act_509 : decode cL_act 509 = .ok (.bipush 7, 2) := by decide +kernel
theorem dL_act_511 : decode cL_act 511 = .ok (.if_icmp .eq 41, 3) := by decide +kernel
theorem dL_act_514 : decode cL_act 514 = .ok (.aload 10, 2) := by decide +kernel
theorem dL_act_516 : decode cL_act 516 = .ok (.iconst 0, 1) := by decide +kernel
theorem dL_act_517 : decode cL_act 517 = .ok (.iaload, 1) := by decide +kernel
theorem dL_act_518 : decode cL_act 518 = .ok (.iconst 1, 1) := by decide +kernel
theorem dL_act_519 : decode cL_act 519 = .ok (.if_icmp .lt 33, 3) := by decide +kernel
theorem dL_act_522 : decode cL_act 522 = .ok (.aload 10, 2) := by decide +kernel
theorem dL_act_524 : decode cL_act 524 = .ok (.iconst 0, 1) := by decide +kernel
theorem dL_act_525 : decode cL_act 525 = .ok (.iaload, 1) := by decide +kernel
theorem dL_act_526 : decode cL_act 526 = .ok (.bipush 8, 2) := by decide +kernel
theorem dL_act_528 : decode cL_act 528 = .ok (.if_icmp .gt 24, 3) := by decide +kernel
theorem dL_act_531 : decode cL_act 531 = .ok (.aload_n 3, 1) := by decide +kernel
theorem dL_act_532 : decode cL_act 532 = .ok (.aload 8, 2) := by decide +kernel
theorem dL_act_534 : decode cL_act 534 = .ok (.aload 10, 2) := by decide +kernel
theorem dL_act_536 : decode cL_act 536 = .ok (.iconst 0, 1) := by decide +kernel
theorem dL_act_537 : decode cL_act 537 = .ok (.iaload, 1) := by decide +kernel
theorem dL_act_538 : decode cL_act 538 = .ok (.aload 6, 2) := by decide +kernel
theorem dL_act_540 : decode cL_act 540 = .ok (.invokestatic 65, 3) := by decide +kernel
theorem dL_act_543 : decode cL_act 543 = .ok (.iconst 2, 1) := by decide +kernel
theorem dL_act_544 : decode cL_act 544 = .ok (.aload_n 3, 1) := by decide +kernel
theorem dL_act_545 : decode cL_act 545 = .ok (.bipush 7, 2) := by decide +kernel
theorem dL_act_547 : decode cL_act 547 = .ok (.iaload, 1) := by decide +kernel
theorem dL_act_548 : decode cL_act 548 = .ok (.imul, 1) := by decide +kernel
theorem dL_act_549 : decode cL_act 549 = .ok (.if_icmp .gt 41, 3) := by decide +kernel
theorem dL_act_552 : decode cL_act 552 = .ok (.aload_n 3, 1) := by decide +kernel
theorem dL_act_553 : decode cL_act 553 = .ok (.iconst 1, 1) := by decide +kernel
theorem dL_act_554 : decode cL_act 554 = .ok (.iaload, 1) := by decide +kernel
theorem dL_act_555 : decode cL_act 555 = .ok (.bipush 7, 2) := by decide +kernel
theorem dL_act_557 : decode cL_act 557 = .ok (.if_icmp .eq 27, 3) := by decide +kernel
theorem dL_act_560 : decode cL_act 560 = .ok (.aload 10, 2) := by decide +kernel
theorem dL_act_562 : decode cL_act 562 = .ok (.iconst 0, 1) := by decide +kernel
theorem dL_act_563 : decode cL_act 563 = .ok (.iaload, 1) := by decide +kernel
theorem dL_act_564 : decode cL_act 564 = .ok (.iconst 1, 1) := by decide +kernel
theorem dL_act_565 : decode cL_act 565 = .ok (.if_icmp .lt 19, 3) := by decide +kernel
theorem dL_act_568 : decode cL_act 568 = .ok (.aload 10, 2) := by decide +kernel
theorem dL_act_570 : decode cL_act 570 = .ok (.iconst 0, 1) := by decide +kernel
theorem dL_act_571 : decode cL_act 571 = .ok (.iaload, 1) := by decide +kernel
theorem dL_act_572 : decode cL_act 572 = .ok (.bipush 8, 2) := by decide +kernel
theorem dL_act_574 : decode cL_act 574 = .ok (.if_icmp .gt 10, 3) := by decide +kernel
theorem dL_act_577 : decode cL_act 577 = .ok (.aload_n 0, 1) := by decide +kernel
theorem dL_act_578 : decode cL_act 578 = .ok (.invokevirtual 69, 3) := by decide +kernel
theorem dL_act_581 : decode cL_act 581 = .ok (.ifCond .lt 7, 3) := by decide +kernel
theorem dL_act_584 : decode cL_act 584 = .ok (.iconst 1, 1) := by decide +kernel
theorem dL_act_585 : decode cL_act 585 = .ok (.goto 4, 3) := by decide +kernel
theorem dL_act_588 : decode cL_act 588 = .ok (.iconst 0, 1) := by decide +kernel
theorem dL_act_589 : decode cL_act 589 = .ok (.ireturn, 1) := by decide +kernel
theorem dL_act_590 : decode cL_act 590 = .ok (.aload_n 3, 1) := by decide +kernel
theorem dL_act_591 : decode cL_act 591 = .ok (.iconst 1, 1) := by decide +kernel
theorem dL_act_592 : decode cL_act 592 = .ok (.dup2, 1) := by decide +kernel
theorem dL_act_593 : decode cL_act 593 = .ok (.iaload, 1) := by decide +kernel
theorem dL_act_594 : decode cL_act 594 = .ok (.dup_x2, 1) := by decide +kernel
theorem dL_act_595 : decode cL_act 595 = .ok (.iconst 1, 1) := by decide +kernel
theorem dL_act_596 : decode cL_act 596 = .ok (.iadd, 1) := by decide +kernel
theorem dL_act_597 : decode cL_act 597 = .ok (.iastore, 1) := by decide +kernel
theorem dL_act_598 : decode cL_act 598 = .ok (.istore 11, 2) := by decide +kernel
theorem dL_act_600 : decode cL_act 600 = .ok (.aload 6, 2) := by decide +kernel
theorem dL_act_602 : decode cL_act 602 = .ok (.bipush 9, 2) := by decide +kernel
theorem dL_act_604 : decode cL_act 604 = .ok (.iload 11, 2) := by decide +kernel
theorem dL_act_606 : decode cL_act 606 = .ok (.imul, 1) := by decide +kernel
theorem dL_act_607 : decode cL_act 607 = .ok (.aload 10, 2) := by decide +kernel
theorem dL_act_609 : decode cL_act 609 = .ok (.iconst 0, 1) := by decide +kernel
theorem dL_act_610 : decode cL_act 610 = .ok (.iaload, 1) := by decide +kernel
theorem dL_act_611 : decode cL_act 611 = .ok (.iastore, 1) := by decide +kernel
theorem dL_act_612 : decode cL_act 612 = .ok (.iconst 0, 1) := by decide +kernel
theorem dL_act_613 : decode cL_act 613 = .ok (.istore 12, 2) := by decide +kernel
theorem dL_act_615 : decode cL_act 615 = .ok (.iload 12, 2) := by decide +kernel
theorem dL_act_617 : decode cL_act 617 = .ok (.aload 10, 2) := by decide +kernel
theorem dL_act_619 : decode cL_act 619 = .ok (.iconst 0, 1) := by decide +kernel
theorem dL_act_620 : decode cL_act 620 = .ok (.iaload, 1) := by decide +kernel
theorem dL_act_621 : decode cL_act 621 = .ok (.if_icmp .ge 27, 3) := by decide +kernel
theorem dL_act_624 : decode cL_act 624 = .ok (.aload 6, 2) := by decide +kernel
theorem dL_act_626 : decode cL_act 626 = .ok (.bipush 9, 2) := by decide +kernel
theorem dL_act_628 : decode cL_act 628 = .ok (.iload 11, 2) := by decide +kernel
theorem dL_act_630 : decode cL_act 630 = .ok (.imul, 1) := by decide +kernel
theorem dL_act_631 : decode cL_act 631 = .ok (.iconst 1, 1) := by decide +kernel
theorem dL_act_632 : decode cL_act 632 = .ok (.iadd, 1) := by decide +kernel
theorem dL_act_633 : decode cL_act 633 = .ok (.iload 12, 2) := by decide +kernel
theorem dL_act_635 : decode cL_act 635 = .ok (.iadd, 1) := by decide +kernel
theorem dL_act_636 : decode cL_act 636 = .ok (.aload 8, 2) := by decide +kernel
theorem dL_act_638 : decode cL_act 638 = .ok (.iload 12, 2) := by decide +kernel
theorem dL_act_640 : decode cL_act 640 = .ok (.iaload, 1) := by decide +kernel
theorem dL_act_641 : decode cL_act 641 = .ok (.iastore, 1) := by decide +kernel
theorem dL_act_642 : decode cL_act 642 = .ok (.iinc 12 1, 3) := by decide +kernel
theorem dL_act_645 : decode cL_act 645 = .ok (.goto (-30), 3) := by decide +kernel
theorem dL_act_648 : decode cL_act 648 = .ok (.aload_n 3, 1) := by decide +kernel
theorem dL_act_649 : decode cL_act 649 = .ok (.iconst 2, 1) := by decide +kernel
theorem dL_act_650 : decode cL_act 650 = .ok (.iaload, 1) := by decide +kernel
theorem dL_act_651 : decode cL_act 651 = .ok (.bipush 6, 2) := by decide +kernel
theorem dL_act_653 : decode cL_act 653 = .ok (.if_icmp .ge 10, 3) := by decide +kernel
theorem dL_act_656 : decode cL_act 656 = .ok (.aload_n 3, 1) := by decide +kernel
theorem dL_act_657 : decode cL_act 657 = .ok (.iconst 2, 1) := by decide +kernel
theorem dL_act_658 : decode cL_act 658 = .ok (.dup2, 1) := by decide +kernel
theorem dL_act_659 : decode cL_act 659 = .ok (.iaload, 1) := by decide +kernel
theorem dL_act_660 : decode cL_act 660 = .ok (.iconst 1, 1) := by decide +kernel
theorem dL_act_661 : decode cL_act 661 = .ok (.iadd, 1) := by decide +kernel
theorem dL_act_662 : decode cL_act 662 = .ok (.iastore, 1) := by decide +kernel
theorem dL_act_663 : decode cL_act 663 = .ok (.aload_n 0, 1) := by decide +kernel
theorem dL_act_664 : decode cL_act 664 = .ok (.invokevirtual 69, 3) := by decide +kernel
theorem dL_act_667 : decode cL_act 667 = .ok (.iconst (-1), 1) := by decide +kernel
theorem dL_act_668 : decode cL_act 668 = .ok (.if_icmp .ne 16, 3) := by decide +kernel
theorem dL_act_671 : decode cL_act 671 = .ok (.aload_n 0, 1) := by decide +kernel
theorem dL_act_672 : decode cL_act 672 = .ok (.invokevirtual 72, 3) := by decide +kernel
theorem dL_act_675 : decode cL_act 675 = .ok (.iload 11, 2) := by decide +kernel
theorem dL_act_677 : decode cL_act 677 = .ok (.if_icmp .ne 7, 3) := by decide +kernel
theorem dL_act_680 : decode cL_act 680 = .ok (.iconst 1, 1) := by decide +kernel
theorem dL_act_681 : decode cL_act 681 = .ok (.goto 4, 3) := by decide +kernel
theorem dL_act_684 : decode cL_act 684 = .ok (.iconst 0, 1) := by decide +kernel
theorem dL_act_685 : decode cL_act 685 = .ok (.ireturn, 1) := by decide +kernel
theorem dL_act_686 : decode cL_act 686 = .ok (.iload 7, 2) := by decide +kernel
theorem dL_act_688 : decode cL_act 688 = .ok (.bipush 11, 2) := by decide +kernel
theorem dL_act_690 : decode cL_act 690 = .ok (.if_icmp .ne 95, 3) := by decide +kernel
theorem dL_act_693 : decode cL_act 693 = .ok (.aload_n 3, 1) := by decide +kernel
theorem dL_act_694 : decode cL_act 694 = .ok (.iconst 1, 1) := by decide +kernel
theorem dL_act_695 : decode cL_act 695 = .ok (.iaload, 1) := by decide +kernel
theorem dL_act_696 : decode cL_act 696 = .ok (.ifCond .le 89, 3) := by decide +kernel
theorem dL_act_699 : decode cL_act 699 = .ok (.iload_n 2, 1) := by decide +kernel
theorem dL_act_700 : decode cL_act 700 = .ok (.aload_n 3, 1) := by decide +kernel
theorem dL_act_701 : decode cL_act 701 = .ok (.iconst 1, 1) := by decide +kernel
theorem dL_act_702 : decode cL_act 702 = .ok (.iaload, 1) := by decide +kernel
theorem dL_act_703 : decode cL_act 703 = .ok (.invokestatic 33, 3) := by decide +kernel
theorem dL_act_706 : decode cL_act 706 = .ok (.istore 11, 2) := by decide +kernel
theorem dL_act_708 : decode cL_act 708 = .ok (.aload_n 3, 1) := by decide +kernel
theorem dL_act_709 : decode cL_act 709 = .ok (.iconst 1, 1) := by decide +kernel
theorem dL_act_710 : decode cL_act 710 = .ok (.dup2, 1) := by decide +kernel
theorem dL_act_711 : decode cL_act 711 = .ok (.iaload, 1) := by decide +kernel
theorem dL_act_712 : decode cL_act 712 = .ok (.iconst 1, 1) := by decide +kernel
theorem dL_act_713 : decode cL_act 713 = .ok (.isub, 1) := by decide +kernel
theorem dL_act_714 : decode cL_act 714 = .ok (.iastore, 1) := by decide +kernel
theorem dL_act_715 : decode cL_act 715 = .ok (.bipush 9, 2) := by decide +kernel
theorem dL_act_717 : decode cL_act 717 = .ok (.iload 11, 2) := by decide +kernel
theorem dL_act_719 : decode cL_act 719 = .ok (.imul, 1) := by decide +kernel
theorem dL_act_720 : decode cL_act 720 = .ok (.istore 12, 2) := by decide +kernel
theorem dL_act_722 : decode cL_act 722 = .ok (.iload 12, 2) := by decide +kernel
theorem dL_act_724 : decode cL_act 724 = .ok (.bipush 9, 2) := by decide +kernel
theorem dL_act_726 : decode cL_act 726 = .ok (.aload_n 3, 1) := by decide +kernel
theorem dL_act_727 : decode cL_act 727 = .ok (.iconst 1, 1) := by decide +kernel
theorem dL_act_728 : decode cL_act 728 = .ok (.iaload, 1) := by decide +kernel
theorem dL_act_729 : decode cL_act 729 = .ok (.imul, 1) := by decide +kernel
theorem dL_act_730 : decode cL_act 730 = .ok (.if_icmp .ge 22, 3) := by decide +kernel
theorem dL_act_733 : decode cL_act 733 = .ok (.aload 6, 2) := by decide +kernel
theorem dL_act_735 : decode cL_act 735 = .ok (.iload 12, 2) := by decide +kernel
theorem dL_act_737 : decode cL_act 737 = .ok (.aload 6, 2) := by decide +kernel
theorem dL_act_739 : decode cL_act 739 = .ok (.iload 12, 2) := by decide +kernel
theorem dL_act_741 : decode cL_act 741 = .ok (.bipush 9, 2) := by decide +kernel
theorem dL_act_743 : decode cL_act 743 = .ok (.iadd, 1) := by decide +kernel
theorem dL_act_744 : decode cL_act 744 = .ok (.iaload, 1) := by decide +kernel
theorem dL_act_745 : decode cL_act 745 = .ok (.iastore, 1) := by decide +kernel
theorem dL_act_746 : decode cL_act 746 = .ok (.iinc 12 1, 3) := by decide +kernel
theorem dL_act_749 : decode cL_act 749 = .ok (.goto (-27), 3) := by decide +kernel
theorem dL_act_752 : decode cL_act 752 = .ok (.aload_n 3, 1) := by decide +kernel
theorem dL_act_753 : decode cL_act 753 = .ok (.iconst 2, 1) := by decide +kernel
theorem dL_act_754 : decode cL_act 754 = .ok (.iaload, 1) := by decide +kernel
theorem dL_act_755 : decode cL_act 755 = .ok (.bipush 6, 2) := by decide +kernel
theorem dL_act_757 : decode cL_act 757 = .ok (.if_icmp .ge 10, 3) := by decide +kernel
theorem dL_act_760 : decode cL_act 760 = .ok (.aload_n 3, 1) := by decide +kernel
theorem dL_act_761 : decode cL_act 761 = .ok (.iconst 2, 1) := by decide +kernel
theorem dL_act_762 : decode cL_act 762 = .ok (.dup2, 1) := by decide +kernel
theorem dL_act_763 : decode cL_act 763 = .ok (.iaload, 1) := by decide +kernel
theorem dL_act_764 : decode cL_act 764 = .ok (.iconst 1, 1) := by decide +kernel
theorem dL_act_765 : decode cL_act 765 = .ok (.iadd, 1) := by decide +kernel
theorem dL_act_766 : decode cL_act 766 = .ok (.iastore, 1) := by decide +kernel
theorem dL_act_767 : decode cL_act 767 = .ok (.aload_n 0, 1) := by decide +kernel
theorem dL_act_768 : decode cL_act 768 = .ok (.iload 11, 2) := by decide +kernel
theorem dL_act_770 : decode cL_act 770 = .ok (.invokevirtual 75, 3) := by decide +kernel
theorem dL_act_773 : decode cL_act 773 = .ok (.aload_n 3, 1) := by decide +kernel
theorem dL_act_774 : decode cL_act 774 = .ok (.iconst 1, 1) := by decide +kernel
theorem dL_act_775 : decode cL_act 775 = .ok (.iaload, 1) := by decide +kernel
theorem dL_act_776 : decode cL_act 776 = .ok (.if_icmp .ne 7, 3) := by decide +kernel
theorem dL_act_779 : decode cL_act 779 = .ok (.iconst 1, 1) := by decide +kernel
theorem dL_act_780 : decode cL_act 780 = .ok (.goto 4, 3) := by decide +kernel
theorem dL_act_783 : decode cL_act 783 = .ok (.iconst 0, 1) := by decide +kernel
theorem dL_act_784 : decode cL_act 784 = .ok (.ireturn, 1) := by decide +kernel
theorem dL_act_785 : decode cL_act 785 = .ok (.iload_n 2, 1) := by decide +kernel
theorem dL_act_786 : decode cL_act 786 = .ok (.iconst 5, 1) := by decide +kernel
theorem dL_act_787 : decode cL_act 787 = .ok (.invokestatic 33, 3) := by decide +kernel
theorem dL_act_790 : decode cL_act 790 = .ok (.istore 11, 2) := by decide +kernel
theorem dL_act_792 : decode cL_act 792 = .ok (.aload_n 3, 1) := by decide +kernel
theorem dL_act_793 : decode cL_act 793 = .ok (.iconst 3, 1) := by decide +kernel
theorem dL_act_794 : decode cL_act 794 = .ok (.iload 11, 2) := by decide +kernel
theorem dL_act_796 : decode cL_act 796 = .ok (.iadd, 1) := by decide +kernel
theorem dL_act_797 : decode cL_act 797 = .ok (.iaload, 1) := by decide +kernel
theorem dL_act_798 : decode cL_act 798 = .ok (.istore 12, 2) := by decide +kernel
theorem dL_act_800 : decode cL_act 800 = .ok (.aload_n 3, 1) := by decide +kernel
theorem dL_act_801 : decode cL_act 801 = .ok (.iconst 3, 1) := by decide +kernel
theorem dL_act_802 : decode cL_act 802 = .ok (.iload 11, 2) := by decide +kernel
theorem dL_act_804 : decode cL_act 804 = .ok (.iadd, 1) := by decide +kernel
theorem dL_act_805 : decode cL_act 805 = .ok (.iload 11, 2) := by decide +kernel
theorem dL_act_807 : decode cL_act 807 = .ok (.iconst 4, 1) := by decide +kernel
theorem dL_act_808 : decode cL_act 808 = .ok (.if_icmp .ne 14, 3) := by decide +kernel
theorem dL_act_811 : decode cL_act 811 = .ok (.iload_n 2, 1) := by decide +kernel
theorem dL_act_812 : decode cL_act 812 = .ok (.iconst 3, 1) := by decide +kernel
theorem dL_act_813 : decode cL_act 813 = .ok (.ishr, 1) := by decide +kernel
theorem dL_act_814 : decode cL_act 814 = .ok (.bipush 6, 2) := by decide +kernel
theorem dL_act_816 : decode cL_act 816 = .ok (.invokestatic 33, 3) := by decide +kernel
theorem dL_act_819 : decode cL_act 819 = .ok (.goto 30, 3) := by decide +kernel
theorem dL_act_822 : decode cL_act 822 = .ok (.iload 11, 2) := by decide +kernel
theorem dL_act_824 : decode cL_act 824 = .ok (.iconst 1, 1) := by decide +kernel
theorem dL_act_825 : decode cL_act 825 = .ok (.if_icmp .ne 14, 3) := by decide +kernel
theorem dL_act_828 : decode cL_act 828 = .ok (.iload_n 2, 1) := by decide +kernel
theorem dL_act_829 : decode cL_act 829 = .ok (.iconst 3, 1) := by decide +kernel
theorem dL_act_830 : decode cL_act 830 = .ok (.ishr, 1) := by decide +kernel
theorem dL_act_831 : decode cL_act 831 = .ok (.bipush 10, 2) := by decide +kernel
theorem dL_act_833 : decode cL_act 833 = .ok (.invokestatic 33, 3) := by decide +kernel
theorem dL_act_836 : decode cL_act 836 = .ok (.goto 13, 3) := by decide +kernel
theorem dL_act_839 : decode cL_act 839 = .ok (.iconst 1, 1) := by decide +kernel
theorem dL_act_840 : decode cL_act 840 = .ok (.iload_n 2, 1) := by decide +kernel
theorem dL_act_841 : decode cL_act 841 = .ok (.iconst 3, 1) := by decide +kernel
theorem dL_act_842 : decode cL_act 842 = .ok (.ishr, 1) := by decide +kernel
theorem dL_act_843 : decode cL_act 843 = .ok (.bipush 9, 2) := by decide +kernel
theorem dL_act_845 : decode cL_act 845 = .ok (.invokestatic 33, 3) := by decide +kernel
theorem dL_act_848 : decode cL_act 848 = .ok (.iadd, 1) := by decide +kernel
theorem dL_act_849 : decode cL_act 849 = .ok (.iastore, 1) := by decide +kernel
theorem dL_act_850 : decode cL_act 850 = .ok (.aload_n 3, 1) := by decide +kernel
theorem dL_act_851 : decode cL_act 851 = .ok (.aload 6, 2) := by decide +kernel
theorem dL_act_853 : decode cL_act 853 = .ok (.invokestatic 78, 3) := by decide +kernel
theorem dL_act_856 : decode cL_act 856 = .ok (.iconst 2, 1) := by decide +kernel
theorem dL_act_857 : decode cL_act 857 = .ok (.aload_n 3, 1) := by decide +kernel
theorem dL_act_858 : decode cL_act 858 = .ok (.bipush 7, 2) := by decide +kernel
theorem dL_act_860 : decode cL_act 860 = .ok (.iaload, 1) := by decide +kernel
theorem dL_act_861 : decode cL_act 861 = .ok (.imul, 1) := by decide +kernel
theorem dL_act_862 : decode cL_act 862 = .ok (.if_icmp .gt 28, 3) := by decide +kernel
theorem dL_act_865 : decode cL_act 865 = .ok (.aload_n 3, 1) := by decide +kernel
theorem dL_act_866 : decode cL_act 866 = .ok (.iconst 3, 1) := by decide +kernel
theorem dL_act_867 : decode cL_act 867 = .ok (.iload 11, 2) := by decide +kernel
theorem dL_act_869 : decode cL_act 869 = .ok (.iadd, 1) := by decide +kernel
theorem dL_act_870 : decode cL_act 870 = .ok (.iload 12, 2) := by decide +kernel
theorem dL_act_872 : decode cL_act 872 = .ok (.iastore, 1) := by decide +kernel
theorem dL_act_873 : decode cL_act 873 = .ok (.aload_n 0, 1) := by decide +kernel
theorem dL_act_874 : decode cL_act 874 = .ok (.iload 11, 2) := by decide +kernel
theorem dL_act_876 : decode cL_act 876 = .ok (.invokevirtual 82, 3) := by decide +kernel
theorem dL_act_879 : decode cL_act 879 = .ok (.iload 12, 2) := by decide +kernel
theorem dL_act_881 : decode cL_act 881 = .ok (.if_icmp .ne 7, 3) := by decide +kernel
theorem dL_act_884 : decode cL_act 884 = .ok (.iconst 1, 1) := by decide +kernel
theorem dL_act_885 : decode cL_act 885 = .ok (.goto 4, 3) := by decide +kernel
theorem dL_act_888 : decode cL_act 888 = .ok (.iconst 0, 1) := by decide +kernel
theorem dL_act_889 : decode cL_act 889 = .ok (.ireturn, 1) := by decide +kernel
theorem dL_act_890 : decode cL_act 890 = .ok (.aload_n 3, 1) := by decide +kernel
theorem dL_act_891 : decode cL_act 891 = .ok (.iconst 2, 1) := by decide +kernel
theorem dL_act_892 : decode cL_act 892 = .ok (.iaload, 1) := by decide +kernel
theorem dL_act_893 : decode cL_act 893 = .ok (.bipush 6, 2) := by decide +kernel
theorem dL_act_895 : decode cL_act 895 = .ok (.if_icmp .ge 10, 3) := by decide +kernel
theorem dL_act_898 : decode cL_act 898 = .ok (.aload_n 3, 1) := by decide +kernel
theorem dL_act_899 : decode cL_act 899 = .ok (.iconst 2, 1) := by decide +kernel
theorem dL_act_900 : decode cL_act 900 = .ok (.dup2, 1) := by decide +kernel
theorem dL_act_901 : decode cL_act 901 = .ok (.iaload, 1) := by decide +kernel
theorem dL_act_902 : decode cL_act 902 = .ok (.iconst 1, 1) := by decide +kernel
theorem dL_act_903 : decode cL_act 903 = .ok (.iadd, 1) := by decide +kernel
theorem dL_act_904 : decode cL_act 904 = .ok (.iastore, 1) := by decide +kernel
theorem dL_act_905 : decode cL_act 905 = .ok (.aload_n 0, 1) := by decide +kernel
theorem dL_act_906 : decode cL_act 906 = .ok (.iload 11, 2) := by decide +kernel
theorem dL_act_908 : decode cL_act 908 = .ok (.aload_n 3, 1) := by decide +kernel
theorem dL_act_909 : decode cL_act 909 = .ok (.iconst 3, 1) := by decide +kernel
theorem dL_act_910 : decode cL_act 910 = .ok (.iload 11, 2) := by decide +kernel
theorem dL_act_912 : decode cL_act 912 = .ok (.iadd, 1) := by decide +kernel
theorem dL_act_913 : decode cL_act 913 = .ok (.iaload, 1) := by decide +kernel
theorem dL_act_914 : decode cL_act 914 = .ok (.invokevirtual 85, 3) := by decide +kernel
theorem dL_act_917 : decode cL_act 917 = .ok (.iload 12, 2) := by decide +kernel
theorem dL_act_919 : decode cL_act 919 = .ok (.if_icmp .ne 7, 3) := by decide +kernel
theorem dL_act_922 : decode cL_act 922 = .ok (.iconst 1, 1) := by decide +kernel
theorem dL_act_923 : decode cL_act 923 = .ok (.goto 4, 3) := by decide +kernel
theorem dL_act_926 : decode cL_act 926 = .ok (.iconst 0, 1) := by decide +kernel
theorem dL_act_927 : decode cL_act 927 = .ok (.ireturn, 1) := by decide +kernel
theorem dL_agree_0 : decode cL_agree 0 = .ok (.bipush 40, 2) := by decide +kernel
theorem dL_agree_2 : decode cL_agree 2 = .ok (.newarray .int, 2) := by decide +kernel
theorem dL_agree_4 : decode cL_agree 4 = .ok (.astore 5, 2) := by decide +kernel
theorem dL_agree_6 : decode cL_agree 6 = .ok (.bipush 40, 2) := by decide +kernel
theorem dL_agree_8 : decode cL_agree 8 = .ok (.newarray .int, 2) := by decide +kernel
theorem dL_agree_10 : decode cL_agree 10 = .ok (.astore 6, 2) := by decide +kernel
theorem dL_agree_12 : decode cL_agree 12 = .ok (.iconst 2, 1) := by decide +kernel
theorem dL_agree_13 : decode cL_agree 13 = .ok (.newarray .int, 2) := by decide +kernel
theorem dL_agree_15 : decode cL_agree 15 = .ok (.astore 7, 2) := by decide +kernel
theorem dL_agree_17 : decode cL_agree 17 = .ok (.aload_n 1, 1) := by decide +kernel
theorem dL_agree_18 : decode cL_agree 18 = .ok (.iconst 0, 1) := by decide +kernel
theorem dL_agree_19 : decode cL_agree 19 = .ok (.iaload, 1) := by decide +kernel
theorem dL_agree_20 : decode cL_agree 20 = .ok (.aload_n 2, 1) := by decide +kernel
theorem dL_agree_21 : decode cL_agree 21 = .ok (.aload_n 3, 1) := by decide +kernel
theorem dL_agree_22 : decode cL_agree 22 = .ok (.aload 5, 2) := by decide +kernel
theorem dL_agree_24 : decode cL_agree 24 = .ok (.aload 6, 2) := by decide +kernel
theorem dL_agree_26 : decode cL_agree 26 = .ok (.aload 7, 2) := by decide +kernel
theorem dL_agree_28 : decode cL_agree 28 = .ok (.invokestatic 57, 3) := by decide +kernel
theorem dL_agree_31 : decode cL_agree 31 = .ok (.iconst 0, 1) := by decide +kernel
theorem dL_agree_32 : decode cL_agree 32 = .ok (.istore 8, 2) := by decide +kernel
theorem dL_agree_34 : decode cL_agree 34 = .ok (.iconst 0, 1) := by decide +kernel
theorem dL_agree_35 : decode cL_agree 35 = .ok (.istore 9, 2) := by decide +kernel
theorem dL_agree_37 : decode cL_agree 37 = .ok (.iload 9, 2) := by decide +kernel
theorem dL_agree_39 : decode cL_agree 39 = .ok (.aload 7, 2) := by decide +kernel
theorem dL_agree_41 : decode cL_agree 41 = .ok (.iconst 0, 1) := by decide +kernel
theorem dL_agree_42 : decode cL_agree 42 = .ok (.iaload, 1) := by decide +kernel
theorem dL_agree_43 : decode cL_agree 43 = .ok (.if_icmp .ge 51, 3) := by decide +kernel
theorem dL_agree_46 : decode cL_agree 46 = .ok (.iload 8, 2) := by decide +kernel
theorem dL_agree_48 : decode cL_agree 48 = .ok (.aload 6, 2) := by decide +kernel
theorem dL_agree_50 : decode cL_agree 50 = .ok (.iload 9, 2) := by decide +kernel
theorem dL_agree_52 : decode cL_agree 52 = .ok (.iaload, 1) := by decide +kernel
theorem dL_agree_53 : decode cL_agree 53 = .ok (.iadd, 1) := by decide +kernel
theorem dL_agree_54 : decode cL_agree 54 = .ok (.istore 8, 2) := by decide +kernel
theorem dL_agree_56 : decode cL_agree 56 = .ok (.aload_n 0, 1) := by decide +kernel
theorem dL_agree_57 : decode cL_agree 57 = .ok (.iload 9, 2) := by decide +kernel
theorem dL_agree_59 : decode cL_agree 59 = .ok (.iconst 0, 1) := by decide +kernel
theorem dL_agree_60 : decode cL_agree 60 = .ok (.invokevirtual 88, 3) := by decide +kernel
theorem dL_agree_63 : decode cL_agree 63 = .ok (.aload 5, 2) := by decide +kernel
theorem dL_agree_65 : decode cL_agree 65 = .ok (.iload 9, 2) := by decide +kernel
theorem dL_agree_67 : decode cL_agree 67 = .ok (.iaload, 1) := by decide +kernel
theorem dL_agree_68 : decode cL_agree 68 = .ok (.if_icmp .ne 18, 3) := by decide +kernel
theorem dL_agree_71 : decode cL_agree 71 = .ok (.aload_n 0, 1) := by decide +kernel
theorem dL_agree_72 : decode cL_agree 72 = .ok (.iload 9, 2) := by decide +kernel
theorem dL_agree_74 : decode cL_agree 74 = .ok (.iconst 1, 1) := by decide +kernel
theorem dL_agree_75 : decode cL_agree 75 = .ok (.invokevirtual 88, 3) := by decide +kernel
theorem dL_agree_78 : decode cL_agree 78 = .ok (.aload 6, 2) := by decide +kernel
theorem dL_agree_80 : decode cL_agree 80 = .ok (.iload 9, 2) := by decide +kernel
theorem dL_agree_82 : decode cL_agree 82 = .ok (.iaload, 1) := by decide +kernel
theorem dL_agree_83 : decode cL_agree 83 = .ok (.if_icmp .eq 5, 3) := by decide +kernel
theorem dL_agree_86 : decode cL_agree 86 = .ok (.iconst 0, 1) := by decide +kernel
theorem dL_agree_87 : decode cL_agree 87 = .ok (.ireturn, 1) := by decide +kernel
theorem dL_agree_88 : decode cL_agree 88 = .ok (.iinc 9 1, 3) := by decide +kernel
theorem dL_agree_91 : decode cL_agree 91 = .ok (.goto (-54), 3) := by decide +kernel
theorem dL_agree_94 : decode cL_agree 94 = .ok (.aload_n 0, 1) := by decide +kernel
theorem dL_agree_95 : decode cL_agree 95 = .ok (.iconst 1, 1) := by decide +kernel
theorem dL_agree_96 : decode cL_agree 96 = .ok (.invokevirtual 42, 3) := by decide +kernel
theorem dL_agree_99 : decode cL_agree 99 = .ok (.aload 7, 2) := by decide +kernel
theorem dL_agree_101 : decode cL_agree 101 = .ok (.iconst 0, 1) := by decide +kernel
theorem dL_agree_102 : decode cL_agree 102 = .ok (.iaload, 1) := by decide +kernel
theorem dL_agree_103 : decode cL_agree 103 = .ok (.if_icmp .ne 13, 3) := by decide +kernel
theorem dL_agree_106 : decode cL_agree 106 = .ok (.aload_n 0, 1) := by decide +kernel
theorem dL_agree_107 : decode cL_agree 107 = .ok (.iconst 3, 1) := by decide +kernel
theorem dL_agree_108 : decode cL_agree 108 = .ok (.invokevirtual 42, 3) := by decide +kernel
theorem dL_agree_111 : decode cL_agree 111 = .ok (.iload 8, 2) := by decide +kernel
theorem dL_agree_113 : decode cL_agree 113 = .ok (.if_icmp .eq 5, 3) := by decide +kernel
theorem dL_agree_116 : decode cL_agree 116 = .ok (.iconst 0, 1) := by decide +kernel
theorem dL_agree_117 : decode cL_agree 117 = .ok (.ireturn, 1) := by decide +kernel
theorem dL_agree_118 : decode cL_agree 118 = .ok (.aload_n 1, 1) := by decide +kernel
theorem dL_agree_119 : decode cL_agree 119 = .ok (.aload 5, 2) := by decide +kernel
theorem dL_agree_121 : decode cL_agree 121 = .ok (.aload 6, 2) := by decide +kernel
theorem dL_agree_123 : decode cL_agree 123 = .ok (.aload 7, 2) := by decide +kernel
theorem dL_agree_125 : decode cL_agree 125 = .ok (.invokestatic 61, 3) := by decide +kernel
theorem dL_agree_128 : decode cL_agree 128 = .ok (.iconst 0, 1) := by decide +kernel
theorem dL_agree_129 : decode cL_agree 129 = .ok (.istore 9, 2) := by decide +kernel
theorem dL_agree_131 : decode cL_agree 131 = .ok (.iload 9, 2) := by decide +kernel
theorem dL_agree_133 : decode cL_agree 133 = .ok (.aload 7, 2) := by decide +kernel
theorem dL_agree_135 : decode cL_agree 135 = .ok (.iconst 0, 1) := by decide +kernel
theorem dL_agree_136 : decode cL_agree 136 = .ok (.iaload, 1) := by decide +kernel
theorem dL_agree_137 : decode cL_agree 137 = .ok (.if_icmp .ge 25, 3) := by decide +kernel
theorem dL_agree_140 : decode cL_agree 140 = .ok (.aload_n 0, 1) := by decide +kernel
theorem dL_agree_141 : decode cL_agree 141 = .ok (.iload 9, 2) := by decide +kernel
theorem dL_agree_143 : decode cL_agree 143 = .ok (.invokevirtual 91, 3) := by decide +kernel
theorem dL_agree_146 : decode cL_agree 146 = .ok (.aload 5, 2) := by decide +kernel
theorem dL_agree_148 : decode cL_agree 148 = .ok (.iload 9, 2) := by decide +kernel
theorem dL_agree_150 : decode cL_agree 150 = .ok (.iaload, 1) := by decide +kernel
theorem dL_agree_151 : decode cL_agree 151 = .ok (.if_icmp .eq 5, 3) := by decide +kernel
theorem dL_agree_154 : decode cL_agree 154 = .ok (.iconst 0, 1) := by decide +kernel
theorem dL_agree_155 : decode cL_agree 155 = .ok (.ireturn, 1) := by decide +kernel
theorem dL_agree_156 : decode cL_agree 156 = .ok (.iinc 9 1, 3) := by decide +kernel
theorem dL_agree_159 : decode cL_agree 159 = .ok (.goto (-28), 3) := by decide +kernel
theorem dL_agree_162 : decode cL_agree 162 = .ok (.iconst 0, 1) := by decide +kernel
theorem dL_agree_163 : decode cL_agree 163 = .ok (.istore 9, 2) := by decide +kernel
theorem dL_agree_165 : decode cL_agree 165 = .ok (.iconst (-1), 1) := by decide +kernel
theorem dL_agree_166 : decode cL_agree 166 = .ok (.istore 10, 2) := by decide +kernel
theorem dL_agree_168 : decode cL_agree 168 = .ok (.iconst 0, 1) := by decide +kernel
theorem dL_agree_169 : decode cL_agree 169 = .ok (.istore 11, 2) := by decide +kernel
theorem dL_agree_171 : decode cL_agree 171 = .ok (.iload 11, 2) := by decide +kernel
theorem dL_agree_173 : decode cL_agree 173 = .ok (.aload_n 1, 1) := by decide +kernel
theorem dL_agree_174 : decode cL_agree 174 = .ok (.iconst 1, 1) := by decide +kernel
theorem dL_agree_175 : decode cL_agree 175 = .ok (.iaload, 1) := by decide +kernel
theorem dL_agree_176 : decode cL_agree 176 = .ok (.if_icmp .ge 121, 3) := by decide +kernel
theorem dL_agree_179 : decode cL_agree 179 = .ok (.aload_n 1, 1) := by decide +kernel
theorem dL_agree_180 : decode cL_agree 180 = .ok (.aload 5, 2) := by decide +kernel
theorem dL_agree_182 : decode cL_agree 182 = .ok (.aload 7, 2) := by decide +kernel
theorem dL_agree_184 : decode cL_agree 184 = .ok (.iconst 0, 1) := by decide +kernel
theorem dL_agree_185 : decode cL_agree 185 = .ok (.iaload, 1) := by decide +kernel
theorem dL_agree_186 : decode cL_agree 186 = .ok (.aload 4, 2) := by decide +kernel
theorem dL_agree_188 : decode cL_agree 188 = .ok (.iload 11, 2) := by decide +kernel
theorem dL_agree_190 : decode cL_agree 190 = .ok (.aload 4, 2) := by decide +kernel
theorem dL_agree_192 : decode cL_agree 192 = .ok (.bipush 9, 2) := by decide +kernel
theorem dL_agree_194 : decode cL_agree 194 = .ok (.iload 11, 2) := by decide +kernel
theorem dL_agree_196 : decode cL_agree 196 = .ok (.imul, 1) := by decide +kernel
theorem dL_agree_197 : decode cL_agree 197 = .ok (.iaload, 1) := by decide +kernel
theorem dL_agree_198 : decode cL_agree 198 = .ok (.invokestatic 29, 3) := by decide +kernel
theorem dL_agree_201 : decode cL_agree 201 = .ok (.istore 12, 2) := by decide +kernel
theorem dL_agree_203 : decode cL_agree 203 = .ok (.aload_n 0, 1) := by decide +kernel
theorem dL_agree_204 : decode cL_agree 204 = .ok (.iload 11, 2) := by decide +kernel
theorem dL_agree_206 : decode cL_agree 206 = .ok (.iconst (-1), 1) := by decide +kernel
theorem dL_agree_207 : decode cL_agree 207 = .ok (.invokevirtual 94, 3) := by decide +kernel
theorem dL_agree_210 : decode cL_agree 210 = .ok (.iload 12, 2) := by decide +kernel
theorem dL_agree_212 : decode cL_agree 212 = .ok (.if_icmp .eq 5, 3) := by decide +kernel
theorem dL_agree_215 : decode cL_agree 215 = .ok (.iconst 0, 1) := by decide +kernel
theorem dL_agree_216 : decode cL_agree 216 = .ok (.ireturn, 1) := by decide +kernel
theorem dL_agree_217 : decode cL_agree 217 = .ok (.aload 7, 2) := by decide +kernel
theorem dL_agree_219 : decode cL_agree 219 = .ok (.iconst 0, 1) := by decide +kernel
theorem dL_agree_220 : decode cL_agree 220 = .ok (.iaload, 1) := by decide +kernel
theorem dL_agree_221 : decode cL_agree 221 = .ok (.ifCond .le 16, 3) := by decide +kernel
theorem dL_agree_224 : decode cL_agree 224 = .ok (.iload 12, 2) := by decide +kernel
theorem dL_agree_226 : decode cL_agree 226 = .ok (.aload_n 1, 1) := by decide +kernel
theorem dL_agree_227 : decode cL_agree 227 = .ok (.bipush 7, 2) := by decide +kernel
theorem dL_agree_229 : decode cL_agree 229 = .ok (.iaload, 1) := by decide +kernel
theorem dL_agree_230 : decode cL_agree 230 = .ok (.if_icmp .gt 7, 3) := by decide +kernel
theorem dL_agree_233 : decode cL_agree 233 = .ok (.iload 11, 2) := by decide +kernel
theorem dL_agree_235 : decode cL_agree 235 = .ok (.istore 10, 2) := by decide +kernel
theorem dL_agree_237 : decode cL_agree 237 = .ok (.iconst 0, 1) := by decide +kernel
theorem dL_agree_238 : decode cL_agree 238 = .ok (.istore 13, 2) := by decide +kernel
theorem dL_agree_240 : decode cL_agree 240 = .ok (.iload 13, 2) := by decide +kernel
theorem dL_agree_242 : decode cL_agree 242 = .ok (.aload 4, 2) := by decide +kernel
theorem dL_agree_244 : decode cL_agree 244 = .ok (.bipush 9, 2) := by decide +kernel
theorem dL_agree_246 : decode cL_agree 246 = .ok (.iload 11, 2) := by decide +kernel
theorem dL_agree_248 : decode cL_agree 248 = .ok (.imul, 1) := by decide +kernel
theorem dL_agree_249 : decode cL_agree 249 = .ok (.iaload, 1) := by decide +kernel
theorem dL_agree_250 : decode cL_agree 250 = .ok (.if_icmp .gt 41, 3) := by decide +kernel
theorem dL_agree_253 : decode cL_agree 253 = .ok (.aload_n 1, 1) := by decide +kernel
theorem dL_agree_254 : decode cL_agree 254 = .ok (.aload 5, 2) := by decide +kernel
theorem dL_agree_256 : decode cL_agree 256 = .ok (.aload 7, 2) := by decide +kernel
theorem dL_agree_258 : decode cL_agree 258 = .ok (.iconst 0, 1) := by decide +kernel
theorem dL_agree_259 : decode cL_agree 259 = .ok (.iaload, 1) := by decide +kernel
theorem dL_agree_260 : decode cL_agree 260 = .ok (.aload 4, 2) := by decide +kernel
theorem dL_agree_262 : decode cL_agree 262 = .ok (.iload 11, 2) := by decide +kernel
theorem dL_agree_264 : decode cL_agree 264 = .ok (.iload 13, 2) := by decide +kernel
theorem dL_agree_266 : decode cL_agree 266 = .ok (.invokestatic 29, 3) := by decide +kernel
theorem dL_agree_269 : decode cL_agree 269 = .ok (.aload_n 1, 1) := by decide +kernel
theorem dL_agree_270 : decode cL_agree 270 = .ok (.bipush 7, 2) := by decide +kernel
theorem dL_agree_272 : decode cL_agree 272 = .ok (.iaload, 1) := by decide +kernel
theorem dL_agree_273 : decode cL_agree 273 = .ok (.if_icmp .gt 12, 3) := by decide +kernel
theorem dL_agree_276 : decode cL_agree 276 = .ok (.iload 9, 2) := by decide +kernel
theorem dL_agree_278 : decode cL_agree 278 = .ok (.iconst 1, 1) := by decide +kernel
theorem dL_agree_279 : decode cL_agree 279 = .ok (.iload 11, 2) := by decide +kernel
theorem dL_agree_281 : decode cL_agree 281 = .ok (.ishl, 1) := by decide +kernel
theorem dL_agree_282 : decode cL_agree 282 = .ok (.ior, 1) := by decide +kernel
theorem dL_agree_283 : decode cL_agree 283 = .ok (.istore 9, 2) := by decide +kernel
theorem dL_agree_285 : decode cL_agree 285 = .ok (.iinc 13 1, 3) := by decide +kernel
theorem dL_agree_288 : decode cL_agree 288 = .ok (.goto (-48), 3) := by decide +kernel
theorem dL_agree_291 : decode cL_agree 291 = .ok (.iinc 11 1, 3) := by decide +kernel
theorem dL_agree_294 : decode cL_agree 294 = .ok (.goto (-123), 3) := by decide +kernel
theorem dL_agree_297 : decode cL_agree 297 = .ok (.aload_n 0, 1) := by decide +kernel
theorem dL_agree_298 : decode cL_agree 298 = .ok (.iconst 0, 1) := by decide +kernel
theorem dL_agree_299 : decode cL_agree 299 = .ok (.invokevirtual 42, 3) := by decide +kernel
theorem dL_agree_302 : decode cL_agree 302 = .ok (.aload_n 1, 1) := by decide +kernel
theorem dL_agree_303 : decode cL_agree 303 = .ok (.iconst 0, 1) := by decide +kernel
theorem dL_agree_304 : decode cL_agree 304 = .ok (.iaload, 1) := by decide +kernel
theorem dL_agree_305 : decode cL_agree 305 = .ok (.if_icmp .ne 100, 3) := by decide +kernel
theorem dL_agree_308 : decode cL_agree 308 = .ok (.aload_n 0, 1) := by decide +kernel
theorem dL_agree_309 : decode cL_agree 309 = .ok (.iconst 2, 1) := by decide +kernel
theorem dL_agree_310 : decode cL_agree 310 = .ok (.invokevirtual 42, 3) := by decide +kernel
theorem dL_agree_313 : decode cL_agree 313 = .ok (.aload 7, 2) := by decide +kernel
theorem dL_agree_315 : decode cL_agree 315 = .ok (.iconst 0, 1) := by decide +kernel
theorem dL_agree_316 : decode cL_agree 316 = .ok (.iaload, 1) := by decide +kernel
theorem dL_agree_317 : decode cL_agree 317 = .ok (.if_icmp .ne 88, 3) := by decide +kernel
theorem dL_agree_320 : decode cL_agree 320 = .ok (.aload_n 0, 1) := by decide +kernel
theorem dL_agree_321 : decode cL_agree 321 = .ok (.iconst 4, 1) := by decide +kernel
theorem dL_agree_322 : decode cL_agree 322 = .ok (.invokevirtual 42, 3) := by decide +kernel
theorem dL_agree_325 : decode cL_agree 325 = .ok (.aload 7, 2) := by decide +kernel
theorem dL_agree_327 : decode cL_agree 327 = .ok (.iconst 1, 1) := by decide +kernel
theorem dL_agree_328 : decode cL_agree 328 = .ok (.iaload, 1) := by decide +kernel
theorem dL_agree_329 : decode cL_agree 329 = .ok (.if_icmp .ne 76, 3) := by decide +kernel
theorem dL_agree_332 : decode cL_agree 332 = .ok (.aload_n 0, 1) := by decide +kernel
theorem dL_agree_333 : decode cL_agree 333 = .ok (.iconst 5, 1) := by decide +kernel
theorem dL_agree_334 : decode cL_agree 334 = .ok (.invokevirtual 42, 3) := by decide +kernel
theorem dL_agree_337 : decode cL_agree 337 = .ok (.aload_n 1, 1) := by decide +kernel
theorem dL_agree_338 : decode cL_agree 338 = .ok (.iconst 1, 1) := by decide +kernel
theorem dL_agree_339 : decode cL_agree 339 = .ok (.iaload, 1) := by decide +kernel
theorem dL_agree_340 : decode cL_agree 340 = .ok (.if_icmp .ne 65, 3) := by decide +kernel
theorem dL_agree_343 : decode cL_agree 343 = .ok (.aload_n 0, 1) := by decide +kernel
theorem dL_agree_344 : decode cL_agree 344 = .ok (.bipush 7, 2) := by decide +kernel
theorem dL_agree_346 : decode cL_agree 346 = .ok (.invokevirtual 42, 3) := by decide +kernel
theorem dL_agree_349 : decode cL_agree 349 = .ok (.aload_n 1, 1) := by decide +kernel
theorem dL_agree_350 : decode cL_agree 350 = .ok (.iconst 1, 1) := by decide +kernel
theorem dL_agree_351 : decode cL_agree 351 = .ok (.iaload, 1) := by decide +kernel
theorem dL_agree_352 : decode cL_agree 352 = .ok (.iconst 2, 1) := by decide +kernel
theorem dL_agree_353 : decode cL_agree 353 = .ok (.if_icmp .ge 7, 3) := by decide +kernel
theorem dL_agree_356 : decode cL_agree 356 = .ok (.iconst (-1), 1) := by decide +kernel
theorem dL_agree_357 : decode cL_agree 357 = .ok (.goto 9, 3) := by decide +kernel
theorem dL_agree_360 : decode cL_agree 360 = .ok (.aload_n 1, 1) := by decide +kernel
theorem dL_agree_361 : decode cL_agree 361 = .ok (.aload 4, 2) := by decide +kernel
theorem dL_agree_363 : decode cL_agree 363 = .ok (.invokestatic 78, 3) := by decide +kernel
theorem dL_agree_366 : decode cL_agree 366 = .ok (.if_icmp .ne 39, 3) := by decide +kernel
theorem dL_agree_369 : decode cL_agree 369 = .ok (.aload_n 0, 1) := by decide +kernel
theorem dL_agree_370 : decode cL_agree 370 = .ok (.bipush 8, 2) := by decide +kernel
theorem dL_agree_372 : decode cL_agree 372 = .ok (.invokevirtual 42, 3) := by decide +kernel
theorem dL_agree_375 : decode cL_agree 375 = .ok (.aload_n 1, 1) := by decide +kernel
theorem dL_agree_376 : decode cL_agree 376 = .ok (.iconst 2, 1) := by decide +kernel
theorem dL_agree_377 : decode cL_agree 377 = .ok (.iaload, 1) := by decide +kernel
theorem dL_agree_378 : decode cL_agree 378 = .ok (.if_icmp .ne 27, 3) := by decide +kernel
theorem dL_agree_381 : decode cL_agree 381 = .ok (.aload_n 0, 1) := by decide +kernel
theorem dL_agree_382 : decode cL_agree 382 = .ok (.iconst 0, 1) := by decide +kernel
theorem dL_agree_383 : decode cL_agree 383 = .ok (.invokevirtual 96, 3) := by decide +kernel
theorem dL_agree_386 : decode cL_agree 386 = .ok (.iload 10, 2) := by decide +kernel
theorem dL_agree_388 : decode cL_agree 388 = .ok (.if_icmp .ne 17, 3) := by decide +kernel
theorem dL_agree_391 : decode cL_agree 391 = .ok (.aload_n 0, 1) := by decide +kernel
theorem dL_agree_392 : decode cL_agree 392 = .ok (.iconst 3, 1) := by decide +kernel
theorem dL_agree_393 : decode cL_agree 393 = .ok (.invokevirtual 96, 3) := by decide +kernel
theorem dL_agree_396 : decode cL_agree 396 = .ok (.iload 9, 2) := by decide +kernel
theorem dL_agree_398 : decode cL_agree 398 = .ok (.if_icmp .ne 7, 3) := by decide +kernel
theorem dL_agree_401 : decode cL_agree 401 = .ok (.iconst 1, 1) := by decide +kernel
theorem dL_agree_402 : decode cL_agree 402 = .ok (.goto 4, 3) := by decide +kernel
theorem dL_agree_405 : decode cL_agree 405 = .ok (.iconst 0, 1) := by decide +kernel
theorem dL_agree_406 : decode cL_agree 406 = .ok (.ireturn, 1) := by decide +kernel
theorem dL_law_0 : decode cL_law 0 = .ok (.new 43, 3) := by decide +kernel
theorem dL_law_3 : decode cL_law 3 = .ok (.dup, 1) := by decide +kernel
theorem dL_law_4 : decode cL_law 4 = .ok (.invokespecial 99, 3) := by decide +kernel
theorem dL_law_7 : decode cL_law 7 = .ok (.astore_n 1, 1) := by decide +kernel
theorem dL_law_8 : decode cL_law 8 = .ok (.bipush 8, 2) := by decide +kernel
theorem dL_law_10 : decode cL_law 10 = .ok (.newarray .int, 2) := by decide +kernel
theorem dL_law_12 : decode cL_law 12 = .ok (.astore_n 2, 1) := by decide +kernel
theorem dL_law_13 : decode cL_law 13 = .ok (.bipush 41, 2) := by decide +kernel
theorem dL_law_15 : decode cL_law 15 = .ok (.newarray .int, 2) := by decide +kernel
theorem dL_law_17 : decode cL_law 17 = .ok (.astore_n 3, 1) := by decide +kernel
theorem dL_law_18 : decode cL_law 18 = .ok (.bipush 41, 2) := by decide +kernel
theorem dL_law_20 : decode cL_law 20 = .ok (.newarray .int, 2) := by decide +kernel
theorem dL_law_22 : decode cL_law 22 = .ok (.astore 4, 2) := by decide +kernel
theorem dL_law_24 : decode cL_law 24 = .ok (.bipush 64, 2) := by decide +kernel
theorem dL_law_26 : decode cL_law 26 = .ok (.newarray .int, 2) := by decide +kernel
theorem dL_law_28 : decode cL_law 28 = .ok (.astore 5, 2) := by decide +kernel
theorem dL_law_30 : decode cL_law 30 = .ok (.aload_n 2, 1) := by decide +kernel
theorem dL_law_31 : decode cL_law 31 = .ok (.iconst 3, 1) := by decide +kernel
theorem dL_law_32 : decode cL_law 32 = .ok (.iconst 2, 1) := by decide +kernel
theorem dL_law_33 : decode cL_law 33 = .ok (.iastore, 1) := by decide +kernel
theorem dL_law_34 : decode cL_law 34 = .ok (.aload_n 2, 1) := by decide +kernel
theorem dL_law_35 : decode cL_law 35 = .ok (.iconst 4, 1) := by decide +kernel
theorem dL_law_36 : decode cL_law 36 = .ok (.iconst 2, 1) := by decide +kernel
theorem dL_law_37 : decode cL_law 37 = .ok (.iastore, 1) := by decide +kernel
theorem dL_law_38 : decode cL_law 38 = .ok (.aload_n 2, 1) := by decide +kernel
theorem dL_law_39 : decode cL_law 39 = .ok (.iconst 5, 1) := by decide +kernel
theorem dL_law_40 : decode cL_law 40 = .ok (.iconst 2, 1) := by decide +kernel
theorem dL_law_41 : decode cL_law 41 = .ok (.iastore, 1) := by decide +kernel
theorem dL_law_42 : decode cL_law 42 = .ok (.aload_n 2, 1) := by decide +kernel
theorem dL_law_43 : decode cL_law 43 = .ok (.bipush 6, 2) := by decide +kernel
theorem dL_law_45 : decode cL_law 45 = .ok (.iconst 3, 1) := by decide +kernel
theorem dL_law_46 : decode cL_law 46 = .ok (.iastore, 1) := by decide +kernel
theorem dL_law_47 : decode cL_law 47 = .ok (.aload_n 2, 1) := by decide +kernel
theorem dL_law_48 : decode cL_law 48 = .ok (.bipush 7, 2) := by decide +kernel
theorem dL_law_50 : decode cL_law 50 = .ok (.iconst 2, 1) := by decide +kernel
theorem dL_law_51 : decode cL_law 51 = .ok (.iastore, 1) := by decide +kernel
theorem dL_law_52 : decode cL_law 52 = .ok (.iconst 0, 1) := by decide +kernel
theorem dL_law_53 : decode cL_law 53 = .ok (.istore 6, 2) := by decide +kernel
theorem dL_law_55 : decode cL_law 55 = .ok (.iload 6, 2) := by decide +kernel
theorem dL_law_57 : decode cL_law 57 = .ok (.bipush 50, 2) := by decide +kernel
theorem dL_law_59 : decode cL_law 59 = .ok (.if_icmp .ge 55, 3) := by decide +kernel
theorem dL_law_62 : decode cL_law 62 = .ok (.aload_n 1, 1) := by decide +kernel
theorem dL_law_63 : decode cL_law 63 = .ok (.aload_n 0, 1) := by decide +kernel
theorem dL_law_64 : decode cL_law 64 = .ok (.iconst 2, 1) := by decide +kernel
theorem dL_law_65 : decode cL_law 65 = .ok (.iload 6, 2) := by decide +kernel
theorem dL_law_67 : decode cL_law 67 = .ok (.imul, 1) := by decide +kernel
theorem dL_law_68 : decode cL_law 68 = .ok (.invokestatic 100, 3) := by decide +kernel
theorem dL_law_71 : decode cL_law 71 = .ok (.aload_n 0, 1) := by decide +kernel
theorem dL_law_72 : decode cL_law 72 = .ok (.iconst 2, 1) := by decide +kernel
theorem dL_law_73 : decode cL_law 73 = .ok (.iload 6, 2) := by decide +kernel
theorem dL_law_75 : decode cL_law 75 = .ok (.imul, 1) := by decide +kernel
theorem dL_law_76 : decode cL_law 76 = .ok (.iconst 1, 1) := by decide +kernel
theorem dL_law_77 : decode cL_law 77 = .ok (.iadd, 1) := by decide +kernel
theorem dL_law_78 : decode cL_law 78 = .ok (.invokestatic 100, 3) := by decide +kernel
theorem dL_law_81 : decode cL_law 81 = .ok (.aload_n 2, 1) := by decide +kernel
theorem dL_law_82 : decode cL_law 82 = .ok (.aload_n 3, 1) := by decide +kernel
theorem dL_law_83 : decode cL_law 83 = .ok (.aload 4, 2) := by decide +kernel
theorem dL_law_85 : decode cL_law 85 = .ok (.aload 5, 2) := by decide +kernel
theorem dL_law_87 : decode cL_law 87 = .ok (.invokestatic 104, 3) := by decide +kernel
theorem dL_law_90 : decode cL_law 90 = .ok (.ifCond .eq 16, 3) := by decide +kernel
theorem dL_law_93 : decode cL_law 93 = .ok (.aload_n 1, 1) := by decide +kernel
theorem dL_law_94 : decode cL_law 94 = .ok (.aload_n 2, 1) := by decide +kernel
theorem dL_law_95 : decode cL_law 95 = .ok (.aload_n 3, 1) := by decide +kernel
theorem dL_law_96 : decode cL_law 96 = .ok (.aload 4, 2) := by decide +kernel
theorem dL_law_98 : decode cL_law 98 = .ok (.aload 5, 2) := by decide +kernel
theorem dL_law_100 : decode cL_law 100 = .ok (.invokestatic 108, 3) := by decide +kernel
theorem dL_law_103 : decode cL_law 103 = .ok (.ifCond .ne 5, 3) := by decide +kernel
theorem dL_law_106 : decode cL_law 106 = .ok (.iconst 0, 1) := by decide +kernel
theorem dL_law_107 : decode cL_law 107 = .ok (.ireturn, 1) := by decide +kernel
theorem dL_law_108 : decode cL_law 108 = .ok (.iinc 6 1, 3) := by decide +kernel
theorem dL_law_111 : decode cL_law 111 = .ok (.goto (-56), 3) := by decide +kernel
theorem dL_law_114 : decode cL_law 114 = .ok (.iconst 1, 1) := by decide +kernel
theorem dL_law_115 : decode cL_law 115 = .ok (.ireturn, 1) := by decide +kernel
