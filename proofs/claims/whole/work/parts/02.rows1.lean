theorem dX7_digest_54 : decode cX7_digest 54 = .ok (.goto (-21), 3) := by decide +kernel
theorem dX7_digest_57 : decode cX7_digest 57 = .ok (.aload_n 0, 1) := by decide +kernel
theorem dX7_digest_58 : decode cX7_digest 58 = .ok (.lload_n 1, 1) := by decide +kernel
theorem dX7_digest_59 : decode cX7_digest 59 = .ok (.invokevirtual 317, 3) := by decide +kernel
theorem dX7_digest_62 : decode cX7_digest 62 = .ok (.lstore_n 1, 1) := by decide +kernel
theorem dX7_digest_63 : decode cX7_digest 63 = .ok (.aload_n 0, 1) := by decide +kernel
theorem dX7_digest_64 : decode cX7_digest 64 = .ok (.lload_n 1, 1) := by decide +kernel
theorem dX7_digest_65 : decode cX7_digest 65 = .ok (.invokevirtual 321, 3) := by decide +kernel
theorem dX7_digest_68 : decode cX7_digest 68 = .ok (.lstore_n 1, 1) := by decide +kernel
theorem dX7_digest_69 : decode cX7_digest 69 = .ok (.iconst 0, 1) := by decide +kernel
theorem dX7_digest_70 : decode cX7_digest 70 = .ok (.istore_n 3, 1) := by decide +kernel
theorem dX7_digest_71 : decode cX7_digest 71 = .ok (.iload_n 3, 1) := by decide +kernel
theorem dX7_digest_72 : decode cX7_digest 72 = .ok (.iconst 4, 1) := by decide +kernel
theorem dX7_digest_73 : decode cX7_digest 73 = .ok (.if_icmp .gt 22, 3) := by decide +kernel
theorem dX7_digest_76 : decode cX7_digest 76 = .ok (.ldc2_w 309, 3) := by decide +kernel
theorem dX7_digest_79 : decode cX7_digest 79 = .ok (.lload_n 1, 1) := by decide +kernel
theorem dX7_digest_80 : decode cX7_digest 80 = .ok (.lmul, 1) := by decide +kernel
theorem dX7_digest_81 : decode cX7_digest 81 = .ok (.aload_n 0, 1) := by decide +kernel
theorem dX7_digest_82 : decode cX7_digest 82 = .ok (.iload_n 3, 1) := by decide +kernel
theorem dX7_digest_83 : decode cX7_digest 83 = .ok (.invokevirtual 324, 3) := by decide +kernel
theorem dX7_digest_86 : decode cX7_digest 86 = .ok (.i2l, 1) := by decide +kernel
theorem dX7_digest_87 : decode cX7_digest 87 = .ok (.ladd, 1) := by decide +kernel
theorem dX7_digest_88 : decode cX7_digest 88 = .ok (.lstore_n 1, 1) := by decide +kernel
theorem dX7_digest_89 : decode cX7_digest 89 = .ok (.iinc 3 1, 3) := by decide +kernel
theorem dX7_digest_92 : decode cX7_digest 92 = .ok (.goto (-21), 3) := by decide +kernel
theorem dX7_digest_95 : decode cX7_digest 95 = .ok (.ldc2_w 309, 3) := by decide +kernel
theorem dX7_digest_98 : decode cX7_digest 98 = .ok (.lload_n 1, 1) := by decide +kernel
theorem dX7_digest_99 : decode cX7_digest 99 = .ok (.lmul, 1) := by decide +kernel
theorem dX7_digest_100 : decode cX7_digest 100 = .ok (.aload_n 0, 1) := by decide +kernel
theorem dX7_digest_101 : decode cX7_digest 101 = .ok (.bipush 31, 2) := by decide +kernel
theorem dX7_digest_103 : decode cX7_digest 103 = .ok (.iconst 0, 1) := by decide +kernel
theorem dX7_digest_104 : decode cX7_digest 104 = .ok (.invokevirtual 327, 3) := by decide +kernel
theorem dX7_digest_107 : decode cX7_digest 107 = .ok (.i2l, 1) := by decide +kernel
theorem dX7_digest_108 : decode cX7_digest 108 = .ok (.ladd, 1) := by decide +kernel
theorem dX7_digest_109 : decode cX7_digest 109 = .ok (.lstore_n 1, 1) := by decide +kernel
theorem dX7_digest_110 : decode cX7_digest 110 = .ok (.ldc2_w 309, 3) := by decide +kernel
theorem dX7_digest_113 : decode cX7_digest 113 = .ok (.lload_n 1, 1) := by decide +kernel
theorem dX7_digest_114 : decode cX7_digest 114 = .ok (.lmul, 1) := by decide +kernel
theorem dX7_digest_115 : decode cX7_digest 115 = .ok (.aload_n 0, 1) := by decide +kernel
theorem dX7_digest_116 : decode cX7_digest 116 = .ok (.invokevirtual 330, 3) := by decide +kernel
theorem dX7_digest_119 : decode cX7_digest 119 = .ok (.i2l, 1) := by decide +kernel
theorem dX7_digest_120 : decode cX7_digest 120 = .ok (.ladd, 1) := by decide +kernel
theorem dX7_digest_121 : decode cX7_digest 121 = .ok (.lstore_n 1, 1) := by decide +kernel
theorem dX7_digest_122 : decode cX7_digest 122 = .ok (.ldc2_w 309, 3) := by decide +kernel
theorem dX7_digest_125 : decode cX7_digest 125 = .ok (.lload_n 1, 1) := by decide +kernel
theorem dX7_digest_126 : decode cX7_digest 126 = .ok (.lmul, 1) := by decide +kernel
theorem dX7_digest_127 : decode cX7_digest 127 = .ok (.aload_n 0, 1) := by decide +kernel
theorem dX7_digest_128 : decode cX7_digest 128 = .ok (.invokevirtual 333, 3) := by decide +kernel
theorem dX7_digest_131 : decode cX7_digest 131 = .ok (.i2l, 1) := by decide +kernel
theorem dX7_digest_132 : decode cX7_digest 132 = .ok (.ladd, 1) := by decide +kernel
theorem dX7_digest_133 : decode cX7_digest 133 = .ok (.lstore_n 1, 1) := by decide +kernel
theorem dX7_digest_134 : decode cX7_digest 134 = .ok (.ldc2_w 309, 3) := by decide +kernel
theorem dX7_digest_137 : decode cX7_digest 137 = .ok (.lload_n 1, 1) := by decide +kernel
theorem dX7_digest_138 : decode cX7_digest 138 = .ok (.lmul, 1) := by decide +kernel
theorem dX7_digest_139 : decode cX7_digest 139 = .ok (.aload_n 0, 1) := by decide +kernel
theorem dX7_digest_140 : decode cX7_digest 140 = .ok (.invokevirtual 336, 3) := by decide +kernel
theorem dX7_digest_143 : decode cX7_digest 143 = .ok (.i2l, 1) := by decide +kernel
theorem dX7_digest_144 : decode cX7_digest 144 = .ok (.ladd, 1) := by decide +kernel
theorem dX7_digest_145 : decode cX7_digest 145 = .ok (.lstore_n 1, 1) := by decide +kernel
theorem dX7_digest_146 : decode cX7_digest 146 = .ok (.ldc2_w 309, 3) := by decide +kernel
theorem dX7_digest_149 : decode cX7_digest 149 = .ok (.lload_n 1, 1) := by decide +kernel
theorem dX7_digest_150 : decode cX7_digest 150 = .ok (.lmul, 1) := by decide +kernel
theorem dX7_digest_151 : decode cX7_digest 151 = .ok (.aload_n 0, 1) := by decide +kernel
theorem dX7_digest_152 : decode cX7_digest 152 = .ok (.invokevirtual 339, 3) := by decide +kernel
theorem dX7_digest_155 : decode cX7_digest 155 = .ok (.invokestatic 343, 3) := by decide +kernel
theorem dX7_digest_158 : decode cX7_digest 158 = .ok (.ladd, 1) := by decide +kernel
theorem dX7_digest_159 : decode cX7_digest 159 = .ok (.lstore_n 1, 1) := by decide +kernel
theorem dX7_digest_160 : decode cX7_digest 160 = .ok (.ldc2_w 309, 3) := by decide +kernel
theorem dX7_digest_163 : decode cX7_digest 163 = .ok (.lload_n 1, 1) := by decide +kernel
theorem dX7_digest_164 : decode cX7_digest 164 = .ok (.lmul, 1) := by decide +kernel
theorem dX7_digest_165 : decode cX7_digest 165 = .ok (.aload_n 0, 1) := by decide +kernel
theorem dX7_digest_166 : decode cX7_digest 166 = .ok (.getfield 28, 3) := by decide +kernel
theorem dX7_digest_169 : decode cX7_digest 169 = .ok (.invokevirtual 150, 3) := by decide +kernel
theorem dX7_digest_172 : decode cX7_digest 172 = .ok (.i2l, 1) := by decide +kernel
theorem dX7_digest_173 : decode cX7_digest 173 = .ok (.ladd, 1) := by decide +kernel
theorem dX7_digest_174 : decode cX7_digest 174 = .ok (.lstore_n 1, 1) := by decide +kernel
theorem dX7_digest_175 : decode cX7_digest 175 = .ok (.iconst 0, 1) := by decide +kernel
theorem dX7_digest_176 : decode cX7_digest 176 = .ok (.istore_n 3, 1) := by decide +kernel
theorem dX7_digest_177 : decode cX7_digest 177 = .ok (.iload_n 3, 1) := by decide +kernel
theorem dX7_digest_178 : decode cX7_digest 178 = .ok (.aload_n 0, 1) := by decide +kernel
theorem dX7_digest_179 : decode cX7_digest 179 = .ok (.getfield 28, 3) := by decide +kernel
theorem dX7_digest_182 : decode cX7_digest 182 = .ok (.invokevirtual 150, 3) := by decide +kernel
theorem dX7_digest_185 : decode cX7_digest 185 = .ok (.if_icmp .ge 25, 3) := by decide +kernel
theorem dX7_digest_188 : decode cX7_digest 188 = .ok (.ldc2_w 309, 3) := by decide +kernel
theorem dX7_digest_191 : decode cX7_digest 191 = .ok (.lload_n 1, 1) := by decide +kernel
theorem dX7_digest_192 : decode cX7_digest 192 = .ok (.lmul, 1) := by decide +kernel
theorem dX7_digest_193 : decode cX7_digest 193 = .ok (.aload_n 0, 1) := by decide +kernel
theorem dX7_digest_194 : decode cX7_digest 194 = .ok (.getfield 28, 3) := by decide +kernel
theorem dX7_digest_197 : decode cX7_digest 197 = .ok (.iload_n 3, 1) := by decide +kernel
theorem dX7_digest_198 : decode cX7_digest 198 = .ok (.invokevirtual 180, 3) := by decide +kernel
theorem dX7_digest_201 : decode cX7_digest 201 = .ok (.i2l, 1) := by decide +kernel
theorem dX7_digest_202 : decode cX7_digest 202 = .ok (.ladd, 1) := by decide +kernel
theorem dX7_digest_203 : decode cX7_digest 203 = .ok (.lstore_n 1, 1) := by decide +kernel
theorem dX7_digest_204 : decode cX7_digest 204 = .ok (.iinc 3 1, 3) := by decide +kernel
theorem dX7_digest_207 : decode cX7_digest 207 = .ok (.goto (-30), 3) := by decide +kernel
theorem dX7_digest_210 : decode cX7_digest 210 = .ok (.lload_n 1, 1) := by decide +kernel
theorem dX7_digest_211 : decode cX7_digest 211 = .ok (.lreturn, 1) := by decide +kernel
theorem dX7_lookAgain_0 : decode cX7_lookAgain 0 = .ok (.aload_n 0, 1) := by decide +kernel
theorem dX7_lookAgain_1 : decode cX7_lookAgain 1 = .ok (.getfield 35, 3) := by decide +kernel
theorem dX7_lookAgain_4 : decode cX7_lookAgain 4 = .ok (.aload_n 0, 1) := by decide +kernel
theorem dX7_lookAgain_5 : decode cX7_lookAgain 5 = .ok (.getfield 10, 3) := by decide +kernel
theorem dX7_lookAgain_8 : decode cX7_lookAgain 8 = .ok (.getfield 73, 3) := by decide +kernel
theorem dX7_lookAgain_11 : decode cX7_lookAgain 11 = .ok (.aload_n 0, 1) := by decide +kernel
theorem dX7_lookAgain_12 : decode cX7_lookAgain 12 = .ok (.getfield 10, 3) := by decide +kernel
theorem dX7_lookAgain_15 : decode cX7_lookAgain 15 = .ok (.invokevirtual 296, 3) := by decide +kernel
theorem dX7_lookAgain_18 : decode cX7_lookAgain 18 = .ok (.return_, 1) := by decide +kernel
theorem dX7_isCommand_0 : decode cX7_isCommand 0 = .ok (.iload_n 1, 1) := by decide +kernel
theorem dX7_isCommand_1 : decode cX7_isCommand 1 = .ok (.ifCond .lt 21, 3) := by decide +kernel
theorem dX7_isCommand_4 : decode cX7_isCommand 4 = .ok (.iload_n 1, 1) := by decide +kernel
theorem dX7_isCommand_5 : decode cX7_isCommand 5 = .ok (.aload_n 0, 1) := by decide +kernel
theorem dX7_isCommand_6 : decode cX7_isCommand 6 = .ok (.getfield 10, 3) := by decide +kernel
theorem dX7_isCommand_9 : decode cX7_isCommand 9 = .ok (.getfield 151, 3) := by decide +kernel
theorem dX7_isCommand_12 : decode cX7_isCommand 12 = .ok (.invokevirtual 155, 3) := by decide +kernel
theorem dX7_isCommand_15 : decode cX7_isCommand 15 = .ok (.if_icmp .ge 7, 3) := by decide +kernel
theorem dX7_isCommand_18 : decode cX7_isCommand 18 = .ok (.iconst 1, 1) := by decide +kernel
theorem dX7_isCommand_19 : decode cX7_isCommand 19 = .ok (.goto 4, 3) := by decide +kernel
theorem dX7_isCommand_22 : decode cX7_isCommand 22 = .ok (.iconst 0, 1) := by decide +kernel
theorem dX7_isCommand_23 : decode cX7_isCommand 23 = .ok (.ireturn, 1) := by decide +kernel
theorem dX7_isSetting_0 : decode cX7_isSetting 0 = .ok (.iload_n 0, 1) := by decide +kernel
theorem dX7_isSetting_1 : decode cX7_isSetting 1 = .ok (.ifCond .lt 12, 3) := by decide +kernel
theorem dX7_isSetting_4 : decode cX7_isSetting 4 = .ok (.iload_n 0, 1) := by decide +kernel
theorem dX7_isSetting_5 : decode cX7_isSetting 5 = .ok (.iconst 5, 1) := by decide +kernel
theorem dX7_isSetting_6 : decode cX7_isSetting 6 = .ok (.if_icmp .ge 7, 3) := by decide +kernel
theorem dX7_isSetting_9 : decode cX7_isSetting 9 = .ok (.iconst 1, 1) := by decide +kernel
theorem dX7_isSetting_10 : decode cX7_isSetting 10 = .ok (.goto 4, 3) := by decide +kernel
theorem dX7_isSetting_13 : decode cX7_isSetting 13 = .ok (.iconst 0, 1) := by decide +kernel
theorem dX7_isSetting_14 : decode cX7_isSetting 14 = .ok (.ireturn, 1) := by decide +kernel
theorem dX7_isDirection_0 : decode cX7_isDirection 0 = .ok (.iload_n 0, 1) := by decide +kernel
theorem dX7_isDirection_1 : decode cX7_isDirection 1 = .ok (.ifCond .lt 13, 3) := by decide +kernel
theorem dX7_isDirection_4 : decode cX7_isDirection 4 = .ok (.iload_n 0, 1) := by decide +kernel
theorem dX7_isDirection_5 : decode cX7_isDirection 5 = .ok (.bipush 8, 2) := by decide +kernel
theorem dX7_isDirection_7 : decode cX7_isDirection 7 = .ok (.if_icmp .ge 7, 3) := by decide +kernel
theorem dX7_isDirection_10 : decode cX7_isDirection 10 = .ok (.iconst 1, 1) := by decide +kernel
theorem dX7_isDirection_11 : decode cX7_isDirection 11 = .ok (.goto 4, 3) := by decide +kernel
theorem dX7_isDirection_14 : decode cX7_isDirection 14 = .ok (.iconst 0, 1) := by decide +kernel
theorem dX7_isDirection_15 : decode cX7_isDirection 15 = .ok (.ireturn, 1) := by decide +kernel
theorem dX7_isOnLattice_0 : decode cX7_isOnLattice 0 = .ok (.iload_n 0, 1) := by decide +kernel
theorem dX7_isOnLattice_1 : decode cX7_isOnLattice 1 = .ok (.ifCond .lt 23, 3) := by decide +kernel
theorem dX7_isOnLattice_4 : decode cX7_isOnLattice 4 = .ok (.iload_n 0, 1) := by decide +kernel
theorem dX7_isOnLattice_5 : decode cX7_isOnLattice 5 = .ok (.bipush 31, 2) := by decide +kernel
theorem dX7_isOnLattice_7 : decode cX7_isOnLattice 7 = .ok (.if_icmp .gt 17, 3) := by decide +kernel
theorem dX7_isOnLattice_10 : decode cX7_isOnLattice 10 = .ok (.iload_n 1, 1) := by decide +kernel
theorem dX7_isOnLattice_11 : decode cX7_isOnLattice 11 = .ok (.ifCond .lt 13, 3) := by decide +kernel
theorem dX7_isOnLattice_14 : decode cX7_isOnLattice 14 = .ok (.iload_n 1, 1) := by decide +kernel
theorem dX7_isOnLattice_15 : decode cX7_isOnLattice 15 = .ok (.bipush 31, 2) := by decide +kernel
theorem dX7_isOnLattice_17 : decode cX7_isOnLattice 17 = .ok (.if_icmp .gt 7, 3) := by decide +kernel
theorem dX7_isOnLattice_20 : decode cX7_isOnLattice 20 = .ok (.iconst 1, 1) := by decide +kernel
theorem dX7_isOnLattice_21 : decode cX7_isOnLattice 21 = .ok (.goto 4, 3) := by decide +kernel
theorem dX7_isOnLattice_24 : decode cX7_isOnLattice 24 = .ok (.iconst 0, 1) := by decide +kernel
theorem dX7_isOnLattice_25 : decode cX7_isOnLattice 25 = .ok (.ireturn, 1) := by decide +kernel
theorem dX7_of_0 : decode cX7_of 0 = .ok (.iload_n 1, 1) := by decide +kernel
theorem dX7_of_1 : decode cX7_of 1 = .ok (.ifCond .lt 15, 3) := by decide +kernel
theorem dX7_of_4 : decode cX7_of 4 = .ok (.iload_n 1, 1) := by decide +kernel
theorem dX7_of_5 : decode cX7_of 5 = .ok (.aload_n 0, 1) := by decide +kernel
theorem dX7_of_6 : decode cX7_of 6 = .ok (.arraylength, 1) := by decide +kernel
theorem dX7_of_7 : decode cX7_of 7 = .ok (.if_icmp .ge 9, 3) := by decide +kernel
theorem dX7_of_10 : decode cX7_of 10 = .ok (.aload_n 0, 1) := by decide +kernel
theorem dX7_of_11 : decode cX7_of 11 = .ok (.iload_n 1, 1) := by decide +kernel
theorem dX7_of_12 : decode cX7_of 12 = .ok (.iaload, 1) := by decide +kernel
theorem dX7_of_13 : decode cX7_of 13 = .ok (.goto 4, 3) := by decide +kernel
theorem dX7_of_16 : decode cX7_of 16 = .ok (.iconst 0, 1) := by decide +kernel
theorem dX7_of_17 : decode cX7_of 17 = .ok (.ireturn, 1) := by decide +kernel
theorem dX7_stepsWithin_0 : decode cX7_stepsWithin 0 = .ok (.iload_n 1, 1) := by decide +kernel
theorem dX7_stepsWithin_1 : decode cX7_stepsWithin 1 = .ok (.ifCond .ne 6, 3) := by decide +kernel
theorem dX7_stepsWithin_4 : decode cX7_stepsWithin 4 = .ok (.bipush 31, 2) := by decide +kernel
theorem dX7_stepsWithin_6 : decode cX7_stepsWithin 6 = .ok (.ireturn, 1) := by decide +kernel
theorem dX7_stepsWithin_7 : decode cX7_stepsWithin 7 = .ok (.iload_n 1, 1) := by decide +kernel
theorem dX7_stepsWithin_8 : decode cX7_stepsWithin 8 = .ok (.ifCond .le 10, 3) := by decide +kernel
theorem dX7_stepsWithin_11 : decode cX7_stepsWithin 11 = .ok (.bipush 31, 2) := by decide +kernel
theorem dX7_stepsWithin_13 : decode cX7_stepsWithin 13 = .ok (.iload_n 0, 1) := by decide +kernel
theorem dX7_stepsWithin_14 : decode cX7_stepsWithin 14 = .ok (.isub, 1) := by decide +kernel
theorem dX7_stepsWithin_15 : decode cX7_stepsWithin 15 = .ok (.goto 4, 3) := by decide +kernel
theorem dX7_stepsWithin_18 : decode cX7_stepsWithin 18 = .ok (.iload_n 0, 1) := by decide +kernel
theorem dX7_stepsWithin_19 : decode cX7_stepsWithin 19 = .ok (.ireturn, 1) := by decide +kernel
theorem dX7_canLayTurned_0 : decode cX7_canLayTurned 0 = .ok (.aload_n 0, 1) := by decide +kernel
theorem dX7_canLayTurned_1 : decode cX7_canLayTurned 1 = .ok (.getfield 10, 3) := by decide +kernel
theorem dX7_canLayTurned_4 : decode cX7_canLayTurned 4 = .ok (.getfield 73, 3) := by decide +kernel
theorem dX7_canLayTurned_7 : decode cX7_canLayTurned 7 = .ok (.astore_n 2, 1) := by decide +kernel
theorem dX7_canLayTurned_8 : decode cX7_canLayTurned 8 = .ok (.aload_n 2, 1) := by decide +kernel
theorem dX7_canLayTurned_9 : decode cX7_canLayTurned 9 = .ok (.iconst 0, 1) := by decide +kernel
theorem dX7_canLayTurned_10 : decode cX7_canLayTurned 10 = .ok (.invokevirtual 102, 3) := by decide +kernel
theorem dX7_canLayTurned_13 : decode cX7_canLayTurned 13 = .ok (.istore_n 3, 1) := by decide +kernel
theorem dX7_canLayTurned_14 : decode cX7_canLayTurned 14 = .ok (.aload_n 2, 1) := by decide +kernel
theorem dX7_canLayTurned_15 : decode cX7_canLayTurned 15 = .ok (.iconst 0, 1) := by decide +kernel
theorem dX7_canLayTurned_16 : decode cX7_canLayTurned 16 = .ok (.invokevirtual 106, 3) := by decide +kernel
theorem dX7_canLayTurned_19 : decode cX7_canLayTurned 19 = .ok (.istore 4, 2) := by decide +kernel
theorem dX7_canLayTurned_21 : decode cX7_canLayTurned 21 = .ok (.aload_n 0, 1) := by decide +kernel
theorem dX7_canLayTurned_22 : decode cX7_canLayTurned 22 = .ok (.getfield 49, 3) := by decide +kernel
theorem dX7_canLayTurned_25 : decode cX7_canLayTurned 25 = .ok (.iconst 0, 1) := by decide +kernel
theorem dX7_canLayTurned_26 : decode cX7_canLayTurned 26 = .ok (.invokevirtual 133, 3) := by decide +kernel
theorem dX7_canLayTurned_29 : decode cX7_canLayTurned 29 = .ok (.iconst 0, 1) := by decide +kernel
theorem dX7_canLayTurned_30 : decode cX7_canLayTurned 30 = .ok (.istore 5, 2) := by decide +kernel
theorem dX7_canLayTurned_32 : decode cX7_canLayTurned 32 = .ok (.iload 5, 2) := by decide +kernel
theorem dX7_canLayTurned_34 : decode cX7_canLayTurned 34 = .ok (.aload_n 2, 1) := by decide +kernel
theorem dX7_canLayTurned_35 : decode cX7_canLayTurned 35 = .ok (.invokevirtual 76, 3) := by decide +kernel
theorem dX7_canLayTurned_38 : decode cX7_canLayTurned 38 = .ok (.if_icmp .ge 102, 3) := by decide +kernel
theorem dX7_canLayTurned_41 : decode cX7_canLayTurned 41 = .ok (.aload_n 2, 1) := by decide +kernel
theorem dX7_canLayTurned_42 : decode cX7_canLayTurned 42 = .ok (.iload 5, 2) := by decide +kernel
theorem dX7_canLayTurned_44 : decode cX7_canLayTurned 44 = .ok (.invokevirtual 347, 3) := by decide +kernel
theorem dX7_canLayTurned_47 : decode cX7_canLayTurned 47 = .ok (.ifCond .ne 5, 3) := by decide +kernel
theorem dX7_canLayTurned_50 : decode cX7_canLayTurned 50 = .ok (.iconst 0, 1) := by decide +kernel
theorem dX7_canLayTurned_51 : decode cX7_canLayTurned 51 = .ok (.ireturn, 1) := by decide +kernel
theorem dX7_canLayTurned_52 : decode cX7_canLayTurned 52 = .ok (.aload_n 2, 1) := by decide +kernel
theorem dX7_canLayTurned_53 : decode cX7_canLayTurned 53 = .ok (.iload 5, 2) := by decide +kernel
theorem dX7_canLayTurned_55 : decode cX7_canLayTurned 55 = .ok (.invokevirtual 235, 3) := by decide +kernel
theorem dX7_canLayTurned_58 : decode cX7_canLayTurned 58 = .ok (.istore 6, 2) := by decide +kernel
theorem dX7_canLayTurned_60 : decode cX7_canLayTurned 60 = .ok (.iload 6, 2) := by decide +kernel
theorem dX7_canLayTurned_62 : decode cX7_canLayTurned 62 = .ok (.iconst (-1), 1) := by decide +kernel
theorem dX7_canLayTurned_63 : decode cX7_canLayTurned 63 = .ok (.if_icmp .eq 50, 3) := by decide +kernel
theorem dX7_canLayTurned_66 : decode cX7_canLayTurned 66 = .ok (.iload 6, 2) := by decide +kernel
theorem dX7_canLayTurned_68 : decode cX7_canLayTurned 68 = .ok (.iload_n 1, 1) := by decide +kernel
theorem dX7_canLayTurned_69 : decode cX7_canLayTurned 69 = .ok (.iadd, 1) := by decide +kernel
theorem dX7_canLayTurned_70 : decode cX7_canLayTurned 70 = .ok (.bipush 8, 2) := by decide +kernel
theorem dX7_canLayTurned_72 : decode cX7_canLayTurned 72 = .ok (.irem, 1) := by decide +kernel
theorem dX7_canLayTurned_73 : decode cX7_canLayTurned 73 = .ok (.istore 7, 2) := by decide +kernel
theorem dX7_canLayTurned_75 : decode cX7_canLayTurned 75 = .ok (.iload_n 3, 1) := by decide +kernel
theorem dX7_canLayTurned_76 : decode cX7_canLayTurned 76 = .ok (.getstatic 109, 3) := by decide +kernel
theorem dX7_canLayTurned_79 : decode cX7_canLayTurned 79 = .ok (.iload 7, 2) := by decide +kernel
theorem dX7_canLayTurned_81 : decode cX7_canLayTurned 81 = .ok (.invokestatic 113, 3) := by decide +kernel
theorem dX7_canLayTurned_84 : decode cX7_canLayTurned 84 = .ok (.aload_n 2, 1) := by decide +kernel
theorem dX7_canLayTurned_85 : decode cX7_canLayTurned 85 = .ok (.iload 5, 2) := by decide +kernel
theorem dX7_canLayTurned_87 : decode cX7_canLayTurned 87 = .ok (.invokevirtual 238, 3) := by decide +kernel
theorem dX7_canLayTurned_90 : decode cX7_canLayTurned 90 = .ok (.imul, 1) := by decide +kernel
theorem dX7_canLayTurned_91 : decode cX7_canLayTurned 91 = .ok (.iadd, 1) := by decide +kernel
theorem dX7_canLayTurned_92 : decode cX7_canLayTurned 92 = .ok (.istore_n 3, 1) := by decide +kernel
theorem dX7_canLayTurned_93 : decode cX7_canLayTurned 93 = .ok (.iload 4, 2) := by decide +kernel
theorem dX7_canLayTurned_95 : decode cX7_canLayTurned 95 = .ok (.getstatic 117, 3) := by decide +kernel
theorem dX7_canLayTurned_98 : decode cX7_canLayTurned 98 = .ok (.iload 7, 2) := by decide +kernel
theorem dX7_canLayTurned_100 : decode cX7_canLayTurned 100 = .ok (.invokestatic 113, 3) := by decide +kernel
theorem dX7_canLayTurned_103 : decode cX7_canLayTurned 103 = .ok (.aload_n 2, 1) := by decide +kernel
theorem dX7_canLayTurned_104 : decode cX7_canLayTurned 104 = .ok (.iload 5, 2) := by decide +kernel
theorem dX7_canLayTurned_106 : decode cX7_canLayTurned 106 = .ok (.invokevirtual 238, 3) := by decide +kernel
theorem dX7_canLayTurned_109 : decode cX7_canLayTurned 109 = .ok (.imul, 1) := by decide +kernel
theorem dX7_canLayTurned_110 : decode cX7_canLayTurned 110 = .ok (.iadd, 1) := by decide +kernel
theorem dX7_canLayTurned_111 : decode cX7_canLayTurned 111 = .ok (.istore 4, 2) := by decide +kernel
theorem dX7_canLayTurned_113 : decode cX7_canLayTurned 113 = .ok (.iload_n 3, 1) := by decide +kernel
theorem dX7_canLayTurned_114 : decode cX7_canLayTurned 114 = .ok (.iload 4, 2) := by decide +kernel
theorem dX7_canLayTurned_116 : decode cX7_canLayTurned 116 = .ok (.invokestatic 62, 3) := by decide +kernel
theorem dX7_canLayTurned_119 : decode cX7_canLayTurned 119 = .ok (.ifCond .ne 5, 3) := by decide +kernel
theorem dX7_canLayTurned_122 : decode cX7_canLayTurned 122 = .ok (.iconst 0, 1) := by decide +kernel
theorem dX7_canLayTurned_123 : decode cX7_canLayTurned 123 = .ok (.ireturn, 1) := by decide +kernel
theorem dX7_canLayTurned_124 : decode cX7_canLayTurned 124 = .ok (.aload_n 0, 1) := by decide +kernel
theorem dX7_canLayTurned_125 : decode cX7_canLayTurned 125 = .ok (.getfield 49, 3) := by decide +kernel
theorem dX7_canLayTurned_128 : decode cX7_canLayTurned 128 = .ok (.iload_n 3, 1) := by decide +kernel
theorem dX7_canLayTurned_129 : decode cX7_canLayTurned 129 = .ok (.iload 4, 2) := by decide +kernel
theorem dX7_canLayTurned_131 : decode cX7_canLayTurned 131 = .ok (.invokevirtual 89, 3) := by decide +kernel
theorem dX7_canLayTurned_134 : decode cX7_canLayTurned 134 = .ok (.iinc 5 1, 3) := by decide +kernel
theorem dX7_canLayTurned_137 : decode cX7_canLayTurned 137 = .ok (.goto (-105), 3) := by decide +kernel
theorem dX7_canLayTurned_140 : decode cX7_canLayTurned 140 = .ok (.iconst 1, 1) := by decide +kernel
theorem dX7_canLayTurned_141 : decode cX7_canLayTurned 141 = .ok (.ireturn, 1) := by decide +kernel
theorem dX7_isTooNear_0 : decode cX7_isTooNear 0 = .ok (.iconst 0, 1) := by decide +kernel
theorem dX7_isTooNear_1 : decode cX7_isTooNear 1 = .ok (.istore_n 2, 1) := by decide +kernel
theorem dX7_isTooNear_2 : decode cX7_isTooNear 2 = .ok (.iload_n 2, 1) := by decide +kernel
theorem dX7_isTooNear_3 : decode cX7_isTooNear 3 = .ok (.aload_n 0, 1) := by decide +kernel
theorem dX7_isTooNear_4 : decode cX7_isTooNear 4 = .ok (.getfield 10, 3) := by decide +kernel
theorem dX7_isTooNear_7 : decode cX7_isTooNear 7 = .ok (.getfield 151, 3) := by decide +kernel
theorem dX7_isTooNear_10 : decode cX7_isTooNear 10 = .ok (.invokevirtual 155, 3) := by decide +kernel
theorem dX7_isTooNear_13 : decode cX7_isTooNear 13 = .ok (.if_icmp .ge 60, 3) := by decide +kernel
theorem dX7_isTooNear_16 : decode cX7_isTooNear 16 = .ok (.aload_n 0, 1) := by decide +kernel
theorem dX7_isTooNear_17 : decode cX7_isTooNear 17 = .ok (.getfield 42, 3) := by decide +kernel
theorem dX7_isTooNear_20 : decode cX7_isTooNear 20 = .ok (.aload_n 1, 1) := by decide +kernel
theorem dX7_isTooNear_21 : decode cX7_isTooNear 21 = .ok (.aload_n 0, 1) := by decide +kernel
theorem dX7_isTooNear_22 : decode cX7_isTooNear 22 = .ok (.getfield 10, 3) := by decide +kernel
theorem dX7_isTooNear_25 : decode cX7_isTooNear 25 = .ok (.getfield 151, 3) := by decide +kernel
theorem dX7_isTooNear_28 : decode cX7_isTooNear 28 = .ok (.iload_n 2, 1) := by decide +kernel
theorem dX7_isTooNear_29 : decode cX7_isTooNear 29 = .ok (.invokevirtual 257, 3) := by decide +kernel
theorem dX7_isTooNear_32 : decode cX7_isTooNear 32 = .ok (.aload_n 0, 1) := by decide +kernel
theorem dX7_isTooNear_33 : decode cX7_isTooNear 33 = .ok (.getfield 10, 3) := by decide +kernel
theorem dX7_isTooNear_36 : decode cX7_isTooNear 36 = .ok (.getfield 209, 3) := by decide +kernel
theorem dX7_isTooNear_39 : decode cX7_isTooNear 39 = .ok (.invokevirtual 263, 3) := by decide +kernel
theorem dX7_isTooNear_42 : decode cX7_isTooNear 42 = .ok (.aload_n 0, 1) := by decide +kernel
theorem dX7_isTooNear_43 : decode cX7_isTooNear 43 = .ok (.getfield 42, 3) := by decide +kernel
theorem dX7_isTooNear_46 : decode cX7_isTooNear 46 = .ok (.invokevirtual 267, 3) := by decide +kernel
theorem dX7_isTooNear_49 : decode cX7_isTooNear 49 = .ok (.iconst 2, 1) := by decide +kernel
theorem dX7_isTooNear_50 : decode cX7_isTooNear 50 = .ok (.aload_n 0, 1) := by decide +kernel
theorem dX7_isTooNear_51 : decode cX7_isTooNear 51 = .ok (.getfield 10, 3) := by decide +kernel
theorem dX7_isTooNear_54 : decode cX7_isTooNear 54 = .ok (.getfield 209, 3) := by decide +kernel
theorem dX7_isTooNear_57 : decode cX7_isTooNear 57 = .ok (.iconst 4, 1) := by decide +kernel
theorem dX7_isTooNear_58 : decode cX7_isTooNear 58 = .ok (.invokevirtual 180, 3) := by decide +kernel
theorem dX7_isTooNear_61 : decode cX7_isTooNear 61 = .ok (.imul, 1) := by decide +kernel
theorem dX7_isTooNear_62 : decode cX7_isTooNear 62 = .ok (.if_icmp .gt 5, 3) := by decide +kernel
theorem dX7_isTooNear_65 : decode cX7_isTooNear 65 = .ok (.iconst 1, 1) := by decide +kernel
theorem dX7_isTooNear_66 : decode cX7_isTooNear 66 = .ok (.ireturn, 1) := by decide +kernel
theorem dX7_isTooNear_67 : decode cX7_isTooNear 67 = .ok (.iinc 2 1, 3) := by decide +kernel
theorem dX7_isTooNear_70 : decode cX7_isTooNear 70 = .ok (.goto (-68), 3) := by decide +kernel
theorem dX7_isTooNear_73 : decode cX7_isTooNear 73 = .ok (.iconst 0, 1) := by decide +kernel
theorem dX7_isTooNear_74 : decode cX7_isTooNear 74 = .ok (.ireturn, 1) := by decide +kernel
theorem dX7_addCommand_0 : decode cX7_addCommand 0 = .ok (.aload_n 0, 1) := by decide +kernel
theorem dX7_addCommand_1 : decode cX7_addCommand 1 = .ok (.getfield 19, 3) := by decide +kernel
theorem dX7_addCommand_4 : decode cX7_addCommand 4 = .ok (.aload_n 0, 1) := by decide +kernel
theorem dX7_addCommand_5 : decode cX7_addCommand 5 = .ok (.getfield 10, 3) := by decide +kernel
theorem dX7_addCommand_8 : decode cX7_addCommand 8 = .ok (.invokevirtual 85, 3) := by decide +kernel
theorem dX7_addCommand_11 : decode cX7_addCommand 11 = .ok (.aload_n 0, 1) := by decide +kernel
theorem dX7_addCommand_12 : decode cX7_addCommand 12 = .ok (.getfield 10, 3) := by decide +kernel
theorem dX7_addCommand_15 : decode cX7_addCommand 15 = .ok (.getfield 151, 3) := by decide +kernel
theorem dX7_addCommand_18 : decode cX7_addCommand 18 = .ok (.aload_n 1, 1) := by decide +kernel
theorem dX7_addCommand_19 : decode cX7_addCommand 19 = .ok (.invokevirtual 350, 3) := by decide +kernel
theorem dX7_addCommand_22 : decode cX7_addCommand 22 = .ok (.aload_n 0, 1) := by decide +kernel
theorem dX7_addCommand_23 : decode cX7_addCommand 23 = .ok (.invokevirtual 93, 3) := by decide +kernel
theorem dX7_addCommand_26 : decode cX7_addCommand 26 = .ok (.aload_n 0, 1) := by decide +kernel
theorem dX7_addCommand_27 : decode cX7_addCommand 27 = .ok (.getfield 10, 3) := by decide +kernel
theorem dX7_addCommand_30 : decode cX7_addCommand 30 = .ok (.getfield 151, 3) := by decide +kernel
theorem dX7_addCommand_33 : decode cX7_addCommand 33 = .ok (.invokevirtual 155, 3) := by decide +kernel
theorem dX7_addCommand_36 : decode cX7_addCommand 36 = .ok (.iconst 1, 1) := by decide +kernel
theorem dX7_addCommand_37 : decode cX7_addCommand 37 = .ok (.isub, 1) := by decide +kernel
theorem dX7_addCommand_38 : decode cX7_addCommand 38 = .ok (.ireturn, 1) := by decide +kernel
theorem dX7_leastApart_0 : decode cX7_leastApart 0 = .ok (.iconst (-1), 1) := by decide +kernel
theorem dX7_leastApart_1 : decode cX7_leastApart 1 = .ok (.istore_n 2, 1) := by decide +kernel
theorem dX7_leastApart_2 : decode cX7_leastApart 2 = .ok (.iconst 1, 1) := by decide +kernel
theorem dX7_leastApart_3 : decode cX7_leastApart 3 = .ok (.istore_n 3, 1) := by decide +kernel
theorem dX7_leastApart_4 : decode cX7_leastApart 4 = .ok (.iload_n 3, 1) := by decide +kernel
theorem dX7_leastApart_5 : decode cX7_leastApart 5 = .ok (.aload_n 0, 1) := by decide +kernel
theorem dX7_leastApart_6 : decode cX7_leastApart 6 = .ok (.getfield 10, 3) := by decide +kernel
theorem dX7_leastApart_9 : decode cX7_leastApart 9 = .ok (.getfield 151, 3) := by decide +kernel
theorem dX7_leastApart_12 : decode cX7_leastApart 12 = .ok (.invokevirtual 155, 3) := by decide +kernel
theorem dX7_leastApart_15 : decode cX7_leastApart 15 = .ok (.if_icmp .ge 79, 3) := by decide +kernel
theorem dX7_leastApart_18 : decode cX7_leastApart 18 = .ok (.iconst 0, 1) := by decide +kernel
theorem dX7_leastApart_19 : decode cX7_leastApart 19 = .ok (.istore 4, 2) := by decide +kernel
theorem dX7_leastApart_21 : decode cX7_leastApart 21 = .ok (.iload 4, 2) := by decide +kernel
theorem dX7_leastApart_23 : decode cX7_leastApart 23 = .ok (.iload_n 3, 1) := by decide +kernel
theorem dX7_leastApart_24 : decode cX7_leastApart 24 = .ok (.if_icmp .ge 64, 3) := by decide +kernel
theorem dX7_leastApart_27 : decode cX7_leastApart 27 = .ok (.aload_n 0, 1) := by decide +kernel
theorem dX7_leastApart_28 : decode cX7_leastApart 28 = .ok (.getfield 42, 3) := by decide +kernel
theorem dX7_leastApart_31 : decode cX7_leastApart 31 = .ok (.aload_n 0, 1) := by decide +kernel
theorem dX7_leastApart_32 : decode cX7_leastApart 32 = .ok (.getfield 10, 3) := by decide +kernel
theorem dX7_leastApart_35 : decode cX7_leastApart 35 = .ok (.getfield 151, 3) := by decide +kernel
theorem dX7_leastApart_38 : decode cX7_leastApart 38 = .ok (.iload 4, 2) := by decide +kernel
theorem dX7_leastApart_40 : decode cX7_leastApart 40 = .ok (.invokevirtual 257, 3) := by decide +kernel
theorem dX7_leastApart_43 : decode cX7_leastApart 43 = .ok (.aload_n 0, 1) := by decide +kernel
theorem dX7_leastApart_44 : decode cX7_leastApart 44 = .ok (.getfield 10, 3) := by decide +kernel
theorem dX7_leastApart_47 : decode cX7_leastApart 47 = .ok (.getfield 151, 3) := by decide +kernel
theorem dX7_leastApart_50 : decode cX7_leastApart 50 = .ok (.iload_n 3, 1) := by decide +kernel
theorem dX7_leastApart_51 : decode cX7_leastApart 51 = .ok (.invokevirtual 257, 3) := by decide +kernel
theorem dX7_leastApart_54 : decode cX7_leastApart 54 = .ok (.aload_n 1, 1) := by decide +kernel
theorem dX7_leastApart_55 : decode cX7_leastApart 55 = .ok (.invokevirtual 263, 3) := by decide +kernel
theorem dX7_leastApart_58 : decode cX7_leastApart 58 = .ok (.iload_n 2, 1) := by decide +kernel
theorem dX7_leastApart_59 : decode cX7_leastApart 59 = .ok (.iconst (-1), 1) := by decide +kernel
theorem dX7_leastApart_60 : decode cX7_leastApart 60 = .ok (.if_icmp .eq 14, 3) := by decide +kernel
theorem dX7_leastApart_63 : decode cX7_leastApart 63 = .ok (.aload_n 0, 1) := by decide +kernel
theorem dX7_leastApart_64 : decode cX7_leastApart 64 = .ok (.getfield 42, 3) := by decide +kernel
theorem dX7_leastApart_67 : decode cX7_leastApart 67 = .ok (.invokevirtual 267, 3) := by decide +kernel
theorem dX7_leastApart_70 : decode cX7_leastApart 70 = .ok (.iload_n 2, 1) := by decide +kernel
theorem dX7_leastApart_71 : decode cX7_leastApart 71 = .ok (.if_icmp .ge 11, 3) := by decide +kernel
theorem dX7_leastApart_74 : decode cX7_leastApart 74 = .ok (.aload_n 0, 1) := by decide +kernel
theorem dX7_leastApart_75 : decode cX7_leastApart 75 = .ok (.getfield 42, 3) := by decide +kernel
theorem dX7_leastApart_78 : decode cX7_leastApart 78 = .ok (.invokevirtual 267, 3) := by decide +kernel
theorem dX7_leastApart_81 : decode cX7_leastApart 81 = .ok (.istore_n 2, 1) := by decide +kernel
theorem dX7_leastApart_82 : decode cX7_leastApart 82 = .ok (.iinc 4 1, 3) := by decide +kernel
theorem dX7_leastApart_85 : decode cX7_leastApart 85 = .ok (.goto (-64), 3) := by decide +kernel
theorem dX7_leastApart_88 : decode cX7_leastApart 88 = .ok (.iinc 3 1, 3) := by decide +kernel
theorem dX7_leastApart_91 : decode cX7_leastApart 91 = .ok (.goto (-87), 3) := by decide +kernel
theorem dX7_leastApart_94 : decode cX7_leastApart 94 = .ok (.iload_n 2, 1) := by decide +kernel
theorem dX7_leastApart_95 : decode cX7_leastApart 95 = .ok (.ireturn, 1) := by decide +kernel
theorem dX7_withPath_0 : decode cX7_withPath 0 = .ok (.lload_n 1, 1) := by decide +kernel
theorem dX7_withPath_1 : decode cX7_withPath 1 = .ok (.lstore_n 3, 1) := by decide +kernel
theorem dX7_withPath_2 : decode cX7_withPath 2 = .ok (.iconst 0, 1) := by decide +kernel
theorem dX7_withPath_3 : decode cX7_withPath 3 = .ok (.istore 5, 2) := by decide +kernel
theorem dX7_withPath_5 : decode cX7_withPath 5 = .ok (.iload 5, 2) := by decide +kernel
theorem dX7_withPath_7 : decode cX7_withPath 7 = .ok (.aload_n 0, 1) := by decide +kernel
theorem dX7_withPath_8 : decode cX7_withPath 8 = .ok (.getfield 10, 3) := by decide +kernel
theorem dX7_withPath_11 : decode cX7_withPath 11 = .ok (.getfield 73, 3) := by decide +kernel
theorem dX7_withPath_14 : decode cX7_withPath 14 = .ok (.invokevirtual 76, 3) := by decide +kernel
theorem dX7_withPath_17 : decode cX7_withPath 17 = .ok (.if_icmp .ge 40, 3) := by decide +kernel
theorem dX7_withPath_20 : decode cX7_withPath 20 = .ok (.iconst 0, 1) := by decide +kernel
theorem dX7_withPath_21 : decode cX7_withPath 21 = .ok (.istore 6, 2) := by decide +kernel
theorem dX7_withPath_23 : decode cX7_withPath 23 = .ok (.iload 6, 2) := by decide +kernel
theorem dX7_withPath_25 : decode cX7_withPath 25 = .ok (.iconst 3, 1) := by decide +kernel
theorem dX7_withPath_26 : decode cX7_withPath 26 = .ok (.if_icmp .gt 25, 3) := by decide +kernel
theorem dX7_withPath_29 : decode cX7_withPath 29 = .ok (.ldc2_w 309, 3) := by decide +kernel
theorem dX7_withPath_32 : decode cX7_withPath 32 = .ok (.lload_n 3, 1) := by decide +kernel
theorem dX7_withPath_33 : decode cX7_withPath 33 = .ok (.lmul, 1) := by decide +kernel
theorem dX7_withPath_34 : decode cX7_withPath 34 = .ok (.aload_n 0, 1) := by decide +kernel
theorem dX7_withPath_35 : decode cX7_withPath 35 = .ok (.iload 5, 2) := by decide +kernel
theorem dX7_withPath_37 : decode cX7_withPath 37 = .ok (.iload 6, 2) := by decide +kernel
theorem dX7_withPath_39 : decode cX7_withPath 39 = .ok (.invokevirtual 352, 3) := by decide +kernel
theorem dX7_withPath_42 : decode cX7_withPath 42 = .ok (.i2l, 1) := by decide +kernel
theorem dX7_withPath_43 : decode cX7_withPath 43 = .ok (.ladd, 1) := by decide +kernel
theorem dX7_withPath_44 : decode cX7_withPath 44 = .ok (.lstore_n 3, 1) := by decide +kernel
theorem dX7_withPath_45 : decode cX7_withPath 45 = .ok (.iinc 6 1, 3) := by decide +kernel
theorem dX7_withPath_48 : decode cX7_withPath 48 = .ok (.goto (-25), 3) := by decide +kernel
theorem dX7_withPath_51 : decode cX7_withPath 51 = .ok (.iinc 5 1, 3) := by decide +kernel
theorem dX7_withPath_54 : decode cX7_withPath 54 = .ok (.goto (-49), 3) := by decide +kernel
theorem dX7_withPath_57 : decode cX7_withPath 57 = .ok (.iconst 0, 1) := by decide +kernel
theorem dX7_withPath_58 : decode cX7_withPath 58 = .ok (.istore 5, 2) := by decide +kernel
theorem dX7_withPath_60 : decode cX7_withPath 60 = .ok (.iload 5, 2) := by decide +kernel
theorem dX7_withPath_62 : decode cX7_withPath 62 = .ok (.aload_n 0, 1) := by decide +kernel
theorem dX7_withPath_63 : decode cX7_withPath 63 = .ok (.getfield 35, 3) := by decide +kernel
theorem dX7_withPath_66 : decode cX7_withPath 66 = .ok (.getfield 245, 3) := by decide +kernel
theorem dX7_withPath_69 : decode cX7_withPath 69 = .ok (.invokevirtual 150, 3) := by decide +kernel
theorem dX7_withPath_72 : decode cX7_withPath 72 = .ok (.if_icmp .ge 40, 3) := by decide +kernel
theorem dX7_withPath_75 : decode cX7_withPath 75 = .ok (.iconst 0, 1) := by decide +kernel
theorem dX7_withPath_76 : decode cX7_withPath 76 = .ok (.istore 6, 2) := by decide +kernel
theorem dX7_withPath_78 : decode cX7_withPath 78 = .ok (.iload 6, 2) := by decide +kernel
theorem dX7_withPath_80 : decode cX7_withPath 80 = .ok (.iconst 3, 1) := by decide +kernel
theorem dX7_withPath_81 : decode cX7_withPath 81 = .ok (.if_icmp .gt 25, 3) := by decide +kernel
theorem dX7_withPath_84 : decode cX7_withPath 84 = .ok (.ldc2_w 309, 3) := by decide +kernel
theorem dX7_withPath_87 : decode cX7_withPath 87 = .ok (.lload_n 3, 1) := by decide +kernel
theorem dX7_withPath_88 : decode cX7_withPath 88 = .ok (.lmul, 1) := by decide +kernel
theorem dX7_withPath_89 : decode cX7_withPath 89 = .ok (.aload_n 0, 1) := by decide +kernel
theorem dX7_withPath_90 : decode cX7_withPath 90 = .ok (.iload 5, 2) := by decide +kernel
theorem dX7_withPath_92 : decode cX7_withPath 92 = .ok (.iload 6, 2) := by decide +kernel
theorem dX7_withPath_94 : decode cX7_withPath 94 = .ok (.invokevirtual 355, 3) := by decide +kernel
theorem dX7_withPath_97 : decode cX7_withPath 97 = .ok (.i2l, 1) := by decide +kernel
theorem dX7_withPath_98 : decode cX7_withPath 98 = .ok (.ladd, 1) := by decide +kernel
theorem dX7_withPath_99 : decode cX7_withPath 99 = .ok (.lstore_n 3, 1) := by decide +kernel
theorem dX7_withPath_100 : decode cX7_withPath 100 = .ok (.iinc 6 1, 3) := by decide +kernel
theorem dX7_withPath_103 : decode cX7_withPath 103 = .ok (.goto (-25), 3) := by decide +kernel
theorem dX7_withPath_106 : decode cX7_withPath 106 = .ok (.iinc 5 1, 3) := by decide +kernel
theorem dX7_withPath_109 : decode cX7_withPath 109 = .ok (.goto (-49), 3) := by decide +kernel
theorem dX7_withPath_112 : decode cX7_withPath 112 = .ok (.iconst 0, 1) := by decide +kernel
theorem dX7_withPath_113 : decode cX7_withPath 113 = .ok (.istore 5, 2) := by decide +kernel
theorem dX7_withPath_115 : decode cX7_withPath 115 = .ok (.iload 5, 2) := by decide +kernel
theorem dX7_withPath_117 : decode cX7_withPath 117 = .ok (.aload_n 0, 1) := by decide +kernel
theorem dX7_withPath_118 : decode cX7_withPath 118 = .ok (.getfield 35, 3) := by decide +kernel
theorem dX7_withPath_121 : decode cX7_withPath 121 = .ok (.getfield 147, 3) := by decide +kernel
theorem dX7_withPath_124 : decode cX7_withPath 124 = .ok (.invokevirtual 150, 3) := by decide +kernel
theorem dX7_withPath_127 : decode cX7_withPath 127 = .ok (.if_icmp .ge 29, 3) := by decide +kernel
theorem dX7_withPath_130 : decode cX7_withPath 130 = .ok (.ldc2_w 309, 3) := by decide +kernel
theorem dX7_withPath_133 : decode cX7_withPath 133 = .ok (.lload_n 3, 1) := by decide +kernel
theorem dX7_withPath_134 : decode cX7_withPath 134 = .ok (.lmul, 1) := by decide +kernel
theorem dX7_withPath_135 : decode cX7_withPath 135 = .ok (.aload_n 0, 1) := by decide +kernel
theorem dX7_withPath_136 : decode cX7_withPath 136 = .ok (.getfield 35, 3) := by decide +kernel
theorem dX7_withPath_139 : decode cX7_withPath 139 = .ok (.getfield 147, 3) := by decide +kernel
theorem dX7_withPath_142 : decode cX7_withPath 142 = .ok (.iload 5, 2) := by decide +kernel
theorem dX7_withPath_144 : decode cX7_withPath 144 = .ok (.invokevirtual 180, 3) := by decide +kernel
theorem dX7_withPath_147 : decode cX7_withPath 147 = .ok (.i2l, 1) := by decide +kernel
theorem dX7_withPath_148 : decode cX7_withPath 148 = .ok (.ladd, 1) := by decide +kernel
theorem dX7_withPath_149 : decode cX7_withPath 149 = .ok (.lstore_n 3, 1) := by decide +kernel
theorem dX7_withPath_150 : decode cX7_withPath 150 = .ok (.iinc 5 1, 3) := by decide +kernel
theorem dX7_withPath_153 : decode cX7_withPath 153 = .ok (.goto (-38), 3) := by decide +kernel
theorem dX7_withPath_156 : decode cX7_withPath 156 = .ok (.lload_n 3, 1) := by decide +kernel
theorem dX7_withPath_157 : decode cX7_withPath 157 = .ok (.lreturn, 1) := by decide +kernel
theorem dX7_withCommands_0 : decode cX7_withCommands 0 = .ok (.lload_n 1, 1) := by decide +kernel
theorem dX7_withCommands_1 : decode cX7_withCommands 1 = .ok (.lstore_n 3, 1) := by decide +kernel
theorem dX7_withCommands_2 : decode cX7_withCommands 2 = .ok (.iconst 0, 1) := by decide +kernel
theorem dX7_withCommands_3 : decode cX7_withCommands 3 = .ok (.istore 5, 2) := by decide +kernel
theorem dX7_withCommands_5 : decode cX7_withCommands 5 = .ok (.iload 5, 2) := by decide +kernel
theorem dX7_withCommands_7 : decode cX7_withCommands 7 = .ok (.aload_n 0, 1) := by decide +kernel
theorem dX7_withCommands_8 : decode cX7_withCommands 8 = .ok (.getfield 10, 3) := by decide +kernel
theorem dX7_withCommands_11 : decode cX7_withCommands 11 = .ok (.getfield 151, 3) := by decide +kernel
theorem dX7_withCommands_14 : decode cX7_withCommands 14 = .ok (.invokevirtual 155, 3) := by decide +kernel
theorem dX7_withCommands_17 : decode cX7_withCommands 17 = .ok (.if_icmp .ge 87, 3) := by decide +kernel
theorem dX7_withCommands_20 : decode cX7_withCommands 20 = .ok (.aload_n 0, 1) := by decide +kernel
theorem dX7_withCommands_21 : decode cX7_withCommands 21 = .ok (.getfield 10, 3) := by decide +kernel
theorem dX7_withCommands_24 : decode cX7_withCommands 24 = .ok (.getfield 151, 3) := by decide +kernel
theorem dX7_withCommands_27 : decode cX7_withCommands 27 = .ok (.iload 5, 2) := by decide +kernel
theorem dX7_withCommands_29 : decode cX7_withCommands 29 = .ok (.invokevirtual 257, 3) := by decide +kernel
theorem dX7_withCommands_32 : decode cX7_withCommands 32 = .ok (.astore 6, 2) := by decide +kernel
theorem dX7_withCommands_34 : decode cX7_withCommands 34 = .ok (.iconst 0, 1) := by decide +kernel
theorem dX7_withCommands_35 : decode cX7_withCommands 35 = .ok (.istore 7, 2) := by decide +kernel
theorem dX7_withCommands_37 : decode cX7_withCommands 37 = .ok (.iload 7, 2) := by decide +kernel
theorem dX7_withCommands_39 : decode cX7_withCommands 39 = .ok (.aload 6, 2) := by decide +kernel
theorem dX7_withCommands_41 : decode cX7_withCommands 41 = .ok (.invokevirtual 150, 3) := by decide +kernel
theorem dX7_withCommands_44 : decode cX7_withCommands 44 = .ok (.if_icmp .ge 24, 3) := by decide +kernel
theorem dX7_withCommands_47 : decode cX7_withCommands 47 = .ok (.ldc2_w 309, 3) := by decide +kernel
theorem dX7_withCommands_50 : decode cX7_withCommands 50 = .ok (.lload_n 3, 1) := by decide +kernel
theorem dX7_withCommands_51 : decode cX7_withCommands 51 = .ok (.lmul, 1) := by decide +kernel
theorem dX7_withCommands_52 : decode cX7_withCommands 52 = .ok (.aload 6, 2) := by decide +kernel
theorem dX7_withCommands_54 : decode cX7_withCommands 54 = .ok (.iload 7, 2) := by decide +kernel
theorem dX7_withCommands_56 : decode cX7_withCommands 56 = .ok (.invokevirtual 180, 3) := by decide +kernel
theorem dX7_withCommands_59 : decode cX7_withCommands 59 = .ok (.i2l, 1) := by decide +kernel
theorem dX7_withCommands_60 : decode cX7_withCommands 60 = .ok (.ladd, 1) := by decide +kernel
theorem dX7_withCommands_61 : decode cX7_withCommands 61 = .ok (.lstore_n 3, 1) := by decide +kernel
theorem dX7_withCommands_62 : decode cX7_withCommands 62 = .ok (.iinc 7 1, 3) := by decide +kernel
theorem dX7_withCommands_65 : decode cX7_withCommands 65 = .ok (.goto (-28), 3) := by decide +kernel
theorem dX7_withCommands_68 : decode cX7_withCommands 68 = .ok (.ldc2_w 309, 3) := by decide +kernel
theorem dX7_withCommands_71 : decode cX7_withCommands 71 = .ok (.lload_n 3, 1) := by decide +kernel
theorem dX7_withCommands_72 : decode cX7_withCommands 72 = .ok (.lmul, 1) := by decide +kernel
theorem dX7_withCommands_73 : decode cX7_withCommands 73 = .ok (.aload_n 0, 1) := by decide +kernel
theorem dX7_withCommands_74 : decode cX7_withCommands 74 = .ok (.iload 5, 2) := by decide +kernel
theorem dX7_withCommands_76 : decode cX7_withCommands 76 = .ok (.iconst (-1), 1) := by decide +kernel
theorem dX7_withCommands_77 : decode cX7_withCommands 77 = .ok (.invokevirtual 358, 3) := by decide +kernel
theorem dX7_withCommands_80 : decode cX7_withCommands 80 = .ok (.i2l, 1) := by decide +kernel
theorem dX7_withCommands_81 : decode cX7_withCommands 81 = .ok (.ladd, 1) := by decide +kernel
theorem dX7_withCommands_82 : decode cX7_withCommands 82 = .ok (.lstore_n 3, 1) := by decide +kernel
theorem dX7_withCommands_83 : decode cX7_withCommands 83 = .ok (.ldc2_w 309, 3) := by decide +kernel
theorem dX7_withCommands_86 : decode cX7_withCommands 86 = .ok (.lload_n 3, 1) := by decide +kernel
theorem dX7_withCommands_87 : decode cX7_withCommands 87 = .ok (.lmul, 1) := by decide +kernel
theorem dX7_withCommands_88 : decode cX7_withCommands 88 = .ok (.aload_n 0, 1) := by decide +kernel
theorem dX7_withCommands_89 : decode cX7_withCommands 89 = .ok (.iload 5, 2) := by decide +kernel
theorem dX7_withCommands_91 : decode cX7_withCommands 91 = .ok (.iconst 0, 1) := by decide +kernel
theorem dX7_withCommands_92 : decode cX7_withCommands 92 = .ok (.invokevirtual 358, 3) := by decide +kernel
theorem dX7_withCommands_95 : decode cX7_withCommands 95 = .ok (.i2l, 1) := by decide +kernel
theorem dX7_withCommands_96 : decode cX7_withCommands 96 = .ok (.ladd, 1) := by decide +kernel
theorem dX7_withCommands_97 : decode cX7_withCommands 97 = .ok (.lstore_n 3, 1) := by decide +kernel
theorem dX7_withCommands_98 : decode cX7_withCommands 98 = .ok (.iinc 5 1, 3) := by decide +kernel
theorem dX7_withCommands_101 : decode cX7_withCommands 101 = .ok (.goto (-96), 3) := by decide +kernel
theorem dX7_withCommands_104 : decode cX7_withCommands 104 = .ok (.lload_n 3, 1) := by decide +kernel
theorem dX7_withCommands_105 : decode cX7_withCommands 105 = .ok (.lreturn, 1) := by decide +kernel
theorem dX7_floatBits_0 : decode cX7_floatBits 0 = .ok (.fload_n 0, 1) := by decide +kernel
theorem dX7_floatBits_1 : decode cX7_floatBits 1 = .ok (.fconst 0, 1) := by decide +kernel
theorem dX7_floatBits_2 : decode cX7_floatBits 2 = .ok (.fcmp .l, 1) := by decide +kernel
theorem dX7_floatBits_3 : decode cX7_floatBits 3 = .ok (.ifCond .gt 5, 3) := by decide +kernel
theorem dX7_floatBits_6 : decode cX7_floatBits 6 = .ok (.iconst 0, 1) := by decide +kernel
theorem dX7_floatBits_7 : decode cX7_floatBits 7 = .ok (.ireturn, 1) := by decide +kernel
theorem dX7_floatBits_8 : decode cX7_floatBits 8 = .ok (.bipush 127, 2) := by decide +kernel
theorem dX7_floatBits_10 : decode cX7_floatBits 10 = .ok (.istore_n 1, 1) := by decide +kernel
theorem dX7_floatBits_11 : decode cX7_floatBits 11 = .ok (.fload_n 0, 1) := by decide +kernel
theorem dX7_floatBits_12 : decode cX7_floatBits 12 = .ok (.fstore_n 2, 1) := by decide +kernel
theorem dX7_floatBits_13 : decode cX7_floatBits 13 = .ok (.iconst 0, 1) := by decide +kernel
theorem dX7_floatBits_14 : decode cX7_floatBits 14 = .ok (.istore_n 3, 1) := by decide +kernel
theorem dX7_floatBits_15 : decode cX7_floatBits 15 = .ok (.iload_n 3, 1) := by decide +kernel
theorem dX7_floatBits_16 : decode cX7_floatBits 16 = .ok (.bipush 126, 2) := by decide +kernel
theorem dX7_floatBits_18 : decode cX7_floatBits 18 = .ok (.if_icmp .ge 22, 3) := by decide +kernel
theorem dX7_floatBits_21 : decode cX7_floatBits 21 = .ok (.fload_n 2, 1) := by decide +kernel
theorem dX7_floatBits_22 : decode cX7_floatBits 22 = .ok (.fconst 1, 1) := by decide +kernel
theorem dX7_floatBits_23 : decode cX7_floatBits 23 = .ok (.fcmp .g, 1) := by decide +kernel
theorem dX7_floatBits_24 : decode cX7_floatBits 24 = .ok (.ifCond .ge 16, 3) := by decide +kernel
theorem dX7_floatBits_27 : decode cX7_floatBits 27 = .ok (.fload_n 2, 1) := by decide +kernel
theorem dX7_floatBits_28 : decode cX7_floatBits 28 = .ok (.fconst 2, 1) := by decide +kernel
theorem dX7_floatBits_29 : decode cX7_floatBits 29 = .ok (.fmul, 1) := by decide +kernel
theorem dX7_floatBits_30 : decode cX7_floatBits 30 = .ok (.fstore_n 2, 1) := by decide +kernel
theorem dX7_floatBits_31 : decode cX7_floatBits 31 = .ok (.iinc 1 (-1), 3) := by decide +kernel
theorem dX7_floatBits_34 : decode cX7_floatBits 34 = .ok (.iinc 3 1, 3) := by decide +kernel
theorem dX7_floatBits_37 : decode cX7_floatBits 37 = .ok (.goto (-22), 3) := by decide +kernel
theorem dX7_floatBits_40 : decode cX7_floatBits 40 = .ok (.iload_n 1, 1) := by decide +kernel
theorem dX7_floatBits_41 : decode cX7_floatBits 41 = .ok (.bipush 23, 2) := by decide +kernel
theorem dX7_floatBits_43 : decode cX7_floatBits 43 = .ok (.ishl, 1) := by decide +kernel
theorem dX7_floatBits_44 : decode cX7_floatBits 44 = .ok (.fload_n 2, 1) := by decide +kernel
theorem dX7_floatBits_45 : decode cX7_floatBits 45 = .ok (.fconst 1, 1) := by decide +kernel
theorem dX7_floatBits_46 : decode cX7_floatBits 46 = .ok (.fsub, 1) := by decide +kernel
theorem dX7_floatBits_47 : decode cX7_floatBits 47 = .ok (.ldc_w 361, 3) := by decide +kernel
theorem dX7_floatBits_50 : decode cX7_floatBits 50 = .ok (.fmul, 1) := by decide +kernel
theorem dX7_floatBits_51 : decode cX7_floatBits 51 = .ok (.f2i, 1) := by decide +kernel
theorem dX7_floatBits_52 : decode cX7_floatBits 52 = .ok (.iadd, 1) := by decide +kernel
theorem dX7_floatBits_53 : decode cX7_floatBits 53 = .ok (.ireturn, 1) := by decide +kernel
theorem dX7_doubleBits_0 : decode cX7_doubleBits 0 = .ok (.dload_n 0, 1) := by decide +kernel
theorem dX7_doubleBits_1 : decode cX7_doubleBits 1 = .ok (.dconst 0, 1) := by decide +kernel
theorem dX7_doubleBits_2 : decode cX7_doubleBits 2 = .ok (.dcmp .l, 1) := by decide +kernel
theorem dX7_doubleBits_3 : decode cX7_doubleBits 3 = .ok (.ifCond .gt 5, 3) := by decide +kernel
theorem dX7_doubleBits_6 : decode cX7_doubleBits 6 = .ok (.lconst 0, 1) := by decide +kernel
theorem dX7_doubleBits_7 : decode cX7_doubleBits 7 = .ok (.lreturn, 1) := by decide +kernel
theorem dX7_doubleBits_8 : decode cX7_doubleBits 8 = .ok (.ldc2_w 362, 3) := by decide +kernel
theorem dX7_doubleBits_11 : decode cX7_doubleBits 11 = .ok (.lstore_n 2, 1) := by decide +kernel
theorem dX7_doubleBits_12 : decode cX7_doubleBits 12 = .ok (.dload_n 0, 1) := by decide +kernel
theorem dX7_doubleBits_13 : decode cX7_doubleBits 13 = .ok (.dstore 4, 2) := by decide +kernel
theorem dX7_doubleBits_15 : decode cX7_doubleBits 15 = .ok (.iconst 0, 1) := by decide +kernel
theorem dX7_doubleBits_16 : decode cX7_doubleBits 16 = .ok (.istore 6, 2) := by decide +kernel
theorem dX7_doubleBits_18 : decode cX7_doubleBits 18 = .ok (.iload 6, 2) := by decide +kernel
theorem dX7_doubleBits_20 : decode cX7_doubleBits 20 = .ok (.sipush 1022, 3) := by decide +kernel
theorem dX7_doubleBits_23 : decode cX7_doubleBits 23 = .ok (.if_icmp .ge 28, 3) := by decide +kernel
theorem dX7_doubleBits_26 : decode cX7_doubleBits 26 = .ok (.dload 4, 2) := by decide +kernel
theorem dX7_doubleBits_28 : decode cX7_doubleBits 28 = .ok (.dconst 1, 1) := by decide +kernel
theorem dX7_doubleBits_29 : decode cX7_doubleBits 29 = .ok (.dcmp .g, 1) := by decide +kernel
theorem dX7_doubleBits_30 : decode cX7_doubleBits 30 = .ok (.ifCond .ge 21, 3) := by decide +kernel
theorem dX7_doubleBits_33 : decode cX7_doubleBits 33 = .ok (.dload 4, 2) := by decide +kernel
theorem dX7_doubleBits_35 : decode cX7_doubleBits 35 = .ok (.ldc2_w 364, 3) := by decide +kernel
theorem dX7_doubleBits_38 : decode cX7_doubleBits 38 = .ok (.dmul, 1) := by decide +kernel
theorem dX7_doubleBits_39 : decode cX7_doubleBits 39 = .ok (.dstore 4, 2) := by decide +kernel
theorem dX7_doubleBits_41 : decode cX7_doubleBits 41 = .ok (.lload_n 2, 1) := by decide +kernel
theorem dX7_doubleBits_42 : decode cX7_doubleBits 42 = .ok (.lconst 1, 1) := by decide +kernel
theorem dX7_doubleBits_43 : decode cX7_doubleBits 43 = .ok (.lsub, 1) := by decide +kernel
theorem dX7_doubleBits_44 : decode cX7_doubleBits 44 = .ok (.lstore_n 2, 1) := by decide +kernel
theorem dX7_doubleBits_45 : decode cX7_doubleBits 45 = .ok (.iinc 6 1, 3) := by decide +kernel
theorem dX7_doubleBits_48 : decode cX7_doubleBits 48 = .ok (.goto (-30), 3) := by decide +kernel
theorem dX7_doubleBits_51 : decode cX7_doubleBits 51 = .ok (.lload_n 2, 1) := by decide +kernel
theorem dX7_doubleBits_52 : decode cX7_doubleBits 52 = .ok (.bipush 52, 2) := by decide +kernel
theorem dX7_doubleBits_54 : decode cX7_doubleBits 54 = .ok (.lshl, 1) := by decide +kernel
theorem dX7_doubleBits_55 : decode cX7_doubleBits 55 = .ok (.dload 4, 2) := by decide +kernel
theorem dX7_doubleBits_57 : decode cX7_doubleBits 57 = .ok (.dconst 1, 1) := by decide +kernel
theorem dX7_doubleBits_58 : decode cX7_doubleBits 58 = .ok (.dsub, 1) := by decide +kernel
theorem dX7_doubleBits_59 : decode cX7_doubleBits 59 = .ok (.ldc2_w 366, 3) := by decide +kernel
theorem dX7_doubleBits_62 : decode cX7_doubleBits 62 = .ok (.dmul, 1) := by decide +kernel
theorem dX7_doubleBits_63 : decode cX7_doubleBits 63 = .ok (.d2l, 1) := by decide +kernel
theorem dX7_doubleBits_64 : decode cX7_doubleBits 64 = .ok (.ladd, 1) := by decide +kernel
theorem dX7_doubleBits_65 : decode cX7_doubleBits 65 = .ok (.lreturn, 1) := by decide +kernel
theorem dX7_eighthsBetween_0 : decode cX7_eighthsBetween 0 = .ok (.iload_n 0, 1) := by decide +kernel
theorem dX7_eighthsBetween_1 : decode cX7_eighthsBetween 1 = .ok (.iload_n 1, 1) := by decide +kernel
theorem dX7_eighthsBetween_2 : decode cX7_eighthsBetween 2 = .ok (.isub, 1) := by decide +kernel
theorem dX7_eighthsBetween_3 : decode cX7_eighthsBetween 3 = .ok (.bipush 7, 2) := by decide +kernel
theorem dX7_eighthsBetween_5 : decode cX7_eighthsBetween 5 = .ok (.iand, 1) := by decide +kernel
theorem dX7_eighthsBetween_6 : decode cX7_eighthsBetween 6 = .ok (.istore_n 2, 1) := by decide +kernel
theorem dX7_eighthsBetween_7 : decode cX7_eighthsBetween 7 = .ok (.iload_n 2, 1) := by decide +kernel
theorem dX7_eighthsBetween_8 : decode cX7_eighthsBetween 8 = .ok (.iconst 4, 1) := by decide +kernel
theorem dX7_eighthsBetween_9 : decode cX7_eighthsBetween 9 = .ok (.if_icmp .gt 7, 3) := by decide +kernel
theorem dX7_eighthsBetween_12 : decode cX7_eighthsBetween 12 = .ok (.iload_n 2, 1) := by decide +kernel
theorem dX7_eighthsBetween_13 : decode cX7_eighthsBetween 13 = .ok (.goto 7, 3) := by decide +kernel
theorem dX7_eighthsBetween_16 : decode cX7_eighthsBetween 16 = .ok (.bipush 8, 2) := by decide +kernel
theorem dX7_eighthsBetween_18 : decode cX7_eighthsBetween 18 = .ok (.iload_n 2, 1) := by decide +kernel
theorem dX7_eighthsBetween_19 : decode cX7_eighthsBetween 19 = .ok (.isub, 1) := by decide +kernel
theorem dX7_eighthsBetween_20 : decode cX7_eighthsBetween 20 = .ok (.ireturn, 1) := by decide +kernel
theorem dX7_isCutCorner_0 : decode cX7_isCutCorner 0 = .ok (.iload_n 2, 1) := by decide +kernel
theorem dX7_isCutCorner_1 : decode cX7_isCutCorner 1 = .ok (.iconst 1, 1) := by decide +kernel
theorem dX7_isCutCorner_2 : decode cX7_isCutCorner 2 = .ok (.if_icmp .lt 22, 3) := by decide +kernel
theorem dX7_isCutCorner_5 : decode cX7_isCutCorner 5 = .ok (.iload_n 2, 1) := by decide +kernel
theorem dX7_isCutCorner_6 : decode cX7_isCutCorner 6 = .ok (.iconst 1, 1) := by decide +kernel
theorem dX7_isCutCorner_7 : decode cX7_isCutCorner 7 = .ok (.iadd, 1) := by decide +kernel
theorem dX7_isCutCorner_8 : decode cX7_isCutCorner 8 = .ok (.aload_n 0, 1) := by decide +kernel
theorem dX7_isCutCorner_9 : decode cX7_isCutCorner 9 = .ok (.invokevirtual 150, 3) := by decide +kernel
theorem dX7_isCutCorner_12 : decode cX7_isCutCorner 12 = .ok (.if_icmp .ge 12, 3) := by decide +kernel
theorem dX7_isCutCorner_15 : decode cX7_isCutCorner 15 = .ok (.aload_n 1, 1) := by decide +kernel
theorem dX7_isCutCorner_16 : decode cX7_isCutCorner 16 = .ok (.iload_n 2, 1) := by decide +kernel
theorem dX7_isCutCorner_17 : decode cX7_isCutCorner 17 = .ok (.invokevirtual 180, 3) := by decide +kernel
theorem dX7_isCutCorner_20 : decode cX7_isCutCorner 20 = .ok (.iload_n 3, 1) := by decide +kernel
theorem dX7_isCutCorner_21 : decode cX7_isCutCorner 21 = .ok (.if_icmp .le 5, 3) := by decide +kernel
theorem dX7_isCutCorner_24 : decode cX7_isCutCorner 24 = .ok (.iconst 0, 1) := by decide +kernel
theorem dX7_isCutCorner_25 : decode cX7_isCutCorner 25 = .ok (.ireturn, 1) := by decide +kernel
theorem dX7_isCutCorner_26 : decode cX7_isCutCorner 26 = .ok (.aload_n 0, 1) := by decide +kernel
theorem dX7_isCutCorner_27 : decode cX7_isCutCorner 27 = .ok (.iload_n 2, 1) := by decide +kernel
theorem dX7_isCutCorner_28 : decode cX7_isCutCorner 28 = .ok (.iconst 1, 1) := by decide +kernel
theorem dX7_isCutCorner_29 : decode cX7_isCutCorner 29 = .ok (.isub, 1) := by decide +kernel
theorem dX7_isCutCorner_30 : decode cX7_isCutCorner 30 = .ok (.invokevirtual 180, 3) := by decide +kernel
theorem dX7_isCutCorner_33 : decode cX7_isCutCorner 33 = .ok (.istore 4, 2) := by decide +kernel
theorem dX7_isCutCorner_35 : decode cX7_isCutCorner 35 = .ok (.aload_n 0, 1) := by decide +kernel
theorem dX7_isCutCorner_36 : decode cX7_isCutCorner 36 = .ok (.iload_n 2, 1) := by decide +kernel
theorem dX7_isCutCorner_37 : decode cX7_isCutCorner 37 = .ok (.invokevirtual 180, 3) := by decide +kernel
theorem dX7_isCutCorner_40 : decode cX7_isCutCorner 40 = .ok (.istore 5, 2) := by decide +kernel
theorem dX7_isCutCorner_42 : decode cX7_isCutCorner 42 = .ok (.aload_n 0, 1) := by decide +kernel
theorem dX7_isCutCorner_43 : decode cX7_isCutCorner 43 = .ok (.iload_n 2, 1) := by decide +kernel
theorem dX7_isCutCorner_44 : decode cX7_isCutCorner 44 = .ok (.iconst 1, 1) := by decide +kernel
theorem dX7_isCutCorner_45 : decode cX7_isCutCorner 45 = .ok (.iadd, 1) := by decide +kernel
theorem dX7_isCutCorner_46 : decode cX7_isCutCorner 46 = .ok (.invokevirtual 180, 3) := by decide +kernel
theorem dX7_isCutCorner_49 : decode cX7_isCutCorner 49 = .ok (.istore 6, 2) := by decide +kernel
theorem dX7_isCutCorner_51 : decode cX7_isCutCorner 51 = .ok (.iload 4, 2) := by decide +kernel
theorem dX7_isCutCorner_53 : decode cX7_isCutCorner 53 = .ok (.iload 5, 2) := by decide +kernel
theorem dX7_isCutCorner_55 : decode cX7_isCutCorner 55 = .ok (.invokestatic 368, 3) := by decide +kernel
theorem dX7_isCutCorner_58 : decode cX7_isCutCorner 58 = .ok (.iconst 1, 1) := by decide +kernel
theorem dX7_isCutCorner_59 : decode cX7_isCutCorner 59 = .ok (.if_icmp .ne 29, 3) := by decide +kernel
theorem dX7_isCutCorner_62 : decode cX7_isCutCorner 62 = .ok (.iload 5, 2) := by decide +kernel
theorem dX7_isCutCorner_64 : decode cX7_isCutCorner 64 = .ok (.iload 6, 2) := by decide +kernel
theorem dX7_isCutCorner_66 : decode cX7_isCutCorner 66 = .ok (.invokestatic 368, 3) := by decide +kernel
theorem dX7_isCutCorner_69 : decode cX7_isCutCorner 69 = .ok (.iconst 1, 1) := by decide +kernel
theorem dX7_isCutCorner_70 : decode cX7_isCutCorner 70 = .ok (.if_icmp .ne 18, 3) := by decide +kernel
theorem dX7_isCutCorner_73 : decode cX7_isCutCorner 73 = .ok (.iload 4, 2) := by decide +kernel
theorem dX7_isCutCorner_75 : decode cX7_isCutCorner 75 = .ok (.iload 6, 2) := by decide +kernel
theorem dX7_isCutCorner_77 : decode cX7_isCutCorner 77 = .ok (.invokestatic 368, 3) := by decide +kernel
theorem dX7_isCutCorner_80 : decode cX7_isCutCorner 80 = .ok (.iconst 2, 1) := by decide +kernel
theorem dX7_isCutCorner_81 : decode cX7_isCutCorner 81 = .ok (.if_icmp .ne 7, 3) := by decide +kernel
theorem dX7_isCutCorner_84 : decode cX7_isCutCorner 84 = .ok (.iconst 1, 1) := by decide +kernel
theorem dX7_isCutCorner_85 : decode cX7_isCutCorner 85 = .ok (.goto 4, 3) := by decide +kernel
theorem dX7_isCutCorner_88 : decode cX7_isCutCorner 88 = .ok (.iconst 0, 1) := by decide +kernel
theorem dX7_isCutCorner_89 : decode cX7_isCutCorner 89 = .ok (.ireturn, 1) := by decide +kernel
theorem dX8_init_0 : decode cX8_init 0 = .ok (.aload_n 0, 1) := by decide +kernel
theorem dX8_init_1 : decode cX8_init 1 = .ok (.invokespecial 1, 3) := by decide +kernel
theorem dX8_init_4 : decode cX8_init 4 = .ok (.aload_n 0, 1) := by decide +kernel
theorem dX8_init_5 : decode cX8_init 5 = .ok (.sipush 177, 3) := by decide +kernel
theorem dX8_init_8 : decode cX8_init 8 = .ok (.newarray .int, 2) := by decide +kernel
theorem dX8_init_10 : decode cX8_init 10 = .ok (.putfield 7, 3) := by decide +kernel
theorem dX8_init_13 : decode cX8_init 13 = .ok (.aload_n 0, 1) := by decide +kernel
theorem dX8_init_14 : decode cX8_init 14 = .ok (.sipush 1062, 3) := by decide +kernel
theorem dX8_init_17 : decode cX8_init 17 = .ok (.newarray .int, 2) := by decide +kernel
theorem dX8_init_19 : decode cX8_init 19 = .ok (.putfield 13, 3) := by decide +kernel
theorem dX8_init_22 : decode cX8_init 22 = .ok (.aload_n 0, 1) := by decide +kernel
theorem dX8_init_23 : decode cX8_init 23 = .ok (.bipush 60, 2) := by decide +kernel
theorem dX8_init_25 : decode cX8_init 25 = .ok (.newarray .int, 2) := by decide +kernel
theorem dX8_init_27 : decode cX8_init 27 = .ok (.putfield 16, 3) := by decide +kernel
theorem dX8_init_30 : decode cX8_init 30 = .ok (.aload_n 0, 1) := by decide +kernel
theorem dX8_init_31 : decode cX8_init 31 = .ok (.bipush 41, 2) := by decide +kernel
theorem dX8_init_33 : decode cX8_init 33 = .ok (.newarray .int, 2) := by decide +kernel
theorem dX8_init_35 : decode cX8_init 35 = .ok (.putfield 19, 3) := by decide +kernel
theorem dX8_init_38 : decode cX8_init 38 = .ok (.aload_n 0, 1) := by decide +kernel
theorem dX8_init_39 : decode cX8_init 39 = .ok (.bipush 41, 2) := by decide +kernel
theorem dX8_init_41 : decode cX8_init 41 = .ok (.newarray .int, 2) := by decide +kernel
theorem dX8_init_43 : decode cX8_init 43 = .ok (.putfield 22, 3) := by decide +kernel
theorem dX8_init_46 : decode cX8_init 46 = .ok (.aload_n 0, 1) := by decide +kernel
theorem dX8_init_47 : decode cX8_init 47 = .ok (.bipush 40, 2) := by decide +kernel
theorem dX8_init_49 : decode cX8_init 49 = .ok (.newarray .int, 2) := by decide +kernel
theorem dX8_init_51 : decode cX8_init 51 = .ok (.putfield 25, 3) := by decide +kernel
theorem dX8_init_54 : decode cX8_init 54 = .ok (.aload_n 0, 1) := by decide +kernel
theorem dX8_init_55 : decode cX8_init 55 = .ok (.bipush 40, 2) := by decide +kernel
theorem dX8_init_57 : decode cX8_init 57 = .ok (.newarray .int, 2) := by decide +kernel
theorem dX8_init_59 : decode cX8_init 59 = .ok (.putfield 28, 3) := by decide +kernel
theorem dX8_init_62 : decode cX8_init 62 = .ok (.aload_n 0, 1) := by decide +kernel
theorem dX8_init_63 : decode cX8_init 63 = .ok (.bipush 40, 2) := by decide +kernel
theorem dX8_init_65 : decode cX8_init 65 = .ok (.newarray .int, 2) := by decide +kernel
theorem dX8_init_67 : decode cX8_init 67 = .ok (.putfield 31, 3) := by decide +kernel
theorem dX8_init_70 : decode cX8_init 70 = .ok (.aload_n 0, 1) := by decide +kernel
theorem dX8_init_71 : decode cX8_init 71 = .ok (.bipush 9, 2) := by decide +kernel
theorem dX8_init_73 : decode cX8_init 73 = .ok (.newarray .int, 2) := by decide +kernel
theorem dX8_init_75 : decode cX8_init 75 = .ok (.putfield 34, 3) := by decide +kernel
theorem dX8_init_78 : decode cX8_init 78 = .ok (.aload_n 0, 1) := by decide +kernel
theorem dX8_init_79 : decode cX8_init 79 = .ok (.bipush 40, 2) := by decide +kernel
theorem dX8_init_81 : decode cX8_init 81 = .ok (.newarray .int, 2) := by decide +kernel
theorem dX8_init_83 : decode cX8_init 83 = .ok (.putfield 37, 3) := by decide +kernel
theorem dX8_init_86 : decode cX8_init 86 = .ok (.aload_n 0, 1) := by decide +kernel
theorem dX8_init_87 : decode cX8_init 87 = .ok (.bipush 40, 2) := by decide +kernel
theorem dX8_init_89 : decode cX8_init 89 = .ok (.newarray .int, 2) := by decide +kernel
theorem dX8_init_91 : decode cX8_init 91 = .ok (.putfield 40, 3) := by decide +kernel
theorem dX8_init_94 : decode cX8_init 94 = .ok (.aload_n 0, 1) := by decide +kernel
theorem dX8_init_95 : decode cX8_init 95 = .ok (.getfield 7, 3) := by decide +kernel
theorem dX8_init_98 : decode cX8_init 98 = .ok (.iconst 0, 1) := by decide +kernel
theorem dX8_init_99 : decode cX8_init 99 = .ok (.iconst 2, 1) := by decide +kernel
theorem dX8_init_100 : decode cX8_init 100 = .ok (.iastore, 1) := by decide +kernel
theorem dX8_init_101 : decode cX8_init 101 = .ok (.aload_n 0, 1) := by decide +kernel
theorem dX8_init_102 : decode cX8_init 102 = .ok (.getfield 7, 3) := by decide +kernel
theorem dX8_init_105 : decode cX8_init 105 = .ok (.iconst 1, 1) := by decide +kernel
theorem dX8_init_106 : decode cX8_init 106 = .ok (.iconst 2, 1) := by decide +kernel
theorem dX8_init_107 : decode cX8_init 107 = .ok (.iastore, 1) := by decide +kernel
theorem dX8_init_108 : decode cX8_init 108 = .ok (.aload_n 0, 1) := by decide +kernel
theorem dX8_init_109 : decode cX8_init 109 = .ok (.getfield 7, 3) := by decide +kernel
theorem dX8_init_112 : decode cX8_init 112 = .ok (.iconst 2, 1) := by decide +kernel
theorem dX8_init_113 : decode cX8_init 113 = .ok (.iconst 2, 1) := by decide +kernel
theorem dX8_init_114 : decode cX8_init 114 = .ok (.iastore, 1) := by decide +kernel
theorem dX8_init_115 : decode cX8_init 115 = .ok (.aload_n 0, 1) := by decide +kernel
theorem dX8_init_116 : decode cX8_init 116 = .ok (.getfield 7, 3) := by decide +kernel
theorem dX8_init_119 : decode cX8_init 119 = .ok (.iconst 3, 1) := by decide +kernel
theorem dX8_init_120 : decode cX8_init 120 = .ok (.iconst 3, 1) := by decide +kernel
theorem dX8_init_121 : decode cX8_init 121 = .ok (.iastore, 1) := by decide +kernel
theorem dX8_init_122 : decode cX8_init 122 = .ok (.aload_n 0, 1) := by decide +kernel
theorem dX8_init_123 : decode cX8_init 123 = .ok (.getfield 7, 3) := by decide +kernel
theorem dX8_init_126 : decode cX8_init 126 = .ok (.iconst 4, 1) := by decide +kernel
theorem dX8_init_127 : decode cX8_init 127 = .ok (.iconst 2, 1) := by decide +kernel
theorem dX8_init_128 : decode cX8_init 128 = .ok (.iastore, 1) := by decide +kernel
theorem dX8_init_129 : decode cX8_init 129 = .ok (.return_, 1) := by decide +kernel
theorem dX8_thrown_0 : decode cX8_thrown 0 = .ok (.aload_n 0, 1) := by decide +kernel
theorem dX8_thrown_1 : decode cX8_thrown 1 = .ok (.getfield 43, 3) := by decide +kernel
theorem dX8_thrown_4 : decode cX8_thrown 4 = .ok (.ireturn, 1) := by decide +kernel
theorem dX8_within_0 : decode cX8_within 0 = .ok (.iload_n 0, 1) := by decide +kernel
theorem dX8_within_1 : decode cX8_within 1 = .ok (.iload_n 1, 1) := by decide +kernel
theorem dX8_within_2 : decode cX8_within 2 = .ok (.if_icmp .lt 12, 3) := by decide +kernel
theorem dX8_within_5 : decode cX8_within 5 = .ok (.iload_n 0, 1) := by decide +kernel
theorem dX8_within_6 : decode cX8_within 6 = .ok (.iload_n 2, 1) := by decide +kernel
theorem dX8_within_7 : decode cX8_within 7 = .ok (.if_icmp .gt 7, 3) := by decide +kernel
theorem dX8_within_10 : decode cX8_within 10 = .ok (.iconst 1, 1) := by decide +kernel
theorem dX8_within_11 : decode cX8_within 11 = .ok (.goto 4, 3) := by decide +kernel
theorem dX8_within_14 : decode cX8_within 14 = .ok (.iconst 0, 1) := by decide +kernel
theorem dX8_within_15 : decode cX8_within 15 = .ok (.ireturn, 1) := by decide +kernel
theorem dX8_save_0 : decode cX8_save 0 = .ok (.aload_n 0, 1) := by decide +kernel
theorem dX8_save_1 : decode cX8_save 1 = .ok (.getfield 47, 3) := by decide +kernel
theorem dX8_save_4 : decode cX8_save 4 = .ok (.bipush 6, 2) := by decide +kernel
theorem dX8_save_6 : decode cX8_save 6 = .ok (.if_icmp .ne 46, 3) := by decide +kernel
theorem dX8_save_9 : decode cX8_save 9 = .ok (.sipush 177, 3) := by decide +kernel
theorem dX8_save_12 : decode cX8_save 12 = .ok (.istore_n 1, 1) := by decide +kernel
theorem dX8_save_13 : decode cX8_save 13 = .ok (.iload_n 1, 1) := by decide +kernel
theorem dX8_save_14 : decode cX8_save 14 = .ok (.sipush 1062, 3) := by decide +kernel
theorem dX8_save_17 : decode cX8_save 17 = .ok (.if_icmp .ge 25, 3) := by decide +kernel
theorem dX8_save_20 : decode cX8_save 20 = .ok (.aload_n 0, 1) := by decide +kernel
theorem dX8_save_21 : decode cX8_save 21 = .ok (.getfield 13, 3) := by decide +kernel
theorem dX8_save_24 : decode cX8_save 24 = .ok (.iload_n 1, 1) := by decide +kernel
theorem dX8_save_25 : decode cX8_save 25 = .ok (.sipush 177, 3) := by decide +kernel
theorem dX8_save_28 : decode cX8_save 28 = .ok (.isub, 1) := by decide +kernel
theorem dX8_save_29 : decode cX8_save 29 = .ok (.aload_n 0, 1) := by decide +kernel
theorem dX8_save_30 : decode cX8_save 30 = .ok (.getfield 13, 3) := by decide +kernel
theorem dX8_save_33 : decode cX8_save 33 = .ok (.iload_n 1, 1) := by decide +kernel
theorem dX8_save_34 : decode cX8_save 34 = .ok (.iaload, 1) := by decide +kernel
theorem dX8_save_35 : decode cX8_save 35 = .ok (.iastore, 1) := by decide +kernel
theorem dX8_save_36 : decode cX8_save 36 = .ok (.iinc 1 1, 3) := by decide +kernel
theorem dX8_save_39 : decode cX8_save 39 = .ok (.goto (-26), 3) := by decide +kernel
theorem dX8_save_42 : decode cX8_save 42 = .ok (.aload_n 0, 1) := by decide +kernel
theorem dX8_save_43 : decode cX8_save 43 = .ok (.dup, 1) := by decide +kernel
theorem dX8_save_44 : decode cX8_save 44 = .ok (.getfield 47, 3) := by decide +kernel
theorem dX8_save_47 : decode cX8_save 47 = .ok (.iconst 1, 1) := by decide +kernel
theorem dX8_save_48 : decode cX8_save 48 = .ok (.isub, 1) := by decide +kernel
theorem dX8_save_49 : decode cX8_save 49 = .ok (.putfield 47, 3) := by decide +kernel
theorem dX8_save_52 : decode cX8_save 52 = .ok (.iconst 0, 1) := by decide +kernel
theorem dX8_save_53 : decode cX8_save 53 = .ok (.istore_n 1, 1) := by decide +kernel
theorem dX8_save_54 : decode cX8_save 54 = .ok (.iload_n 1, 1) := by decide +kernel
theorem dX8_save_55 : decode cX8_save 55 = .ok (.sipush 177, 3) := by decide +kernel
theorem dX8_save_58 : decode cX8_save 58 = .ok (.if_icmp .ge 30, 3) := by decide +kernel
theorem dX8_save_61 : decode cX8_save 61 = .ok (.aload_n 0, 1) := by decide +kernel
theorem dX8_save_62 : decode cX8_save 62 = .ok (.getfield 13, 3) := by decide +kernel
theorem dX8_save_65 : decode cX8_save 65 = .ok (.sipush 177, 3) := by decide +kernel
theorem dX8_save_68 : decode cX8_save 68 = .ok (.aload_n 0, 1) := by decide +kernel
theorem dX8_save_69 : decode cX8_save 69 = .ok (.getfield 47, 3) := by decide +kernel
theorem dX8_save_72 : decode cX8_save 72 = .ok (.imul, 1) := by decide +kernel
theorem dX8_save_73 : decode cX8_save 73 = .ok (.iload_n 1, 1) := by decide +kernel
theorem dX8_save_74 : decode cX8_save 74 = .ok (.iadd, 1) := by decide +kernel
theorem dX8_save_75 : decode cX8_save 75 = .ok (.aload_n 0, 1) := by decide +kernel
theorem dX8_save_76 : decode cX8_save 76 = .ok (.getfield 7, 3) := by decide +kernel
theorem dX8_save_79 : decode cX8_save 79 = .ok (.iload_n 1, 1) := by decide +kernel
theorem dX8_save_80 : decode cX8_save 80 = .ok (.iaload, 1) := by decide +kernel
theorem dX8_save_81 : decode cX8_save 81 = .ok (.iastore, 1) := by decide +kernel
theorem dX8_save_82 : decode cX8_save 82 = .ok (.iinc 1 1, 3) := by decide +kernel
theorem dX8_save_85 : decode cX8_save 85 = .ok (.goto (-31), 3) := by decide +kernel
theorem dX8_save_88 : decode cX8_save 88 = .ok (.aload_n 0, 1) := by decide +kernel
theorem dX8_save_89 : decode cX8_save 89 = .ok (.dup, 1) := by decide +kernel
theorem dX8_save_90 : decode cX8_save 90 = .ok (.getfield 47, 3) := by decide +kernel
theorem dX8_save_93 : decode cX8_save 93 = .ok (.iconst 1, 1) := by decide +kernel
theorem dX8_save_94 : decode cX8_save 94 = .ok (.iadd, 1) := by decide +kernel
theorem dX8_save_95 : decode cX8_save 95 = .ok (.putfield 47, 3) := by decide +kernel
theorem dX8_save_98 : decode cX8_save 98 = .ok (.return_, 1) := by decide +kernel
theorem dX8_size_0 : decode cX8_size 0 = .ok (.iload_n 0, 1) := by decide +kernel
theorem dX8_size_1 : decode cX8_size 1 = .ok (.ifCond .ge 8, 3) := by decide +kernel
theorem dX8_size_4 : decode cX8_size 4 = .ok (.iload_n 0, 1) := by decide +kernel
theorem dX8_size_5 : decode cX8_size 5 = .ok (.ineg, 1) := by decide +kernel
theorem dX8_size_6 : decode cX8_size 6 = .ok (.goto 4, 3) := by decide +kernel
theorem dX8_size_9 : decode cX8_size 9 = .ok (.iload_n 0, 1) := by decide +kernel
theorem dX8_size_10 : decode cX8_size 10 = .ok (.ireturn, 1) := by decide +kernel
theorem dX8_greater_0 : decode cX8_greater 0 = .ok (.iload_n 0, 1) := by decide +kernel
theorem dX8_greater_1 : decode cX8_greater 1 = .ok (.iload_n 1, 1) := by decide +kernel
theorem dX8_greater_2 : decode cX8_greater 2 = .ok (.if_icmp .le 7, 3) := by decide +kernel
theorem dX8_greater_5 : decode cX8_greater 5 = .ok (.iload_n 0, 1) := by decide +kernel
theorem dX8_greater_6 : decode cX8_greater 6 = .ok (.goto 4, 3) := by decide +kernel
theorem dX8_greater_9 : decode cX8_greater 9 = .ok (.iload_n 1, 1) := by decide +kernel
theorem dX8_greater_10 : decode cX8_greater 10 = .ok (.ireturn, 1) := by decide +kernel
theorem dX8_isOnLattice_0 : decode cX8_isOnLattice 0 = .ok (.iload_n 0, 1) := by decide +kernel
theorem dX8_isOnLattice_1 : decode cX8_isOnLattice 1 = .ok (.iconst 0, 1) := by decide +kernel
theorem dX8_isOnLattice_2 : decode cX8_isOnLattice 2 = .ok (.bipush 31, 2) := by decide +kernel
theorem dX8_isOnLattice_4 : decode cX8_isOnLattice 4 = .ok (.invokestatic 50, 3) := by decide +kernel
theorem dX8_isOnLattice_7 : decode cX8_isOnLattice 7 = .ok (.ifCond .eq 17, 3) := by decide +kernel
theorem dX8_isOnLattice_10 : decode cX8_isOnLattice 10 = .ok (.iload_n 1, 1) := by decide +kernel
theorem dX8_isOnLattice_11 : decode cX8_isOnLattice 11 = .ok (.iconst 0, 1) := by decide +kernel
theorem dX8_isOnLattice_12 : decode cX8_isOnLattice 12 = .ok (.bipush 31, 2) := by decide +kernel
theorem dX8_isOnLattice_14 : decode cX8_isOnLattice 14 = .ok (.invokestatic 50, 3) := by decide +kernel
theorem dX8_isOnLattice_17 : decode cX8_isOnLattice 17 = .ok (.ifCond .eq 7, 3) := by decide +kernel
theorem dX8_isOnLattice_20 : decode cX8_isOnLattice 20 = .ok (.iconst 1, 1) := by decide +kernel
theorem dX8_isOnLattice_21 : decode cX8_isOnLattice 21 = .ok (.goto 4, 3) := by decide +kernel
theorem dX8_isOnLattice_24 : decode cX8_isOnLattice 24 = .ok (.iconst 0, 1) := by decide +kernel
theorem dX8_isOnLattice_25 : decode cX8_isOnLattice 25 = .ok (.ireturn, 1) := by decide +kernel
theorem dX8_isDirection_0 : decode cX8_isDirection 0 = .ok (.iload_n 0, 1) := by decide +kernel
theorem dX8_isDirection_1 : decode cX8_isDirection 1 = .ok (.iconst 0, 1) := by decide +kernel
theorem dX8_isDirection_2 : decode cX8_isDirection 2 = .ok (.bipush 7, 2) := by decide +kernel
theorem dX8_isDirection_4 : decode cX8_isDirection 4 = .ok (.invokestatic 50, 3) := by decide +kernel
theorem dX8_isDirection_7 : decode cX8_isDirection 7 = .ok (.ireturn, 1) := by decide +kernel
theorem dX8_isCommand_0 : decode cX8_isCommand 0 = .ok (.iload_n 1, 1) := by decide +kernel
theorem dX8_isCommand_1 : decode cX8_isCommand 1 = .ok (.iconst 0, 1) := by decide +kernel
theorem dX8_isCommand_2 : decode cX8_isCommand 2 = .ok (.aload_n 0, 1) := by decide +kernel
theorem dX8_isCommand_3 : decode cX8_isCommand 3 = .ok (.getfield 7, 3) := by decide +kernel
theorem dX8_isCommand_6 : decode cX8_isCommand 6 = .ok (.bipush 6, 2) := by decide +kernel
theorem dX8_isCommand_8 : decode cX8_isCommand 8 = .ok (.iaload, 1) := by decide +kernel
theorem dX8_isCommand_9 : decode cX8_isCommand 9 = .ok (.iconst 1, 1) := by decide +kernel
theorem dX8_isCommand_10 : decode cX8_isCommand 10 = .ok (.isub, 1) := by decide +kernel
theorem dX8_isCommand_11 : decode cX8_isCommand 11 = .ok (.invokestatic 50, 3) := by decide +kernel
theorem dX8_isCommand_14 : decode cX8_isCommand 14 = .ok (.ireturn, 1) := by decide +kernel
theorem dX8_directionsOf_0 : decode cX8_directionsOf 0 = .ok (.aload_n 0, 1) := by decide +kernel
theorem dX8_directionsOf_1 : decode cX8_directionsOf 1 = .ok (.getfield 7, 3) := by decide +kernel
theorem dX8_directionsOf_4 : decode cX8_directionsOf 4 = .ok (.bipush 87, 2) := by decide +kernel
theorem dX8_directionsOf_6 : decode cX8_directionsOf 6 = .ok (.bipush 9, 2) := by decide +kernel
theorem dX8_directionsOf_8 : decode cX8_directionsOf 8 = .ok (.iload_n 1, 1) := by decide +kernel
theorem dX8_directionsOf_9 : decode cX8_directionsOf 9 = .ok (.imul, 1) := by decide +kernel
theorem dX8_directionsOf_10 : decode cX8_directionsOf 10 = .ok (.iadd, 1) := by decide +kernel
theorem dX8_directionsOf_11 : decode cX8_directionsOf 11 = .ok (.iaload, 1) := by decide +kernel
theorem dX8_directionsOf_12 : decode cX8_directionsOf 12 = .ok (.ireturn, 1) := by decide +kernel
theorem dX8_directionOf_0 : decode cX8_directionOf 0 = .ok (.aload_n 0, 1) := by decide +kernel
theorem dX8_directionOf_1 : decode cX8_directionOf 1 = .ok (.getfield 7, 3) := by decide +kernel
theorem dX8_directionOf_4 : decode cX8_directionOf 4 = .ok (.bipush 87, 2) := by decide +kernel
theorem dX8_directionOf_6 : decode cX8_directionOf 6 = .ok (.bipush 9, 2) := by decide +kernel
theorem dX8_directionOf_8 : decode cX8_directionOf 8 = .ok (.iload_n 1, 1) := by decide +kernel
theorem dX8_directionOf_9 : decode cX8_directionOf 9 = .ok (.imul, 1) := by decide +kernel
theorem dX8_directionOf_10 : decode cX8_directionOf 10 = .ok (.iadd, 1) := by decide +kernel
theorem dX8_directionOf_11 : decode cX8_directionOf 11 = .ok (.iconst 1, 1) := by decide +kernel
theorem dX8_directionOf_12 : decode cX8_directionOf 12 = .ok (.iadd, 1) := by decide +kernel
theorem dX8_directionOf_13 : decode cX8_directionOf 13 = .ok (.iload_n 2, 1) := by decide +kernel
theorem dX8_directionOf_14 : decode cX8_directionOf 14 = .ok (.iadd, 1) := by decide +kernel
theorem dX8_directionOf_15 : decode cX8_directionOf 15 = .ok (.iaload, 1) := by decide +kernel
theorem dX8_directionOf_16 : decode cX8_directionOf 16 = .ok (.ireturn, 1) := by decide +kernel
theorem dX8_across_0 : decode cX8_across 0 = .ok (.iload_n 0, 1) := by decide +kernel
theorem dX8_across_1 : decode cX8_across 1 = .ok (.bipush 7, 2) := by decide +kernel
theorem dX8_across_3 : decode cX8_across 3 = .ok (.iand, 1) := by decide +kernel
theorem dX8_across_4 : decode cX8_across 4 = .ok (.istore_n 1, 1) := by decide +kernel
theorem dX8_across_5 : decode cX8_across 5 = .ok (.iload_n 1, 1) := by decide +kernel
theorem dX8_across_6 : decode cX8_across 6 = .ok (.ifCond .eq 14, 3) := by decide +kernel
theorem dX8_across_9 : decode cX8_across 9 = .ok (.iload_n 1, 1) := by decide +kernel
theorem dX8_across_10 : decode cX8_across 10 = .ok (.iconst 1, 1) := by decide +kernel
theorem dX8_across_11 : decode cX8_across 11 = .ok (.if_icmp .eq 9, 3) := by decide +kernel
theorem dX8_across_14 : decode cX8_across 14 = .ok (.iload_n 1, 1) := by decide +kernel
theorem dX8_across_15 : decode cX8_across 15 = .ok (.bipush 7, 2) := by decide +kernel
theorem dX8_across_17 : decode cX8_across 17 = .ok (.if_icmp .ne 7, 3) := by decide +kernel
theorem dX8_across_20 : decode cX8_across 20 = .ok (.iconst 1, 1) := by decide +kernel
theorem dX8_across_21 : decode cX8_across 21 = .ok (.goto 19, 3) := by decide +kernel
theorem dX8_across_24 : decode cX8_across 24 = .ok (.iload_n 1, 1) := by decide +kernel
theorem dX8_across_25 : decode cX8_across 25 = .ok (.iconst 2, 1) := by decide +kernel
theorem dX8_across_26 : decode cX8_across 26 = .ok (.if_icmp .eq 9, 3) := by decide +kernel
theorem dX8_across_29 : decode cX8_across 29 = .ok (.iload_n 1, 1) := by decide +kernel
theorem dX8_across_30 : decode cX8_across 30 = .ok (.bipush 6, 2) := by decide +kernel
theorem dX8_across_32 : decode cX8_across 32 = .ok (.if_icmp .ne 7, 3) := by decide +kernel
theorem dX8_across_35 : decode cX8_across 35 = .ok (.iconst 0, 1) := by decide +kernel
theorem dX8_across_36 : decode cX8_across 36 = .ok (.goto 4, 3) := by decide +kernel
theorem dX8_across_39 : decode cX8_across 39 = .ok (.iconst (-1), 1) := by decide +kernel
theorem dX8_across_40 : decode cX8_across 40 = .ok (.ireturn, 1) := by decide +kernel
theorem dX8_down_0 : decode cX8_down 0 = .ok (.iload_n 0, 1) := by decide +kernel
theorem dX8_down_1 : decode cX8_down 1 = .ok (.bipush 6, 2) := by decide +kernel
theorem dX8_down_3 : decode cX8_down 3 = .ok (.iadd, 1) := by decide +kernel
theorem dX8_down_4 : decode cX8_down 4 = .ok (.invokestatic 54, 3) := by decide +kernel
theorem dX8_down_7 : decode cX8_down 7 = .ok (.ireturn, 1) := by decide +kernel
theorem dX8_directionBy_0 : decode cX8_directionBy 0 = .ok (.iconst (-1), 1) := by decide +kernel
theorem dX8_directionBy_1 : decode cX8_directionBy 1 = .ok (.istore_n 2, 1) := by decide +kernel
theorem dX8_directionBy_2 : decode cX8_directionBy 2 = .ok (.iconst 0, 1) := by decide +kernel
theorem dX8_directionBy_3 : decode cX8_directionBy 3 = .ok (.istore_n 3, 1) := by decide +kernel
theorem dX8_directionBy_4 : decode cX8_directionBy 4 = .ok (.iload_n 3, 1) := by decide +kernel
theorem dX8_directionBy_5 : decode cX8_directionBy 5 = .ok (.bipush 8, 2) := by decide +kernel
theorem dX8_directionBy_7 : decode cX8_directionBy 7 = .ok (.if_icmp .ge 113, 3) := by decide +kernel
theorem dX8_directionBy_10 : decode cX8_directionBy 10 = .ok (.iload_n 3, 1) := by decide +kernel
theorem dX8_directionBy_11 : decode cX8_directionBy 11 = .ok (.invokestatic 54, 3) := by decide +kernel
theorem dX8_directionBy_14 : decode cX8_directionBy 14 = .ok (.iload_n 0, 1) := by decide +kernel
theorem dX8_directionBy_15 : decode cX8_directionBy 15 = .ok (.invokestatic 58, 3) := by decide +kernel
theorem dX8_directionBy_18 : decode cX8_directionBy 18 = .ok (.imul, 1) := by decide +kernel
theorem dX8_directionBy_19 : decode cX8_directionBy 19 = .ok (.iload_n 0, 1) := by decide +kernel
theorem dX8_directionBy_20 : decode cX8_directionBy 20 = .ok (.if_icmp .ne 20, 3) := by decide +kernel
theorem dX8_directionBy_23 : decode cX8_directionBy 23 = .ok (.iload_n 3, 1) := by decide +kernel
theorem dX8_directionBy_24 : decode cX8_directionBy 24 = .ok (.invokestatic 61, 3) := by decide +kernel
theorem dX8_directionBy_27 : decode cX8_directionBy 27 = .ok (.iload_n 1, 1) := by decide +kernel
theorem dX8_directionBy_28 : decode cX8_directionBy 28 = .ok (.invokestatic 58, 3) := by decide +kernel
theorem dX8_directionBy_31 : decode cX8_directionBy 31 = .ok (.imul, 1) := by decide +kernel
theorem dX8_directionBy_32 : decode cX8_directionBy 32 = .ok (.iload_n 1, 1) := by decide +kernel
theorem dX8_directionBy_33 : decode cX8_directionBy 33 = .ok (.if_icmp .ne 7, 3) := by decide +kernel
theorem dX8_directionBy_36 : decode cX8_directionBy 36 = .ok (.iconst 1, 1) := by decide +kernel
theorem dX8_directionBy_37 : decode cX8_directionBy 37 = .ok (.goto 4, 3) := by decide +kernel
theorem dX8_directionBy_40 : decode cX8_directionBy 40 = .ok (.iconst 0, 1) := by decide +kernel
theorem dX8_directionBy_41 : decode cX8_directionBy 41 = .ok (.istore 4, 2) := by decide +kernel
theorem dX8_directionBy_43 : decode cX8_directionBy 43 = .ok (.iload_n 3, 1) := by decide +kernel
theorem dX8_directionBy_44 : decode cX8_directionBy 44 = .ok (.invokestatic 54, 3) := by decide +kernel
theorem dX8_directionBy_47 : decode cX8_directionBy 47 = .ok (.ifCond .ne 7, 3) := by decide +kernel
theorem dX8_directionBy_50 : decode cX8_directionBy 50 = .ok (.iconst 1, 1) := by decide +kernel
theorem dX8_directionBy_51 : decode cX8_directionBy 51 = .ok (.goto 4, 3) := by decide +kernel
theorem dX8_directionBy_54 : decode cX8_directionBy 54 = .ok (.iconst 0, 1) := by decide +kernel
theorem dX8_directionBy_55 : decode cX8_directionBy 55 = .ok (.iload_n 0, 1) := by decide +kernel
theorem dX8_directionBy_56 : decode cX8_directionBy 56 = .ok (.ifCond .ne 7, 3) := by decide +kernel
theorem dX8_directionBy_59 : decode cX8_directionBy 59 = .ok (.iconst 1, 1) := by decide +kernel
theorem dX8_directionBy_60 : decode cX8_directionBy 60 = .ok (.goto 4, 3) := by decide +kernel
theorem dX8_directionBy_63 : decode cX8_directionBy 63 = .ok (.iconst 0, 1) := by decide +kernel
theorem dX8_directionBy_64 : decode cX8_directionBy 64 = .ok (.if_icmp .ne 31, 3) := by decide +kernel
theorem dX8_directionBy_67 : decode cX8_directionBy 67 = .ok (.iload_n 3, 1) := by decide +kernel
theorem dX8_directionBy_68 : decode cX8_directionBy 68 = .ok (.invokestatic 61, 3) := by decide +kernel
theorem dX8_directionBy_71 : decode cX8_directionBy 71 = .ok (.ifCond .ne 7, 3) := by decide +kernel
theorem dX8_directionBy_74 : decode cX8_directionBy 74 = .ok (.iconst 1, 1) := by decide +kernel
theorem dX8_directionBy_75 : decode cX8_directionBy 75 = .ok (.goto 4, 3) := by decide +kernel
theorem dX8_directionBy_78 : decode cX8_directionBy 78 = .ok (.iconst 0, 1) := by decide +kernel
theorem dX8_directionBy_79 : decode cX8_directionBy 79 = .ok (.iload_n 1, 1) := by decide +kernel
theorem dX8_directionBy_80 : decode cX8_directionBy 80 = .ok (.ifCond .ne 7, 3) := by decide +kernel
theorem dX8_directionBy_83 : decode cX8_directionBy 83 = .ok (.iconst 1, 1) := by decide +kernel
theorem dX8_directionBy_84 : decode cX8_directionBy 84 = .ok (.goto 4, 3) := by decide +kernel
theorem dX8_directionBy_87 : decode cX8_directionBy 87 = .ok (.iconst 0, 1) := by decide +kernel
theorem dX8_directionBy_88 : decode cX8_directionBy 88 = .ok (.if_icmp .ne 7, 3) := by decide +kernel
theorem dX8_directionBy_91 : decode cX8_directionBy 91 = .ok (.iconst 1, 1) := by decide +kernel
theorem dX8_directionBy_92 : decode cX8_directionBy 92 = .ok (.goto 4, 3) := by decide +kernel
theorem dX8_directionBy_95 : decode cX8_directionBy 95 = .ok (.iconst 0, 1) := by decide +kernel
theorem dX8_directionBy_96 : decode cX8_directionBy 96 = .ok (.istore 5, 2) := by decide +kernel
theorem dX8_directionBy_98 : decode cX8_directionBy 98 = .ok (.iload 4, 2) := by decide +kernel
theorem dX8_directionBy_100 : decode cX8_directionBy 100 = .ok (.ifCond .eq 12, 3) := by decide +kernel
theorem dX8_directionBy_103 : decode cX8_directionBy 103 = .ok (.iload 5, 2) := by decide +kernel
theorem dX8_directionBy_105 : decode cX8_directionBy 105 = .ok (.ifCond .eq 7, 3) := by decide +kernel
theorem dX8_directionBy_108 : decode cX8_directionBy 108 = .ok (.iload_n 3, 1) := by decide +kernel
theorem dX8_directionBy_109 : decode cX8_directionBy 109 = .ok (.goto 4, 3) := by decide +kernel
theorem dX8_directionBy_112 : decode cX8_directionBy 112 = .ok (.iload_n 2, 1) := by decide +kernel
theorem dX8_directionBy_113 : decode cX8_directionBy 113 = .ok (.istore_n 2, 1) := by decide +kernel
theorem dX8_directionBy_114 : decode cX8_directionBy 114 = .ok (.iinc 3 1, 3) := by decide +kernel
theorem dX8_directionBy_117 : decode cX8_directionBy 117 = .ok (.goto (-113), 3) := by decide +kernel
theorem dX8_directionBy_120 : decode cX8_directionBy 120 = .ok (.iload_n 2, 1) := by decide +kernel
theorem dX8_directionBy_121 : decode cX8_directionBy 121 = .ok (.ireturn, 1) := by decide +kernel
theorem dX8_eighths_0 : decode cX8_eighths 0 = .ok (.iload_n 0, 1) := by decide +kernel
theorem dX8_eighths_1 : decode cX8_eighths 1 = .ok (.iload_n 1, 1) := by decide +kernel
theorem dX8_eighths_2 : decode cX8_eighths 2 = .ok (.isub, 1) := by decide +kernel
theorem dX8_eighths_3 : decode cX8_eighths 3 = .ok (.invokestatic 58, 3) := by decide +kernel
theorem dX8_eighths_6 : decode cX8_eighths 6 = .ok (.istore_n 2, 1) := by decide +kernel
theorem dX8_eighths_7 : decode cX8_eighths 7 = .ok (.iload_n 2, 1) := by decide +kernel
theorem dX8_eighths_8 : decode cX8_eighths 8 = .ok (.iconst 4, 1) := by decide +kernel
theorem dX8_eighths_9 : decode cX8_eighths 9 = .ok (.if_icmp .le 10, 3) := by decide +kernel
theorem dX8_eighths_12 : decode cX8_eighths 12 = .ok (.bipush 8, 2) := by decide +kernel
theorem dX8_eighths_14 : decode cX8_eighths 14 = .ok (.iload_n 2, 1) := by decide +kernel
theorem dX8_eighths_15 : decode cX8_eighths 15 = .ok (.isub, 1) := by decide +kernel
theorem dX8_eighths_16 : decode cX8_eighths 16 = .ok (.goto 4, 3) := by decide +kernel
theorem dX8_eighths_19 : decode cX8_eighths 19 = .ok (.iload_n 2, 1) := by decide +kernel
theorem dX8_eighths_20 : decode cX8_eighths 20 = .ok (.ireturn, 1) := by decide +kernel
theorem dX8_takePath_0 : decode cX8_takePath 0 = .ok (.aload_n 0, 1) := by decide +kernel
theorem dX8_takePath_1 : decode cX8_takePath 1 = .ok (.aload_n 0, 1) := by decide +kernel
theorem dX8_takePath_2 : decode cX8_takePath 2 = .ok (.getfield 7, 3) := by decide +kernel
theorem dX8_takePath_5 : decode cX8_takePath 5 = .ok (.iconst 5, 1) := by decide +kernel
theorem dX8_takePath_6 : decode cX8_takePath 6 = .ok (.iaload, 1) := by decide +kernel
theorem dX8_takePath_7 : decode cX8_takePath 7 = .ok (.putfield 64, 3) := by decide +kernel
theorem dX8_takePath_10 : decode cX8_takePath 10 = .ok (.iconst 0, 1) := by decide +kernel
theorem dX8_takePath_11 : decode cX8_takePath 11 = .ok (.istore_n 1, 1) := by decide +kernel
theorem dX8_takePath_12 : decode cX8_takePath 12 = .ok (.iload_n 1, 1) := by decide +kernel
theorem dX8_takePath_13 : decode cX8_takePath 13 = .ok (.aload_n 0, 1) := by decide +kernel
theorem dX8_takePath_14 : decode cX8_takePath 14 = .ok (.getfield 64, 3) := by decide +kernel
theorem dX8_takePath_17 : decode cX8_takePath 17 = .ok (.if_icmp .ge 45, 3) := by decide +kernel
theorem dX8_takePath_20 : decode cX8_takePath 20 = .ok (.aload_n 0, 1) := by decide +kernel
theorem dX8_takePath_21 : decode cX8_takePath 21 = .ok (.getfield 19, 3) := by decide +kernel
theorem dX8_takePath_24 : decode cX8_takePath 24 = .ok (.iload_n 1, 1) := by decide +kernel
theorem dX8_takePath_25 : decode cX8_takePath 25 = .ok (.aload_n 0, 1) := by decide +kernel
theorem dX8_takePath_26 : decode cX8_takePath 26 = .ok (.getfield 7, 3) := by decide +kernel
theorem dX8_takePath_29 : decode cX8_takePath 29 = .ok (.bipush 7, 2) := by decide +kernel
theorem dX8_takePath_31 : decode cX8_takePath 31 = .ok (.iconst 2, 1) := by decide +kernel
theorem dX8_takePath_32 : decode cX8_takePath 32 = .ok (.iload_n 1, 1) := by decide +kernel
theorem dX8_takePath_33 : decode cX8_takePath 33 = .ok (.imul, 1) := by decide +kernel
theorem dX8_takePath_34 : decode cX8_takePath 34 = .ok (.iadd, 1) := by decide +kernel
theorem dX8_takePath_35 : decode cX8_takePath 35 = .ok (.iaload, 1) := by decide +kernel
theorem dX8_takePath_36 : decode cX8_takePath 36 = .ok (.iastore, 1) := by decide +kernel
theorem dX8_takePath_37 : decode cX8_takePath 37 = .ok (.aload_n 0, 1) := by decide +kernel
theorem dX8_takePath_38 : decode cX8_takePath 38 = .ok (.getfield 22, 3) := by decide +kernel
theorem dX8_takePath_41 : decode cX8_takePath 41 = .ok (.iload_n 1, 1) := by decide +kernel
theorem dX8_takePath_42 : decode cX8_takePath 42 = .ok (.aload_n 0, 1) := by decide +kernel
theorem dX8_takePath_43 : decode cX8_takePath 43 = .ok (.getfield 7, 3) := by decide +kernel
theorem dX8_takePath_46 : decode cX8_takePath 46 = .ok (.bipush 7, 2) := by decide +kernel
theorem dX8_takePath_48 : decode cX8_takePath 48 = .ok (.iconst 2, 1) := by decide +kernel
theorem dX8_takePath_49 : decode cX8_takePath 49 = .ok (.iload_n 1, 1) := by decide +kernel
theorem dX8_takePath_50 : decode cX8_takePath 50 = .ok (.imul, 1) := by decide +kernel
theorem dX8_takePath_51 : decode cX8_takePath 51 = .ok (.iadd, 1) := by decide +kernel
theorem dX8_takePath_52 : decode cX8_takePath 52 = .ok (.iconst 1, 1) := by decide +kernel
theorem dX8_takePath_53 : decode cX8_takePath 53 = .ok (.iadd, 1) := by decide +kernel
theorem dX8_takePath_54 : decode cX8_takePath 54 = .ok (.iaload, 1) := by decide +kernel
theorem dX8_takePath_55 : decode cX8_takePath 55 = .ok (.iastore, 1) := by decide +kernel
theorem dX8_takePath_56 : decode cX8_takePath 56 = .ok (.iinc 1 1, 3) := by decide +kernel
theorem dX8_takePath_59 : decode cX8_takePath 59 = .ok (.goto (-47), 3) := by decide +kernel
theorem dX8_takePath_62 : decode cX8_takePath 62 = .ok (.return_, 1) := by decide +kernel
theorem dX8_stepDirection_0 : decode cX8_stepDirection 0 = .ok (.iload_n 1, 1) := by decide +kernel
theorem dX8_stepDirection_1 : decode cX8_stepDirection 1 = .ok (.ifCond .ne 7, 3) := by decide +kernel
theorem dX8_stepDirection_4 : decode cX8_stepDirection 4 = .ok (.iconst (-1), 1) := by decide +kernel
theorem dX8_stepDirection_5 : decode cX8_stepDirection 5 = .ok (.goto 36, 3) := by decide +kernel
theorem dX8_stepDirection_8 : decode cX8_stepDirection 8 = .ok (.aload_n 0, 1) := by decide +kernel
theorem dX8_stepDirection_9 : decode cX8_stepDirection 9 = .ok (.getfield 19, 3) := by decide +kernel
theorem dX8_stepDirection_12 : decode cX8_stepDirection 12 = .ok (.iload_n 1, 1) := by decide +kernel
theorem dX8_stepDirection_13 : decode cX8_stepDirection 13 = .ok (.iaload, 1) := by decide +kernel
theorem dX8_stepDirection_14 : decode cX8_stepDirection 14 = .ok (.aload_n 0, 1) := by decide +kernel
theorem dX8_stepDirection_15 : decode cX8_stepDirection 15 = .ok (.getfield 19, 3) := by decide +kernel
theorem dX8_stepDirection_18 : decode cX8_stepDirection 18 = .ok (.iload_n 1, 1) := by decide +kernel
theorem dX8_stepDirection_19 : decode cX8_stepDirection 19 = .ok (.iconst 1, 1) := by decide +kernel
theorem dX8_stepDirection_20 : decode cX8_stepDirection 20 = .ok (.isub, 1) := by decide +kernel
theorem dX8_stepDirection_21 : decode cX8_stepDirection 21 = .ok (.iaload, 1) := by decide +kernel
theorem dX8_stepDirection_22 : decode cX8_stepDirection 22 = .ok (.isub, 1) := by decide +kernel
theorem dX8_stepDirection_23 : decode cX8_stepDirection 23 = .ok (.aload_n 0, 1) := by decide +kernel
theorem dX8_stepDirection_24 : decode cX8_stepDirection 24 = .ok (.getfield 22, 3) := by decide +kernel
theorem dX8_stepDirection_27 : decode cX8_stepDirection 27 = .ok (.iload_n 1, 1) := by decide +kernel
theorem dX8_stepDirection_28 : decode cX8_stepDirection 28 = .ok (.iaload, 1) := by decide +kernel
theorem dX8_stepDirection_29 : decode cX8_stepDirection 29 = .ok (.aload_n 0, 1) := by decide +kernel
theorem dX8_stepDirection_30 : decode cX8_stepDirection 30 = .ok (.getfield 22, 3) := by decide +kernel
theorem dX8_stepDirection_33 : decode cX8_stepDirection 33 = .ok (.iload_n 1, 1) := by decide +kernel
theorem dX8_stepDirection_34 : decode cX8_stepDirection 34 = .ok (.iconst 1, 1) := by decide +kernel
theorem dX8_stepDirection_35 : decode cX8_stepDirection 35 = .ok (.isub, 1) := by decide +kernel
theorem dX8_stepDirection_36 : decode cX8_stepDirection 36 = .ok (.iaload, 1) := by decide +kernel
theorem dX8_stepDirection_37 : decode cX8_stepDirection 37 = .ok (.isub, 1) := by decide +kernel
theorem dX8_stepDirection_38 : decode cX8_stepDirection 38 = .ok (.invokestatic 67, 3) := by decide +kernel
theorem dX8_stepDirection_41 : decode cX8_stepDirection 41 = .ok (.ireturn, 1) := by decide +kernel
theorem dX8_stepLength_0 : decode cX8_stepLength 0 = .ok (.iload_n 1, 1) := by decide +kernel
theorem dX8_stepLength_1 : decode cX8_stepLength 1 = .ok (.ifCond .ne 7, 3) := by decide +kernel
theorem dX8_stepLength_4 : decode cX8_stepLength 4 = .ok (.iconst 0, 1) := by decide +kernel
theorem dX8_stepLength_5 : decode cX8_stepLength 5 = .ok (.goto 42, 3) := by decide +kernel
theorem dX8_stepLength_8 : decode cX8_stepLength 8 = .ok (.aload_n 0, 1) := by decide +kernel
theorem dX8_stepLength_9 : decode cX8_stepLength 9 = .ok (.getfield 19, 3) := by decide +kernel
theorem dX8_stepLength_12 : decode cX8_stepLength 12 = .ok (.iload_n 1, 1) := by decide +kernel
theorem dX8_stepLength_13 : decode cX8_stepLength 13 = .ok (.iaload, 1) := by decide +kernel
theorem dX8_stepLength_14 : decode cX8_stepLength 14 = .ok (.aload_n 0, 1) := by decide +kernel
theorem dX8_stepLength_15 : decode cX8_stepLength 15 = .ok (.getfield 19, 3) := by decide +kernel
theorem dX8_stepLength_18 : decode cX8_stepLength 18 = .ok (.iload_n 1, 1) := by decide +kernel
theorem dX8_stepLength_19 : decode cX8_stepLength 19 = .ok (.iconst 1, 1) := by decide +kernel
theorem dX8_stepLength_20 : decode cX8_stepLength 20 = .ok (.isub, 1) := by decide +kernel
theorem dX8_stepLength_21 : decode cX8_stepLength 21 = .ok (.iaload, 1) := by decide +kernel
theorem dX8_stepLength_22 : decode cX8_stepLength 22 = .ok (.isub, 1) := by decide +kernel
theorem dX8_stepLength_23 : decode cX8_stepLength 23 = .ok (.invokestatic 58, 3) := by decide +kernel
theorem dX8_stepLength_26 : decode cX8_stepLength 26 = .ok (.aload_n 0, 1) := by decide +kernel
theorem dX8_stepLength_27 : decode cX8_stepLength 27 = .ok (.getfield 22, 3) := by decide +kernel
theorem dX8_stepLength_30 : decode cX8_stepLength 30 = .ok (.iload_n 1, 1) := by decide +kernel
theorem dX8_stepLength_31 : decode cX8_stepLength 31 = .ok (.iaload, 1) := by decide +kernel
theorem dX8_stepLength_32 : decode cX8_stepLength 32 = .ok (.aload_n 0, 1) := by decide +kernel
theorem dX8_stepLength_33 : decode cX8_stepLength 33 = .ok (.getfield 22, 3) := by decide +kernel
theorem dX8_stepLength_36 : decode cX8_stepLength 36 = .ok (.iload_n 1, 1) := by decide +kernel
theorem dX8_stepLength_37 : decode cX8_stepLength 37 = .ok (.iconst 1, 1) := by decide +kernel
theorem dX8_stepLength_38 : decode cX8_stepLength 38 = .ok (.isub, 1) := by decide +kernel
theorem dX8_stepLength_39 : decode cX8_stepLength 39 = .ok (.iaload, 1) := by decide +kernel
theorem dX8_stepLength_40 : decode cX8_stepLength 40 = .ok (.isub, 1) := by decide +kernel
theorem dX8_stepLength_41 : decode cX8_stepLength 41 = .ok (.invokestatic 58, 3) := by decide +kernel
theorem dX8_stepLength_44 : decode cX8_stepLength 44 = .ok (.invokestatic 71, 3) := by decide +kernel
theorem dX8_stepLength_47 : decode cX8_stepLength 47 = .ok (.ireturn, 1) := by decide +kernel
theorem dX8_layRuns_0 : decode cX8_layRuns 0 = .ok (.aload_n 0, 1) := by decide +kernel
theorem dX8_layRuns_1 : decode cX8_layRuns 1 = .ok (.iconst 0, 1) := by decide +kernel
theorem dX8_layRuns_2 : decode cX8_layRuns 2 = .ok (.putfield 74, 3) := by decide +kernel
theorem dX8_layRuns_5 : decode cX8_layRuns 5 = .ok (.iconst 1, 1) := by decide +kernel
theorem dX8_layRuns_6 : decode cX8_layRuns 6 = .ok (.istore_n 1, 1) := by decide +kernel
theorem dX8_layRuns_7 : decode cX8_layRuns 7 = .ok (.iload_n 1, 1) := by decide +kernel
theorem dX8_layRuns_8 : decode cX8_layRuns 8 = .ok (.aload_n 0, 1) := by decide +kernel
theorem dX8_layRuns_9 : decode cX8_layRuns 9 = .ok (.getfield 64, 3) := by decide +kernel
theorem dX8_layRuns_12 : decode cX8_layRuns 12 = .ok (.if_icmp .ge 91, 3) := by decide +kernel
theorem dX8_layRuns_15 : decode cX8_layRuns 15 = .ok (.aload_n 0, 1) := by decide +kernel
theorem dX8_layRuns_16 : decode cX8_layRuns 16 = .ok (.iload_n 1, 1) := by decide +kernel
theorem dX8_layRuns_17 : decode cX8_layRuns 17 = .ok (.invokevirtual 77, 3) := by decide +kernel
theorem dX8_layRuns_20 : decode cX8_layRuns 20 = .ok (.istore_n 2, 1) := by decide +kernel
theorem dX8_layRuns_21 : decode cX8_layRuns 21 = .ok (.iload_n 2, 1) := by decide +kernel
theorem dX8_layRuns_22 : decode cX8_layRuns 22 = .ok (.iconst (-1), 1) := by decide +kernel
theorem dX8_layRuns_23 : decode cX8_layRuns 23 = .ok (.if_icmp .eq 74, 3) := by decide +kernel
theorem dX8_layRuns_26 : decode cX8_layRuns 26 = .ok (.aload_n 0, 1) := by decide +kernel
theorem dX8_layRuns_27 : decode cX8_layRuns 27 = .ok (.getfield 74, 3) := by decide +kernel
theorem dX8_layRuns_30 : decode cX8_layRuns 30 = .ok (.ifCond .eq 18, 3) := by decide +kernel
theorem dX8_layRuns_33 : decode cX8_layRuns 33 = .ok (.aload_n 0, 1) := by decide +kernel
theorem dX8_layRuns_34 : decode cX8_layRuns 34 = .ok (.getfield 25, 3) := by decide +kernel
theorem dX8_layRuns_37 : decode cX8_layRuns 37 = .ok (.aload_n 0, 1) := by decide +kernel
theorem dX8_layRuns_38 : decode cX8_layRuns 38 = .ok (.getfield 74, 3) := by decide +kernel
theorem dX8_layRuns_41 : decode cX8_layRuns 41 = .ok (.iconst 1, 1) := by decide +kernel
theorem dX8_layRuns_42 : decode cX8_layRuns 42 = .ok (.isub, 1) := by decide +kernel
theorem dX8_layRuns_43 : decode cX8_layRuns 43 = .ok (.iaload, 1) := by decide +kernel
theorem dX8_layRuns_44 : decode cX8_layRuns 44 = .ok (.iload_n 2, 1) := by decide +kernel
theorem dX8_layRuns_45 : decode cX8_layRuns 45 = .ok (.if_icmp .eq 33, 3) := by decide +kernel
theorem dX8_layRuns_48 : decode cX8_layRuns 48 = .ok (.aload_n 0, 1) := by decide +kernel
theorem dX8_layRuns_49 : decode cX8_layRuns 49 = .ok (.getfield 25, 3) := by decide +kernel
theorem dX8_layRuns_52 : decode cX8_layRuns 52 = .ok (.aload_n 0, 1) := by decide +kernel
theorem dX8_layRuns_53 : decode cX8_layRuns 53 = .ok (.getfield 74, 3) := by decide +kernel
theorem dX8_layRuns_56 : decode cX8_layRuns 56 = .ok (.iload_n 2, 1) := by decide +kernel
theorem dX8_layRuns_57 : decode cX8_layRuns 57 = .ok (.iastore, 1) := by decide +kernel
theorem dX8_layRuns_58 : decode cX8_layRuns 58 = .ok (.aload_n 0, 1) := by decide +kernel
theorem dX8_layRuns_59 : decode cX8_layRuns 59 = .ok (.getfield 28, 3) := by decide +kernel
theorem dX8_layRuns_62 : decode cX8_layRuns 62 = .ok (.aload_n 0, 1) := by decide +kernel
theorem dX8_layRuns_63 : decode cX8_layRuns 63 = .ok (.getfield 74, 3) := by decide +kernel
theorem dX8_layRuns_66 : decode cX8_layRuns 66 = .ok (.iconst 0, 1) := by decide +kernel
theorem dX8_layRuns_67 : decode cX8_layRuns 67 = .ok (.iastore, 1) := by decide +kernel
theorem dX8_layRuns_68 : decode cX8_layRuns 68 = .ok (.aload_n 0, 1) := by decide +kernel
theorem dX8_layRuns_69 : decode cX8_layRuns 69 = .ok (.dup, 1) := by decide +kernel
theorem dX8_layRuns_70 : decode cX8_layRuns 70 = .ok (.getfield 74, 3) := by decide +kernel
theorem dX8_layRuns_73 : decode cX8_layRuns 73 = .ok (.iconst 1, 1) := by decide +kernel
theorem dX8_layRuns_74 : decode cX8_layRuns 74 = .ok (.iadd, 1) := by decide +kernel
theorem dX8_layRuns_75 : decode cX8_layRuns 75 = .ok (.putfield 74, 3) := by decide +kernel
theorem dX8_layRuns_78 : decode cX8_layRuns 78 = .ok (.aload_n 0, 1) := by decide +kernel
theorem dX8_layRuns_79 : decode cX8_layRuns 79 = .ok (.getfield 28, 3) := by decide +kernel
theorem dX8_layRuns_82 : decode cX8_layRuns 82 = .ok (.aload_n 0, 1) := by decide +kernel
theorem dX8_layRuns_83 : decode cX8_layRuns 83 = .ok (.getfield 74, 3) := by decide +kernel
theorem dX8_layRuns_86 : decode cX8_layRuns 86 = .ok (.iconst 1, 1) := by decide +kernel
theorem dX8_layRuns_87 : decode cX8_layRuns 87 = .ok (.isub, 1) := by decide +kernel
theorem dX8_layRuns_88 : decode cX8_layRuns 88 = .ok (.dup2, 1) := by decide +kernel
theorem dX8_layRuns_89 : decode cX8_layRuns 89 = .ok (.iaload, 1) := by decide +kernel
theorem dX8_layRuns_90 : decode cX8_layRuns 90 = .ok (.aload_n 0, 1) := by decide +kernel
theorem dX8_layRuns_91 : decode cX8_layRuns 91 = .ok (.iload_n 1, 1) := by decide +kernel
theorem dX8_layRuns_92 : decode cX8_layRuns 92 = .ok (.invokevirtual 80, 3) := by decide +kernel
theorem dX8_layRuns_95 : decode cX8_layRuns 95 = .ok (.iadd, 1) := by decide +kernel
theorem dX8_layRuns_96 : decode cX8_layRuns 96 = .ok (.iastore, 1) := by decide +kernel
theorem dX8_layRuns_97 : decode cX8_layRuns 97 = .ok (.iinc 1 1, 3) := by decide +kernel
theorem dX8_layRuns_100 : decode cX8_layRuns 100 = .ok (.goto (-93), 3) := by decide +kernel
theorem dX8_layRuns_103 : decode cX8_layRuns 103 = .ok (.return_, 1) := by decide +kernel
theorem dX8_isShort_0 : decode cX8_isShort 0 = .ok (.aload_n 0, 1) := by decide +kernel
theorem dX8_isShort_1 : decode cX8_isShort 1 = .ok (.getfield 28, 3) := by decide +kernel
theorem dX8_isShort_4 : decode cX8_isShort 4 = .ok (.iload_n 1, 1) := by decide +kernel
theorem dX8_isShort_5 : decode cX8_isShort 5 = .ok (.iaload, 1) := by decide +kernel
theorem dX8_isShort_6 : decode cX8_isShort 6 = .ok (.aload_n 0, 1) := by decide +kernel
theorem dX8_isShort_7 : decode cX8_isShort 7 = .ok (.getfield 7, 3) := by decide +kernel
theorem dX8_isShort_10 : decode cX8_isShort 10 = .ok (.iconst 0, 1) := by decide +kernel
theorem dX8_isShort_11 : decode cX8_isShort 11 = .ok (.iaload, 1) := by decide +kernel
theorem dX8_isShort_12 : decode cX8_isShort 12 = .ok (.if_icmp .ge 7, 3) := by decide +kernel
theorem dX8_isShort_15 : decode cX8_isShort 15 = .ok (.iconst 1, 1) := by decide +kernel
theorem dX8_isShort_16 : decode cX8_isShort 16 = .ok (.goto 4, 3) := by decide +kernel
theorem dX8_isShort_19 : decode cX8_isShort 19 = .ok (.iconst 0, 1) := by decide +kernel
theorem dX8_isShort_20 : decode cX8_isShort 20 = .ok (.ireturn, 1) := by decide +kernel
theorem dX8_isCorner_0 : decode cX8_isCorner 0 = .ok (.iload_n 1, 1) := by decide +kernel
theorem dX8_isCorner_1 : decode cX8_isCorner 1 = .ok (.ifCond .eq 13, 3) := by decide +kernel
theorem dX8_isCorner_4 : decode cX8_isCorner 4 = .ok (.iload_n 1, 1) := by decide +kernel
theorem dX8_isCorner_5 : decode cX8_isCorner 5 = .ok (.aload_n 0, 1) := by decide +kernel
theorem dX8_isCorner_6 : decode cX8_isCorner 6 = .ok (.getfield 74, 3) := by decide +kernel
theorem dX8_isCorner_9 : decode cX8_isCorner 9 = .ok (.iconst 1, 1) := by decide +kernel
theorem dX8_isCorner_10 : decode cX8_isCorner 10 = .ok (.isub, 1) := by decide +kernel
theorem dX8_isCorner_11 : decode cX8_isCorner 11 = .ok (.if_icmp .ne 5, 3) := by decide +kernel
theorem dX8_isCorner_14 : decode cX8_isCorner 14 = .ok (.iconst 0, 1) := by decide +kernel
theorem dX8_isCorner_15 : decode cX8_isCorner 15 = .ok (.ireturn, 1) := by decide +kernel
theorem dX8_isCorner_16 : decode cX8_isCorner 16 = .ok (.aload_n 0, 1) := by decide +kernel
theorem dX8_isCorner_17 : decode cX8_isCorner 17 = .ok (.getfield 25, 3) := by decide +kernel
theorem dX8_isCorner_20 : decode cX8_isCorner 20 = .ok (.iload_n 1, 1) := by decide +kernel
theorem dX8_isCorner_21 : decode cX8_isCorner 21 = .ok (.iconst 1, 1) := by decide +kernel
theorem dX8_isCorner_22 : decode cX8_isCorner 22 = .ok (.isub, 1) := by decide +kernel
theorem dX8_isCorner_23 : decode cX8_isCorner 23 = .ok (.iaload, 1) := by decide +kernel
theorem dX8_isCorner_24 : decode cX8_isCorner 24 = .ok (.istore_n 2, 1) := by decide +kernel
theorem dX8_isCorner_25 : decode cX8_isCorner 25 = .ok (.aload_n 0, 1) := by decide +kernel
theorem dX8_isCorner_26 : decode cX8_isCorner 26 = .ok (.getfield 25, 3) := by decide +kernel
theorem dX8_isCorner_29 : decode cX8_isCorner 29 = .ok (.iload_n 1, 1) := by decide +kernel
theorem dX8_isCorner_30 : decode cX8_isCorner 30 = .ok (.iconst 1, 1) := by decide +kernel
theorem dX8_isCorner_31 : decode cX8_isCorner 31 = .ok (.iadd, 1) := by decide +kernel
theorem dX8_isCorner_32 : decode cX8_isCorner 32 = .ok (.iaload, 1) := by decide +kernel
theorem dX8_isCorner_33 : decode cX8_isCorner 33 = .ok (.istore_n 3, 1) := by decide +kernel
theorem dX8_isCorner_34 : decode cX8_isCorner 34 = .ok (.iload_n 2, 1) := by decide +kernel
theorem dX8_isCorner_35 : decode cX8_isCorner 35 = .ok (.aload_n 0, 1) := by decide +kernel
theorem dX8_isCorner_36 : decode cX8_isCorner 36 = .ok (.getfield 25, 3) := by decide +kernel
theorem dX8_isCorner_39 : decode cX8_isCorner 39 = .ok (.iload_n 1, 1) := by decide +kernel
theorem dX8_isCorner_40 : decode cX8_isCorner 40 = .ok (.iaload, 1) := by decide +kernel
theorem dX8_isCorner_41 : decode cX8_isCorner 41 = .ok (.invokestatic 83, 3) := by decide +kernel
theorem dX8_isCorner_44 : decode cX8_isCorner 44 = .ok (.iconst 1, 1) := by decide +kernel
theorem dX8_isCorner_45 : decode cX8_isCorner 45 = .ok (.if_icmp .ne 30, 3) := by decide +kernel
theorem dX8_isCorner_48 : decode cX8_isCorner 48 = .ok (.iload_n 3, 1) := by decide +kernel
theorem dX8_isCorner_49 : decode cX8_isCorner 49 = .ok (.aload_n 0, 1) := by decide +kernel
theorem dX8_isCorner_50 : decode cX8_isCorner 50 = .ok (.getfield 25, 3) := by decide +kernel
theorem dX8_isCorner_53 : decode cX8_isCorner 53 = .ok (.iload_n 1, 1) := by decide +kernel
theorem dX8_isCorner_54 : decode cX8_isCorner 54 = .ok (.iaload, 1) := by decide +kernel
theorem dX8_isCorner_55 : decode cX8_isCorner 55 = .ok (.invokestatic 83, 3) := by decide +kernel
theorem dX8_isCorner_58 : decode cX8_isCorner 58 = .ok (.iconst 1, 1) := by decide +kernel
theorem dX8_isCorner_59 : decode cX8_isCorner 59 = .ok (.if_icmp .ne 16, 3) := by decide +kernel
theorem dX8_isCorner_62 : decode cX8_isCorner 62 = .ok (.iload_n 2, 1) := by decide +kernel
theorem dX8_isCorner_63 : decode cX8_isCorner 63 = .ok (.iload_n 3, 1) := by decide +kernel
theorem dX8_isCorner_64 : decode cX8_isCorner 64 = .ok (.invokestatic 83, 3) := by decide +kernel
theorem dX8_isCorner_67 : decode cX8_isCorner 67 = .ok (.iconst 2, 1) := by decide +kernel
theorem dX8_isCorner_68 : decode cX8_isCorner 68 = .ok (.if_icmp .ne 7, 3) := by decide +kernel
theorem dX8_isCorner_71 : decode cX8_isCorner 71 = .ok (.iconst 1, 1) := by decide +kernel
theorem dX8_isCorner_72 : decode cX8_isCorner 72 = .ok (.goto 4, 3) := by decide +kernel
theorem dX8_isCorner_75 : decode cX8_isCorner 75 = .ok (.iconst 0, 1) := by decide +kernel
theorem dX8_isCorner_76 : decode cX8_isCorner 76 = .ok (.istore 4, 2) := by decide +kernel
theorem dX8_isCorner_78 : decode cX8_isCorner 78 = .ok (.iload 4, 2) := by decide +kernel
theorem dX8_isCorner_80 : decode cX8_isCorner 80 = .ok (.ifCond .eq 22, 3) := by decide +kernel
theorem dX8_isCorner_83 : decode cX8_isCorner 83 = .ok (.aload_n 0, 1) := by decide +kernel
theorem dX8_isCorner_84 : decode cX8_isCorner 84 = .ok (.getfield 28, 3) := by decide +kernel
theorem dX8_isCorner_87 : decode cX8_isCorner 87 = .ok (.iload_n 1, 1) := by decide +kernel
theorem dX8_isCorner_88 : decode cX8_isCorner 88 = .ok (.iaload, 1) := by decide +kernel
theorem dX8_isCorner_89 : decode cX8_isCorner 89 = .ok (.aload_n 0, 1) := by decide +kernel
theorem dX8_isCorner_90 : decode cX8_isCorner 90 = .ok (.getfield 7, 3) := by decide +kernel
theorem dX8_isCorner_93 : decode cX8_isCorner 93 = .ok (.iconst 1, 1) := by decide +kernel
theorem dX8_isCorner_94 : decode cX8_isCorner 94 = .ok (.iaload, 1) := by decide +kernel
theorem dX8_isCorner_95 : decode cX8_isCorner 95 = .ok (.if_icmp .gt 7, 3) := by decide +kernel
theorem dX8_isCorner_98 : decode cX8_isCorner 98 = .ok (.iconst 1, 1) := by decide +kernel
theorem dX8_isCorner_99 : decode cX8_isCorner 99 = .ok (.goto 4, 3) := by decide +kernel
theorem dX8_isCorner_102 : decode cX8_isCorner 102 = .ok (.iconst 0, 1) := by decide +kernel
theorem dX8_isCorner_103 : decode cX8_isCorner 103 = .ok (.ireturn, 1) := by decide +kernel
theorem dX8_firstForgiven_0 : decode cX8_firstForgiven 0 = .ok (.iconst (-1), 1) := by decide +kernel
theorem dX8_firstForgiven_1 : decode cX8_firstForgiven 1 = .ok (.istore_n 1, 1) := by decide +kernel
theorem dX8_firstForgiven_2 : decode cX8_firstForgiven 2 = .ok (.aload_n 0, 1) := by decide +kernel
theorem dX8_firstForgiven_3 : decode cX8_firstForgiven 3 = .ok (.getfield 74, 3) := by decide +kernel
theorem dX8_firstForgiven_6 : decode cX8_firstForgiven 6 = .ok (.iconst 1, 1) := by decide +kernel
theorem dX8_firstForgiven_7 : decode cX8_firstForgiven 7 = .ok (.isub, 1) := by decide +kernel
theorem dX8_firstForgiven_8 : decode cX8_firstForgiven 8 = .ok (.istore_n 2, 1) := by decide +kernel
theorem dX8_firstForgiven_9 : decode cX8_firstForgiven 9 = .ok (.iload_n 2, 1) := by decide +kernel
theorem dX8_firstForgiven_10 : decode cX8_firstForgiven 10 = .ok (.ifCond .lt 39, 3) := by decide +kernel
theorem dX8_firstForgiven_13 : decode cX8_firstForgiven 13 = .ok (.aload_n 0, 1) := by decide +kernel
theorem dX8_firstForgiven_14 : decode cX8_firstForgiven 14 = .ok (.getfield 74, 3) := by decide +kernel
theorem dX8_firstForgiven_17 : decode cX8_firstForgiven 17 = .ok (.iconst 1, 1) := by decide +kernel
theorem dX8_firstForgiven_18 : decode cX8_firstForgiven 18 = .ok (.if_icmp .le 31, 3) := by decide +kernel
theorem dX8_firstForgiven_21 : decode cX8_firstForgiven 21 = .ok (.aload_n 0, 1) := by decide +kernel
theorem dX8_firstForgiven_22 : decode cX8_firstForgiven 22 = .ok (.iload_n 2, 1) := by decide +kernel
theorem dX8_firstForgiven_23 : decode cX8_firstForgiven 23 = .ok (.invokevirtual 86, 3) := by decide +kernel
theorem dX8_firstForgiven_26 : decode cX8_firstForgiven 26 = .ok (.ifCond .ne 11, 3) := by decide +kernel
theorem dX8_firstForgiven_29 : decode cX8_firstForgiven 29 = .ok (.aload_n 0, 1) := by decide +kernel
theorem dX8_firstForgiven_30 : decode cX8_firstForgiven 30 = .ok (.iload_n 2, 1) := by decide +kernel
theorem dX8_firstForgiven_31 : decode cX8_firstForgiven 31 = .ok (.invokevirtual 90, 3) := by decide +kernel
theorem dX8_firstForgiven_34 : decode cX8_firstForgiven 34 = .ok (.ifCond .eq 7, 3) := by decide +kernel
theorem dX8_firstForgiven_37 : decode cX8_firstForgiven 37 = .ok (.iload_n 2, 1) := by decide +kernel
theorem dX8_firstForgiven_38 : decode cX8_firstForgiven 38 = .ok (.goto 4, 3) := by decide +kernel
theorem dX8_firstForgiven_41 : decode cX8_firstForgiven 41 = .ok (.iload_n 1, 1) := by decide +kernel
theorem dX8_firstForgiven_42 : decode cX8_firstForgiven 42 = .ok (.istore_n 1, 1) := by decide +kernel
theorem dX8_firstForgiven_43 : decode cX8_firstForgiven 43 = .ok (.iinc 2 (-1), 3) := by decide +kernel
theorem dX8_firstForgiven_46 : decode cX8_firstForgiven 46 = .ok (.goto (-37), 3) := by decide +kernel
theorem dX8_firstForgiven_49 : decode cX8_firstForgiven 49 = .ok (.iload_n 1, 1) := by decide +kernel
theorem dX8_firstForgiven_50 : decode cX8_firstForgiven 50 = .ok (.ireturn, 1) := by decide +kernel
theorem dX8_removeRun_0 : decode cX8_removeRun 0 = .ok (.aload_n 0, 1) := by decide +kernel
theorem dX8_removeRun_1 : decode cX8_removeRun 1 = .ok (.dup, 1) := by decide +kernel
theorem dX8_removeRun_2 : decode cX8_removeRun 2 = .ok (.getfield 74, 3) := by decide +kernel
theorem dX8_removeRun_5 : decode cX8_removeRun 5 = .ok (.iconst 1, 1) := by decide +kernel
theorem dX8_removeRun_6 : decode cX8_removeRun 6 = .ok (.isub, 1) := by decide +kernel
theorem dX8_removeRun_7 : decode cX8_removeRun 7 = .ok (.putfield 74, 3) := by decide +kernel
theorem dX8_removeRun_10 : decode cX8_removeRun 10 = .ok (.iload_n 1, 1) := by decide +kernel
theorem dX8_removeRun_11 : decode cX8_removeRun 11 = .ok (.istore_n 2, 1) := by decide +kernel
theorem dX8_removeRun_12 : decode cX8_removeRun 12 = .ok (.iload_n 2, 1) := by decide +kernel
theorem dX8_removeRun_13 : decode cX8_removeRun 13 = .ok (.aload_n 0, 1) := by decide +kernel
theorem dX8_removeRun_14 : decode cX8_removeRun 14 = .ok (.getfield 74, 3) := by decide +kernel
theorem dX8_removeRun_17 : decode cX8_removeRun 17 = .ok (.if_icmp .ge 37, 3) := by decide +kernel
theorem dX8_removeRun_20 : decode cX8_removeRun 20 = .ok (.aload_n 0, 1) := by decide +kernel
theorem dX8_removeRun_21 : decode cX8_removeRun 21 = .ok (.getfield 25, 3) := by decide +kernel
theorem dX8_removeRun_24 : decode cX8_removeRun 24 = .ok (.iload_n 2, 1) := by decide +kernel
theorem dX8_removeRun_25 : decode cX8_removeRun 25 = .ok (.aload_n 0, 1) := by decide +kernel
theorem dX8_removeRun_26 : decode cX8_removeRun 26 = .ok (.getfield 25, 3) := by decide +kernel
theorem dX8_removeRun_29 : decode cX8_removeRun 29 = .ok (.iload_n 2, 1) := by decide +kernel
theorem dX8_removeRun_30 : decode cX8_removeRun 30 = .ok (.iconst 1, 1) := by decide +kernel
theorem dX8_removeRun_31 : decode cX8_removeRun 31 = .ok (.iadd, 1) := by decide +kernel
theorem dX8_removeRun_32 : decode cX8_removeRun 32 = .ok (.iaload, 1) := by decide +kernel
theorem dX8_removeRun_33 : decode cX8_removeRun 33 = .ok (.iastore, 1) := by decide +kernel
theorem dX8_removeRun_34 : decode cX8_removeRun 34 = .ok (.aload_n 0, 1) := by decide +kernel
theorem dX8_removeRun_35 : decode cX8_removeRun 35 = .ok (.getfield 28, 3) := by decide +kernel
theorem dX8_removeRun_38 : decode cX8_removeRun 38 = .ok (.iload_n 2, 1) := by decide +kernel
theorem dX8_removeRun_39 : decode cX8_removeRun 39 = .ok (.aload_n 0, 1) := by decide +kernel
theorem dX8_removeRun_40 : decode cX8_removeRun 40 = .ok (.getfield 28, 3) := by decide +kernel
theorem dX8_removeRun_43 : decode cX8_removeRun 43 = .ok (.iload_n 2, 1) := by decide +kernel
theorem dX8_removeRun_44 : decode cX8_removeRun 44 = .ok (.iconst 1, 1) := by decide +kernel
theorem dX8_removeRun_45 : decode cX8_removeRun 45 = .ok (.iadd, 1) := by decide +kernel
theorem dX8_removeRun_46 : decode cX8_removeRun 46 = .ok (.iaload, 1) := by decide +kernel
theorem dX8_removeRun_47 : decode cX8_removeRun 47 = .ok (.iastore, 1) := by decide +kernel
theorem dX8_removeRun_48 : decode cX8_removeRun 48 = .ok (.iinc 2 1, 3) := by decide +kernel
theorem dX8_removeRun_51 : decode cX8_removeRun 51 = .ok (.goto (-39), 3) := by decide +kernel
theorem dX8_removeRun_54 : decode cX8_removeRun 54 = .ok (.return_, 1) := by decide +kernel
theorem dX8_forgive_0 : decode cX8_forgive 0 = .ok (.iconst 0, 1) := by decide +kernel
theorem dX8_forgive_1 : decode cX8_forgive 1 = .ok (.istore_n 1, 1) := by decide +kernel
theorem dX8_forgive_2 : decode cX8_forgive 2 = .ok (.aload_n 0, 1) := by decide +kernel
theorem dX8_forgive_3 : decode cX8_forgive 3 = .ok (.invokevirtual 93, 3) := by decide +kernel
theorem dX8_forgive_6 : decode cX8_forgive 6 = .ok (.istore_n 2, 1) := by decide +kernel
theorem dX8_forgive_7 : decode cX8_forgive 7 = .ok (.iload_n 2, 1) := by decide +kernel
theorem dX8_forgive_8 : decode cX8_forgive 8 = .ok (.iconst (-1), 1) := by decide +kernel
theorem dX8_forgive_9 : decode cX8_forgive 9 = .ok (.if_icmp .eq 70, 3) := by decide +kernel
theorem dX8_forgive_12 : decode cX8_forgive 12 = .ok (.aload_n 0, 1) := by decide +kernel
theorem dX8_forgive_13 : decode cX8_forgive 13 = .ok (.iload_n 2, 1) := by decide +kernel
theorem dX8_forgive_14 : decode cX8_forgive 14 = .ok (.invokevirtual 97, 3) := by decide +kernel
theorem dX8_forgive_17 : decode cX8_forgive 17 = .ok (.iinc 1 1, 3) := by decide +kernel
theorem dX8_forgive_20 : decode cX8_forgive 20 = .ok (.iload_n 2, 1) := by decide +kernel
theorem dX8_forgive_21 : decode cX8_forgive 21 = .ok (.ifCond .le 50, 3) := by decide +kernel
theorem dX8_forgive_24 : decode cX8_forgive 24 = .ok (.iload_n 2, 1) := by decide +kernel
theorem dX8_forgive_25 : decode cX8_forgive 25 = .ok (.aload_n 0, 1) := by decide +kernel
theorem dX8_forgive_26 : decode cX8_forgive 26 = .ok (.getfield 74, 3) := by decide +kernel
theorem dX8_forgive_29 : decode cX8_forgive 29 = .ok (.if_icmp .ge 42, 3) := by decide +kernel
theorem dX8_forgive_32 : decode cX8_forgive 32 = .ok (.aload_n 0, 1) := by decide +kernel
theorem dX8_forgive_33 : decode cX8_forgive 33 = .ok (.getfield 25, 3) := by decide +kernel
theorem dX8_forgive_36 : decode cX8_forgive 36 = .ok (.iload_n 2, 1) := by decide +kernel
theorem dX8_forgive_37 : decode cX8_forgive 37 = .ok (.iconst 1, 1) := by decide +kernel
theorem dX8_forgive_38 : decode cX8_forgive 38 = .ok (.isub, 1) := by decide +kernel
theorem dX8_forgive_39 : decode cX8_forgive 39 = .ok (.iaload, 1) := by decide +kernel
theorem dX8_forgive_40 : decode cX8_forgive 40 = .ok (.aload_n 0, 1) := by decide +kernel
theorem dX8_forgive_41 : decode cX8_forgive 41 = .ok (.getfield 25, 3) := by decide +kernel
theorem dX8_forgive_44 : decode cX8_forgive 44 = .ok (.iload_n 2, 1) := by decide +kernel
theorem dX8_forgive_45 : decode cX8_forgive 45 = .ok (.iaload, 1) := by decide +kernel
theorem dX8_forgive_46 : decode cX8_forgive 46 = .ok (.if_icmp .ne 25, 3) := by decide +kernel
theorem dX8_forgive_49 : decode cX8_forgive 49 = .ok (.aload_n 0, 1) := by decide +kernel
theorem dX8_forgive_50 : decode cX8_forgive 50 = .ok (.getfield 28, 3) := by decide +kernel
theorem dX8_forgive_53 : decode cX8_forgive 53 = .ok (.iload_n 2, 1) := by decide +kernel
theorem dX8_forgive_54 : decode cX8_forgive 54 = .ok (.iconst 1, 1) := by decide +kernel
theorem dX8_forgive_55 : decode cX8_forgive 55 = .ok (.isub, 1) := by decide +kernel
theorem dX8_forgive_56 : decode cX8_forgive 56 = .ok (.dup2, 1) := by decide +kernel
theorem dX8_forgive_57 : decode cX8_forgive 57 = .ok (.iaload, 1) := by decide +kernel
theorem dX8_forgive_58 : decode cX8_forgive 58 = .ok (.aload_n 0, 1) := by decide +kernel
theorem dX8_forgive_59 : decode cX8_forgive 59 = .ok (.getfield 28, 3) := by decide +kernel
theorem dX8_forgive_62 : decode cX8_forgive 62 = .ok (.iload_n 2, 1) := by decide +kernel
theorem dX8_forgive_63 : decode cX8_forgive 63 = .ok (.iaload, 1) := by decide +kernel
theorem dX8_forgive_64 : decode cX8_forgive 64 = .ok (.iadd, 1) := by decide +kernel
theorem dX8_forgive_65 : decode cX8_forgive 65 = .ok (.iastore, 1) := by decide +kernel
theorem dX8_forgive_66 : decode cX8_forgive 66 = .ok (.aload_n 0, 1) := by decide +kernel
theorem dX8_forgive_67 : decode cX8_forgive 67 = .ok (.iload_n 2, 1) := by decide +kernel
theorem dX8_forgive_68 : decode cX8_forgive 68 = .ok (.invokevirtual 97, 3) := by decide +kernel
theorem dX8_forgive_71 : decode cX8_forgive 71 = .ok (.aload_n 0, 1) := by decide +kernel
theorem dX8_forgive_72 : decode cX8_forgive 72 = .ok (.invokevirtual 93, 3) := by decide +kernel
theorem dX8_forgive_75 : decode cX8_forgive 75 = .ok (.istore_n 2, 1) := by decide +kernel
theorem dX8_forgive_76 : decode cX8_forgive 76 = .ok (.goto (-69), 3) := by decide +kernel
theorem dX8_forgive_79 : decode cX8_forgive 79 = .ok (.iload_n 1, 1) := by decide +kernel
theorem dX8_forgive_80 : decode cX8_forgive 80 = .ok (.ireturn, 1) := by decide +kernel
theorem dX8_layStroke_0 : decode cX8_layStroke 0 = .ok (.aload_n 0, 1) := by decide +kernel
theorem dX8_layStroke_1 : decode cX8_layStroke 1 = .ok (.invokevirtual 101, 3) := by decide +kernel
theorem dX8_layStroke_4 : decode cX8_layStroke 4 = .ok (.aload_n 0, 1) := by decide +kernel
theorem dX8_layStroke_5 : decode cX8_layStroke 5 = .ok (.invokevirtual 104, 3) := by decide +kernel
theorem dX8_layStroke_8 : decode cX8_layStroke 8 = .ok (.istore_n 1, 1) := by decide +kernel
theorem dX8_layStroke_9 : decode cX8_layStroke 9 = .ok (.aload_n 0, 1) := by decide +kernel
theorem dX8_layStroke_10 : decode cX8_layStroke 10 = .ok (.aload_n 0, 1) := by decide +kernel
theorem dX8_layStroke_11 : decode cX8_layStroke 11 = .ok (.getfield 74, 3) := by decide +kernel
theorem dX8_layStroke_14 : decode cX8_layStroke 14 = .ok (.putfield 107, 3) := by decide +kernel
theorem dX8_layStroke_17 : decode cX8_layStroke 17 = .ok (.iconst 0, 1) := by decide +kernel
theorem dX8_layStroke_18 : decode cX8_layStroke 18 = .ok (.istore_n 2, 1) := by decide +kernel
theorem dX8_layStroke_19 : decode cX8_layStroke 19 = .ok (.iload_n 2, 1) := by decide +kernel
theorem dX8_layStroke_20 : decode cX8_layStroke 20 = .ok (.aload_n 0, 1) := by decide +kernel
theorem dX8_layStroke_21 : decode cX8_layStroke 21 = .ok (.getfield 74, 3) := by decide +kernel
theorem dX8_layStroke_24 : decode cX8_layStroke 24 = .ok (.if_icmp .ge 21, 3) := by decide +kernel
theorem dX8_layStroke_27 : decode cX8_layStroke 27 = .ok (.aload_n 0, 1) := by decide +kernel
theorem dX8_layStroke_28 : decode cX8_layStroke 28 = .ok (.getfield 31, 3) := by decide +kernel
theorem dX8_layStroke_31 : decode cX8_layStroke 31 = .ok (.iload_n 2, 1) := by decide +kernel
theorem dX8_layStroke_32 : decode cX8_layStroke 32 = .ok (.aload_n 0, 1) := by decide +kernel
theorem dX8_layStroke_33 : decode cX8_layStroke 33 = .ok (.getfield 25, 3) := by decide +kernel
theorem dX8_layStroke_36 : decode cX8_layStroke 36 = .ok (.iload_n 2, 1) := by decide +kernel
theorem dX8_layStroke_37 : decode cX8_layStroke 37 = .ok (.iaload, 1) := by decide +kernel
theorem dX8_layStroke_38 : decode cX8_layStroke 38 = .ok (.iastore, 1) := by decide +kernel
theorem dX8_layStroke_39 : decode cX8_layStroke 39 = .ok (.iinc 2 1, 3) := by decide +kernel
theorem dX8_layStroke_42 : decode cX8_layStroke 42 = .ok (.goto (-23), 3) := by decide +kernel
theorem dX8_layStroke_45 : decode cX8_layStroke 45 = .ok (.return_, 1) := by decide +kernel
theorem dX8_pathStroke_0 : decode cX8_pathStroke 0 = .ok (.aload_n 0, 1) := by decide +kernel
theorem dX8_pathStroke_1 : decode cX8_pathStroke 1 = .ok (.invokevirtual 110, 3) := by decide +kernel
theorem dX8_pathStroke_4 : decode cX8_pathStroke 4 = .ok (.aload_n 0, 1) := by decide +kernel
theorem dX8_pathStroke_5 : decode cX8_pathStroke 5 = .ok (.invokevirtual 113, 3) := by decide +kernel
theorem dX8_pathStroke_8 : decode cX8_pathStroke 8 = .ok (.return_, 1) := by decide +kernel
theorem dX8_commandStroke_0 : decode cX8_commandStroke 0 = .ok (.aload_n 0, 1) := by decide +kernel
theorem dX8_commandStroke_1 : decode cX8_commandStroke 1 = .ok (.aload_n 0, 1) := by decide +kernel
theorem dX8_commandStroke_2 : decode cX8_commandStroke 2 = .ok (.iload_n 1, 1) := by decide +kernel
theorem dX8_commandStroke_3 : decode cX8_commandStroke 3 = .ok (.invokevirtual 116, 3) := by decide +kernel
theorem dX8_commandStroke_6 : decode cX8_commandStroke 6 = .ok (.putfield 107, 3) := by decide +kernel
theorem dX8_commandStroke_9 : decode cX8_commandStroke 9 = .ok (.iconst 0, 1) := by decide +kernel
theorem dX8_commandStroke_10 : decode cX8_commandStroke 10 = .ok (.istore_n 2, 1) := by decide +kernel
theorem dX8_commandStroke_11 : decode cX8_commandStroke 11 = .ok (.iload_n 2, 1) := by decide +kernel
theorem dX8_commandStroke_12 : decode cX8_commandStroke 12 = .ok (.aload_n 0, 1) := by decide +kernel
theorem dX8_commandStroke_13 : decode cX8_commandStroke 13 = .ok (.getfield 107, 3) := by decide +kernel
theorem dX8_commandStroke_16 : decode cX8_commandStroke 16 = .ok (.if_icmp .ge 21, 3) := by decide +kernel
theorem dX8_commandStroke_19 : decode cX8_commandStroke 19 = .ok (.aload_n 0, 1) := by decide +kernel
theorem dX8_commandStroke_20 : decode cX8_commandStroke 20 = .ok (.getfield 31, 3) := by decide +kernel
theorem dX8_commandStroke_23 : decode cX8_commandStroke 23 = .ok (.iload_n 2, 1) := by decide +kernel
theorem dX8_commandStroke_24 : decode cX8_commandStroke 24 = .ok (.aload_n 0, 1) := by decide +kernel
theorem dX8_commandStroke_25 : decode cX8_commandStroke 25 = .ok (.iload_n 1, 1) := by decide +kernel
theorem dX8_commandStroke_26 : decode cX8_commandStroke 26 = .ok (.iload_n 2, 1) := by decide +kernel
theorem dX8_commandStroke_27 : decode cX8_commandStroke 27 = .ok (.invokevirtual 119, 3) := by decide +kernel
theorem dX8_commandStroke_30 : decode cX8_commandStroke 30 = .ok (.iastore, 1) := by decide +kernel
theorem dX8_commandStroke_31 : decode cX8_commandStroke 31 = .ok (.iinc 2 1, 3) := by decide +kernel
theorem dX8_commandStroke_34 : decode cX8_commandStroke 34 = .ok (.goto (-23), 3) := by decide +kernel
theorem dX8_commandStroke_37 : decode cX8_commandStroke 37 = .ok (.return_, 1) := by decide +kernel
theorem dX8_layDistances_0 : decode cX8_layDistances 0 = .ok (.aload_n 0, 1) := by decide +kernel
theorem dX8_layDistances_1 : decode cX8_layDistances 1 = .ok (.iload_n 1, 1) := by decide +kernel
theorem dX8_layDistances_2 : decode cX8_layDistances 2 = .ok (.invokevirtual 116, 3) := by decide +kernel
theorem dX8_layDistances_5 : decode cX8_layDistances 5 = .ok (.istore_n 2, 1) := by decide +kernel
theorem dX8_layDistances_6 : decode cX8_layDistances 6 = .ok (.iconst 0, 1) := by decide +kernel
theorem dX8_layDistances_7 : decode cX8_layDistances 7 = .ok (.istore_n 3, 1) := by decide +kernel
theorem dX8_layDistances_8 : decode cX8_layDistances 8 = .ok (.iload_n 3, 1) := by decide +kernel
theorem dX8_layDistances_9 : decode cX8_layDistances 9 = .ok (.iload_n 2, 1) := by decide +kernel
theorem dX8_layDistances_10 : decode cX8_layDistances 10 = .ok (.if_icmp .gt 23, 3) := by decide +kernel
theorem dX8_layDistances_13 : decode cX8_layDistances 13 = .ok (.aload_n 0, 1) := by decide +kernel
theorem dX8_layDistances_14 : decode cX8_layDistances 14 = .ok (.getfield 34, 3) := by decide +kernel
theorem dX8_layDistances_17 : decode cX8_layDistances 17 = .ok (.iload_n 3, 1) := by decide +kernel
theorem dX8_layDistances_18 : decode cX8_layDistances 18 = .ok (.iload_n 3, 1) := by decide +kernel
theorem dX8_layDistances_19 : decode cX8_layDistances 19 = .ok (.aload_n 0, 1) := by decide +kernel
theorem dX8_layDistances_20 : decode cX8_layDistances 20 = .ok (.getfield 7, 3) := by decide +kernel
theorem dX8_layDistances_23 : decode cX8_layDistances 23 = .ok (.iconst 3, 1) := by decide +kernel
theorem dX8_layDistances_24 : decode cX8_layDistances 24 = .ok (.iaload, 1) := by decide +kernel
theorem dX8_layDistances_25 : decode cX8_layDistances 25 = .ok (.imul, 1) := by decide +kernel
theorem dX8_layDistances_26 : decode cX8_layDistances 26 = .ok (.iastore, 1) := by decide +kernel
theorem dX8_layDistances_27 : decode cX8_layDistances 27 = .ok (.iinc 3 1, 3) := by decide +kernel
theorem dX8_layDistances_30 : decode cX8_layDistances 30 = .ok (.goto (-22), 3) := by decide +kernel
theorem dX8_layDistances_33 : decode cX8_layDistances 33 = .ok (.iconst 0, 1) := by decide +kernel
theorem dX8_layDistances_34 : decode cX8_layDistances 34 = .ok (.istore_n 3, 1) := by decide +kernel
theorem dX8_layDistances_35 : decode cX8_layDistances 35 = .ok (.iload_n 3, 1) := by decide +kernel
theorem dX8_layDistances_36 : decode cX8_layDistances 36 = .ok (.aload_n 0, 1) := by decide +kernel
theorem dX8_layDistances_37 : decode cX8_layDistances 37 = .ok (.getfield 107, 3) := by decide +kernel
theorem dX8_layDistances_40 : decode cX8_layDistances 40 = .ok (.if_icmp .ge 132, 3) := by decide +kernel
theorem dX8_layDistances_43 : decode cX8_layDistances 43 = .ok (.aload_n 0, 1) := by decide +kernel
theorem dX8_layDistances_44 : decode cX8_layDistances 44 = .ok (.getfield 34, 3) := by decide +kernel
theorem dX8_layDistances_47 : decode cX8_layDistances 47 = .ok (.iconst 0, 1) := by decide +kernel
theorem dX8_layDistances_48 : decode cX8_layDistances 48 = .ok (.iaload, 1) := by decide +kernel
theorem dX8_layDistances_49 : decode cX8_layDistances 49 = .ok (.istore 4, 2) := by decide +kernel
theorem dX8_layDistances_51 : decode cX8_layDistances 51 = .ok (.aload_n 0, 1) := by decide +kernel
theorem dX8_layDistances_52 : decode cX8_layDistances 52 = .ok (.getfield 34, 3) := by decide +kernel
theorem dX8_layDistances_55 : decode cX8_layDistances 55 = .ok (.iconst 0, 1) := by decide +kernel
theorem dX8_layDistances_56 : decode cX8_layDistances 56 = .ok (.dup2, 1) := by decide +kernel
theorem dX8_layDistances_57 : decode cX8_layDistances 57 = .ok (.iaload, 1) := by decide +kernel
theorem dX8_layDistances_58 : decode cX8_layDistances 58 = .ok (.aload_n 0, 1) := by decide +kernel
theorem dX8_layDistances_59 : decode cX8_layDistances 59 = .ok (.getfield 7, 3) := by decide +kernel
theorem dX8_layDistances_62 : decode cX8_layDistances 62 = .ok (.iconst 3, 1) := by decide +kernel
theorem dX8_layDistances_63 : decode cX8_layDistances 63 = .ok (.iaload, 1) := by decide +kernel
theorem dX8_layDistances_64 : decode cX8_layDistances 64 = .ok (.iadd, 1) := by decide +kernel
theorem dX8_layDistances_65 : decode cX8_layDistances 65 = .ok (.iastore, 1) := by decide +kernel
theorem dX8_layDistances_66 : decode cX8_layDistances 66 = .ok (.iconst 1, 1) := by decide +kernel
theorem dX8_layDistances_67 : decode cX8_layDistances 67 = .ok (.istore 5, 2) := by decide +kernel
theorem dX8_layDistances_69 : decode cX8_layDistances 69 = .ok (.iload 5, 2) := by decide +kernel
theorem dX8_layDistances_71 : decode cX8_layDistances 71 = .ok (.iload_n 2, 1) := by decide +kernel
theorem dX8_layDistances_72 : decode cX8_layDistances 72 = .ok (.if_icmp .gt 94, 3) := by decide +kernel
theorem dX8_layDistances_75 : decode cX8_layDistances 75 = .ok (.iload 4, 2) := by decide +kernel
theorem dX8_layDistances_77 : decode cX8_layDistances 77 = .ok (.aload_n 0, 1) := by decide +kernel
theorem dX8_layDistances_78 : decode cX8_layDistances 78 = .ok (.getfield 7, 3) := by decide +kernel
theorem dX8_layDistances_81 : decode cX8_layDistances 81 = .ok (.iconst 2, 1) := by decide +kernel
theorem dX8_layDistances_82 : decode cX8_layDistances 82 = .ok (.iaload, 1) := by decide +kernel
theorem dX8_layDistances_83 : decode cX8_layDistances 83 = .ok (.aload_n 0, 1) := by decide +kernel
theorem dX8_layDistances_84 : decode cX8_layDistances 84 = .ok (.getfield 31, 3) := by decide +kernel
theorem dX8_layDistances_87 : decode cX8_layDistances 87 = .ok (.iload_n 3, 1) := by decide +kernel
theorem dX8_layDistances_88 : decode cX8_layDistances 88 = .ok (.iaload, 1) := by decide +kernel
theorem dX8_layDistances_89 : decode cX8_layDistances 89 = .ok (.aload_n 0, 1) := by decide +kernel
theorem dX8_layDistances_90 : decode cX8_layDistances 90 = .ok (.iload_n 1, 1) := by decide +kernel
theorem dX8_layDistances_91 : decode cX8_layDistances 91 = .ok (.iload 5, 2) := by decide +kernel
theorem dX8_layDistances_93 : decode cX8_layDistances 93 = .ok (.iconst 1, 1) := by decide +kernel
theorem dX8_layDistances_94 : decode cX8_layDistances 94 = .ok (.isub, 1) := by decide +kernel
theorem dX8_layDistances_95 : decode cX8_layDistances 95 = .ok (.invokevirtual 119, 3) := by decide +kernel
theorem dX8_layDistances_98 : decode cX8_layDistances 98 = .ok (.invokestatic 83, 3) := by decide +kernel
theorem dX8_layDistances_101 : decode cX8_layDistances 101 = .ok (.imul, 1) := by decide +kernel
theorem dX8_layDistances_102 : decode cX8_layDistances 102 = .ok (.iadd, 1) := by decide +kernel
theorem dX8_layDistances_103 : decode cX8_layDistances 103 = .ok (.istore 6, 2) := by decide +kernel
theorem dX8_layDistances_105 : decode cX8_layDistances 105 = .ok (.aload_n 0, 1) := by decide +kernel
theorem dX8_layDistances_106 : decode cX8_layDistances 106 = .ok (.getfield 34, 3) := by decide +kernel
theorem dX8_layDistances_109 : decode cX8_layDistances 109 = .ok (.iload 5, 2) := by decide +kernel
theorem dX8_layDistances_111 : decode cX8_layDistances 111 = .ok (.iaload, 1) := by decide +kernel
theorem dX8_layDistances_112 : decode cX8_layDistances 112 = .ok (.istore 4, 2) := by decide +kernel
theorem dX8_layDistances_114 : decode cX8_layDistances 114 = .ok (.aload_n 0, 1) := by decide +kernel
theorem dX8_layDistances_115 : decode cX8_layDistances 115 = .ok (.getfield 34, 3) := by decide +kernel
theorem dX8_layDistances_118 : decode cX8_layDistances 118 = .ok (.iload 5, 2) := by decide +kernel
theorem dX8_layDistances_120 : decode cX8_layDistances 120 = .ok (.iaload, 1) := by decide +kernel
theorem dX8_layDistances_121 : decode cX8_layDistances 121 = .ok (.ineg, 1) := by decide +kernel
theorem dX8_layDistances_122 : decode cX8_layDistances 122 = .ok (.aload_n 0, 1) := by decide +kernel
theorem dX8_layDistances_123 : decode cX8_layDistances 123 = .ok (.getfield 34, 3) := by decide +kernel
theorem dX8_layDistances_126 : decode cX8_layDistances 126 = .ok (.iload 5, 2) := by decide +kernel
theorem dX8_layDistances_128 : decode cX8_layDistances 128 = .ok (.iconst 1, 1) := by decide +kernel
theorem dX8_layDistances_129 : decode cX8_layDistances 129 = .ok (.isub, 1) := by decide +kernel
theorem dX8_layDistances_130 : decode cX8_layDistances 130 = .ok (.iaload, 1) := by decide +kernel
theorem dX8_layDistances_131 : decode cX8_layDistances 131 = .ok (.ineg, 1) := by decide +kernel
theorem dX8_layDistances_132 : decode cX8_layDistances 132 = .ok (.invokestatic 71, 3) := by decide +kernel
theorem dX8_layDistances_135 : decode cX8_layDistances 135 = .ok (.istore 7, 2) := by decide +kernel
theorem dX8_layDistances_137 : decode cX8_layDistances 137 = .ok (.aload_n 0, 1) := by decide +kernel
theorem dX8_layDistances_138 : decode cX8_layDistances 138 = .ok (.getfield 34, 3) := by decide +kernel
theorem dX8_layDistances_141 : decode cX8_layDistances 141 = .ok (.iload 5, 2) := by decide +kernel
theorem dX8_layDistances_143 : decode cX8_layDistances 143 = .ok (.iload 7, 2) := by decide +kernel
theorem dX8_layDistances_145 : decode cX8_layDistances 145 = .ok (.aload_n 0, 1) := by decide +kernel
theorem dX8_layDistances_146 : decode cX8_layDistances 146 = .ok (.getfield 7, 3) := by decide +kernel
theorem dX8_layDistances_149 : decode cX8_layDistances 149 = .ok (.iconst 3, 1) := by decide +kernel
theorem dX8_layDistances_150 : decode cX8_layDistances 150 = .ok (.iaload, 1) := by decide +kernel
theorem dX8_layDistances_151 : decode cX8_layDistances 151 = .ok (.isub, 1) := by decide +kernel
theorem dX8_layDistances_152 : decode cX8_layDistances 152 = .ok (.iload 6, 2) := by decide +kernel
theorem dX8_layDistances_154 : decode cX8_layDistances 154 = .ok (.ineg, 1) := by decide +kernel
theorem dX8_layDistances_155 : decode cX8_layDistances 155 = .ok (.invokestatic 71, 3) := by decide +kernel
theorem dX8_layDistances_158 : decode cX8_layDistances 158 = .ok (.ineg, 1) := by decide +kernel
theorem dX8_layDistances_159 : decode cX8_layDistances 159 = .ok (.iastore, 1) := by decide +kernel
theorem dX8_layDistances_160 : decode cX8_layDistances 160 = .ok (.iinc 5 1, 3) := by decide +kernel
theorem dX8_layDistances_163 : decode cX8_layDistances 163 = .ok (.goto (-94), 3) := by decide +kernel
theorem dX8_layDistances_166 : decode cX8_layDistances 166 = .ok (.iinc 3 1, 3) := by decide +kernel
theorem dX8_layDistances_169 : decode cX8_layDistances 169 = .ok (.goto (-134), 3) := by decide +kernel
theorem dX8_layDistances_172 : decode cX8_layDistances 172 = .ok (.return_, 1) := by decide +kernel
theorem dX8_distanceFrom_0 : decode cX8_distanceFrom 0 = .ok (.aload_n 0, 1) := by decide +kernel
theorem dX8_distanceFrom_1 : decode cX8_distanceFrom 1 = .ok (.iload_n 1, 1) := by decide +kernel
theorem dX8_distanceFrom_2 : decode cX8_distanceFrom 2 = .ok (.invokevirtual 122, 3) := by decide +kernel
theorem dX8_distanceFrom_5 : decode cX8_distanceFrom 5 = .ok (.aload_n 0, 1) := by decide +kernel
theorem dX8_distanceFrom_6 : decode cX8_distanceFrom 6 = .ok (.getfield 34, 3) := by decide +kernel
theorem dX8_distanceFrom_9 : decode cX8_distanceFrom 9 = .ok (.aload_n 0, 1) := by decide +kernel
theorem dX8_distanceFrom_10 : decode cX8_distanceFrom 10 = .ok (.iload_n 1, 1) := by decide +kernel
theorem dX8_distanceFrom_11 : decode cX8_distanceFrom 11 = .ok (.invokevirtual 116, 3) := by decide +kernel
theorem dX8_distanceFrom_14 : decode cX8_distanceFrom 14 = .ok (.iaload, 1) := by decide +kernel
theorem dX8_distanceFrom_15 : decode cX8_distanceFrom 15 = .ok (.ireturn, 1) := by decide +kernel
theorem dX8_distanceOf_0 : decode cX8_distanceOf 0 = .ok (.aload_n 0, 1) := by decide +kernel
theorem dX8_distanceOf_1 : decode cX8_distanceOf 1 = .ok (.iload_n 2, 1) := by decide +kernel
theorem dX8_distanceOf_2 : decode cX8_distanceOf 2 = .ok (.invokevirtual 125, 3) := by decide +kernel
theorem dX8_distanceOf_5 : decode cX8_distanceOf 5 = .ok (.aload_n 0, 1) := by decide +kernel
theorem dX8_distanceOf_6 : decode cX8_distanceOf 6 = .ok (.iload_n 1, 1) := by decide +kernel
theorem dX8_distanceOf_7 : decode cX8_distanceOf 7 = .ok (.invokevirtual 128, 3) := by decide +kernel
theorem dX8_distanceOf_10 : decode cX8_distanceOf 10 = .ok (.ireturn, 1) := by decide +kernel
theorem dX8_leastDistance_0 : decode cX8_leastDistance 0 = .ok (.iconst (-1), 1) := by decide +kernel
theorem dX8_leastDistance_1 : decode cX8_leastDistance 1 = .ok (.istore_n 1, 1) := by decide +kernel
theorem dX8_leastDistance_2 : decode cX8_leastDistance 2 = .ok (.iconst 0, 1) := by decide +kernel
theorem dX8_leastDistance_3 : decode cX8_leastDistance 3 = .ok (.istore_n 2, 1) := by decide +kernel
theorem dX8_leastDistance_4 : decode cX8_leastDistance 4 = .ok (.iload_n 2, 1) := by decide +kernel
theorem dX8_leastDistance_5 : decode cX8_leastDistance 5 = .ok (.aload_n 0, 1) := by decide +kernel
theorem dX8_leastDistance_6 : decode cX8_leastDistance 6 = .ok (.getfield 7, 3) := by decide +kernel
theorem dX8_leastDistance_9 : decode cX8_leastDistance 9 = .ok (.bipush 6, 2) := by decide +kernel
theorem dX8_leastDistance_11 : decode cX8_leastDistance 11 = .ok (.iaload, 1) := by decide +kernel
theorem dX8_leastDistance_12 : decode cX8_leastDistance 12 = .ok (.if_icmp .ge 48, 3) := by decide +kernel
theorem dX8_leastDistance_15 : decode cX8_leastDistance 15 = .ok (.iconst 0, 1) := by decide +kernel
theorem dX8_leastDistance_16 : decode cX8_leastDistance 16 = .ok (.istore_n 3, 1) := by decide +kernel
theorem dX8_leastDistance_17 : decode cX8_leastDistance 17 = .ok (.iload_n 3, 1) := by decide +kernel
theorem dX8_leastDistance_18 : decode cX8_leastDistance 18 = .ok (.iload_n 2, 1) := by decide +kernel
theorem dX8_leastDistance_19 : decode cX8_leastDistance 19 = .ok (.if_icmp .ge 35, 3) := by decide +kernel
theorem dX8_leastDistance_22 : decode cX8_leastDistance 22 = .ok (.aload_n 0, 1) := by decide +kernel
theorem dX8_leastDistance_23 : decode cX8_leastDistance 23 = .ok (.iload_n 2, 1) := by decide +kernel
theorem dX8_leastDistance_24 : decode cX8_leastDistance 24 = .ok (.iload_n 3, 1) := by decide +kernel
theorem dX8_leastDistance_25 : decode cX8_leastDistance 25 = .ok (.invokevirtual 131, 3) := by decide +kernel
theorem dX8_leastDistance_28 : decode cX8_leastDistance 28 = .ok (.istore 4, 2) := by decide +kernel
theorem dX8_leastDistance_30 : decode cX8_leastDistance 30 = .ok (.iload_n 1, 1) := by decide +kernel
theorem dX8_leastDistance_31 : decode cX8_leastDistance 31 = .ok (.iconst (-1), 1) := by decide +kernel
theorem dX8_leastDistance_32 : decode cX8_leastDistance 32 = .ok (.if_icmp .eq 9, 3) := by decide +kernel
theorem dX8_leastDistance_35 : decode cX8_leastDistance 35 = .ok (.iload 4, 2) := by decide +kernel
theorem dX8_leastDistance_37 : decode cX8_leastDistance 37 = .ok (.iload_n 1, 1) := by decide +kernel
theorem dX8_leastDistance_38 : decode cX8_leastDistance 38 = .ok (.if_icmp .ge 8, 3) := by decide +kernel
theorem dX8_leastDistance_41 : decode cX8_leastDistance 41 = .ok (.iload 4, 2) := by decide +kernel
theorem dX8_leastDistance_43 : decode cX8_leastDistance 43 = .ok (.goto 4, 3) := by decide +kernel
theorem dX8_leastDistance_46 : decode cX8_leastDistance 46 = .ok (.iload_n 1, 1) := by decide +kernel
theorem dX8_leastDistance_47 : decode cX8_leastDistance 47 = .ok (.istore_n 1, 1) := by decide +kernel
theorem dX8_leastDistance_48 : decode cX8_leastDistance 48 = .ok (.iinc 3 1, 3) := by decide +kernel
theorem dX8_leastDistance_51 : decode cX8_leastDistance 51 = .ok (.goto (-34), 3) := by decide +kernel
theorem dX8_leastDistance_54 : decode cX8_leastDistance 54 = .ok (.iinc 2 1, 3) := by decide +kernel
theorem dX8_leastDistance_57 : decode cX8_leastDistance 57 = .ok (.goto (-53), 3) := by decide +kernel
theorem dX8_leastDistance_60 : decode cX8_leastDistance 60 = .ok (.iload_n 1, 1) := by decide +kernel
theorem dX8_leastDistance_61 : decode cX8_leastDistance 61 = .ok (.ireturn, 1) := by decide +kernel
theorem dX8_nearest_0 : decode cX8_nearest 0 = .ok (.iconst (-1), 1) := by decide +kernel
theorem dX8_nearest_1 : decode cX8_nearest 1 = .ok (.istore_n 2, 1) := by decide +kernel
theorem dX8_nearest_2 : decode cX8_nearest 2 = .ok (.iconst 0, 1) := by decide +kernel
theorem dX8_nearest_3 : decode cX8_nearest 3 = .ok (.istore_n 3, 1) := by decide +kernel
theorem dX8_nearest_4 : decode cX8_nearest 4 = .ok (.iconst 0, 1) := by decide +kernel
theorem dX8_nearest_5 : decode cX8_nearest 5 = .ok (.istore 4, 2) := by decide +kernel
theorem dX8_nearest_7 : decode cX8_nearest 7 = .ok (.iload 4, 2) := by decide +kernel
theorem dX8_nearest_9 : decode cX8_nearest 9 = .ok (.aload_n 0, 1) := by decide +kernel
theorem dX8_nearest_10 : decode cX8_nearest 10 = .ok (.getfield 7, 3) := by decide +kernel
theorem dX8_nearest_13 : decode cX8_nearest 13 = .ok (.bipush 6, 2) := by decide +kernel
theorem dX8_nearest_15 : decode cX8_nearest 15 = .ok (.iaload, 1) := by decide +kernel
theorem dX8_nearest_16 : decode cX8_nearest 16 = .ok (.if_icmp .ge 65, 3) := by decide +kernel
theorem dX8_nearest_19 : decode cX8_nearest 19 = .ok (.aload_n 0, 1) := by decide +kernel
theorem dX8_nearest_20 : decode cX8_nearest 20 = .ok (.iload 4, 2) := by decide +kernel
theorem dX8_nearest_22 : decode cX8_nearest 22 = .ok (.invokevirtual 128, 3) := by decide +kernel
theorem dX8_nearest_25 : decode cX8_nearest 25 = .ok (.istore 5, 2) := by decide +kernel
theorem dX8_nearest_27 : decode cX8_nearest 27 = .ok (.iload 4, 2) := by decide +kernel
theorem dX8_nearest_29 : decode cX8_nearest 29 = .ok (.iload_n 1, 1) := by decide +kernel
theorem dX8_nearest_30 : decode cX8_nearest 30 = .ok (.if_icmp .eq 18, 3) := by decide +kernel
theorem dX8_nearest_33 : decode cX8_nearest 33 = .ok (.iload_n 2, 1) := by decide +kernel
theorem dX8_nearest_34 : decode cX8_nearest 34 = .ok (.iconst (-1), 1) := by decide +kernel
theorem dX8_nearest_35 : decode cX8_nearest 35 = .ok (.if_icmp .eq 9, 3) := by decide +kernel
theorem dX8_nearest_38 : decode cX8_nearest 38 = .ok (.iload 5, 2) := by decide +kernel
theorem dX8_nearest_40 : decode cX8_nearest 40 = .ok (.iload_n 3, 1) := by decide +kernel
theorem dX8_nearest_41 : decode cX8_nearest 41 = .ok (.if_icmp .ge 7, 3) := by decide +kernel
theorem dX8_nearest_44 : decode cX8_nearest 44 = .ok (.iconst 1, 1) := by decide +kernel
theorem dX8_nearest_45 : decode cX8_nearest 45 = .ok (.goto 4, 3) := by decide +kernel
theorem dX8_nearest_48 : decode cX8_nearest 48 = .ok (.iconst 0, 1) := by decide +kernel
theorem dX8_nearest_49 : decode cX8_nearest 49 = .ok (.istore 6, 2) := by decide +kernel
theorem dX8_nearest_51 : decode cX8_nearest 51 = .ok (.iload 6, 2) := by decide +kernel
theorem dX8_nearest_53 : decode cX8_nearest 53 = .ok (.ifCond .eq 8, 3) := by decide +kernel
theorem dX8_nearest_56 : decode cX8_nearest 56 = .ok (.iload 4, 2) := by decide +kernel
theorem dX8_nearest_58 : decode cX8_nearest 58 = .ok (.goto 4, 3) := by decide +kernel
theorem dX8_nearest_61 : decode cX8_nearest 61 = .ok (.iload_n 2, 1) := by decide +kernel
theorem dX8_nearest_62 : decode cX8_nearest 62 = .ok (.istore_n 2, 1) := by decide +kernel
theorem dX8_nearest_63 : decode cX8_nearest 63 = .ok (.iload 6, 2) := by decide +kernel
theorem dX8_nearest_65 : decode cX8_nearest 65 = .ok (.ifCond .eq 8, 3) := by decide +kernel
theorem dX8_nearest_68 : decode cX8_nearest 68 = .ok (.iload 5, 2) := by decide +kernel
theorem dX8_nearest_70 : decode cX8_nearest 70 = .ok (.goto 4, 3) := by decide +kernel
theorem dX8_nearest_73 : decode cX8_nearest 73 = .ok (.iload_n 3, 1) := by decide +kernel
theorem dX8_nearest_74 : decode cX8_nearest 74 = .ok (.istore_n 3, 1) := by decide +kernel
theorem dX8_nearest_75 : decode cX8_nearest 75 = .ok (.iinc 4 1, 3) := by decide +kernel
theorem dX8_nearest_78 : decode cX8_nearest 78 = .ok (.goto (-71), 3) := by decide +kernel
theorem dX8_nearest_81 : decode cX8_nearest 81 = .ok (.iload_n 2, 1) := by decide +kernel
theorem dX8_nearest_82 : decode cX8_nearest 82 = .ok (.ireturn, 1) := by decide +kernel
theorem dX8_tooNear_0 : decode cX8_tooNear 0 = .ok (.aload_n 0, 1) := by decide +kernel
theorem dX8_tooNear_1 : decode cX8_tooNear 1 = .ok (.iconst (-1), 1) := by decide +kernel
theorem dX8_tooNear_2 : decode cX8_tooNear 2 = .ok (.invokevirtual 134, 3) := by decide +kernel
theorem dX8_tooNear_5 : decode cX8_tooNear 5 = .ok (.istore_n 1, 1) := by decide +kernel
theorem dX8_tooNear_6 : decode cX8_tooNear 6 = .ok (.iload_n 1, 1) := by decide +kernel
theorem dX8_tooNear_7 : decode cX8_tooNear 7 = .ok (.iconst (-1), 1) := by decide +kernel
theorem dX8_tooNear_8 : decode cX8_tooNear 8 = .ok (.if_icmp .eq 23, 3) := by decide +kernel
theorem dX8_tooNear_11 : decode cX8_tooNear 11 = .ok (.aload_n 0, 1) := by decide +kernel
theorem dX8_tooNear_12 : decode cX8_tooNear 12 = .ok (.iload_n 1, 1) := by decide +kernel
theorem dX8_tooNear_13 : decode cX8_tooNear 13 = .ok (.invokevirtual 128, 3) := by decide +kernel
theorem dX8_tooNear_16 : decode cX8_tooNear 16 = .ok (.iconst 2, 1) := by decide +kernel
theorem dX8_tooNear_17 : decode cX8_tooNear 17 = .ok (.aload_n 0, 1) := by decide +kernel
theorem dX8_tooNear_18 : decode cX8_tooNear 18 = .ok (.getfield 7, 3) := by decide +kernel
theorem dX8_tooNear_21 : decode cX8_tooNear 21 = .ok (.iconst 4, 1) := by decide +kernel
theorem dX8_tooNear_22 : decode cX8_tooNear 22 = .ok (.iaload, 1) := by decide +kernel
theorem dX8_tooNear_23 : decode cX8_tooNear 23 = .ok (.imul, 1) := by decide +kernel
theorem dX8_tooNear_24 : decode cX8_tooNear 24 = .ok (.if_icmp .gt 7, 3) := by decide +kernel
theorem dX8_tooNear_27 : decode cX8_tooNear 27 = .ok (.iload_n 1, 1) := by decide +kernel
theorem dX8_tooNear_28 : decode cX8_tooNear 28 = .ok (.goto 4, 3) := by decide +kernel
theorem dX8_tooNear_31 : decode cX8_tooNear 31 = .ok (.iconst (-1), 1) := by decide +kernel
theorem dX8_tooNear_32 : decode cX8_tooNear 32 = .ok (.ireturn, 1) := by decide +kernel
theorem dX8_readAs_0 : decode cX8_readAs 0 = .ok (.aload_n 0, 1) := by decide +kernel
theorem dX8_readAs_1 : decode cX8_readAs 1 = .ok (.iconst (-1), 1) := by decide +kernel
theorem dX8_readAs_2 : decode cX8_readAs 2 = .ok (.invokevirtual 134, 3) := by decide +kernel
theorem dX8_readAs_5 : decode cX8_readAs 5 = .ok (.istore_n 1, 1) := by decide +kernel
theorem dX8_readAs_6 : decode cX8_readAs 6 = .ok (.aload_n 0, 1) := by decide +kernel
theorem dX8_readAs_7 : decode cX8_readAs 7 = .ok (.getfield 107, 3) := by decide +kernel
theorem dX8_readAs_10 : decode cX8_readAs 10 = .ok (.ifCond .le 26, 3) := by decide +kernel
theorem dX8_readAs_13 : decode cX8_readAs 13 = .ok (.iload_n 1, 1) := by decide +kernel
theorem dX8_readAs_14 : decode cX8_readAs 14 = .ok (.iconst (-1), 1) := by decide +kernel
theorem dX8_readAs_15 : decode cX8_readAs 15 = .ok (.if_icmp .eq 21, 3) := by decide +kernel
theorem dX8_readAs_18 : decode cX8_readAs 18 = .ok (.aload_n 0, 1) := by decide +kernel
theorem dX8_readAs_19 : decode cX8_readAs 19 = .ok (.iload_n 1, 1) := by decide +kernel
theorem dX8_readAs_20 : decode cX8_readAs 20 = .ok (.invokevirtual 128, 3) := by decide +kernel
theorem dX8_readAs_23 : decode cX8_readAs 23 = .ok (.aload_n 0, 1) := by decide +kernel
theorem dX8_readAs_24 : decode cX8_readAs 24 = .ok (.getfield 7, 3) := by decide +kernel
theorem dX8_readAs_27 : decode cX8_readAs 27 = .ok (.iconst 4, 1) := by decide +kernel
theorem dX8_readAs_28 : decode cX8_readAs 28 = .ok (.iaload, 1) := by decide +kernel
theorem dX8_readAs_29 : decode cX8_readAs 29 = .ok (.if_icmp .gt 7, 3) := by decide +kernel
theorem dX8_readAs_32 : decode cX8_readAs 32 = .ok (.iload_n 1, 1) := by decide +kernel
theorem dX8_readAs_33 : decode cX8_readAs 33 = .ok (.goto 4, 3) := by decide +kernel
theorem dX8_readAs_36 : decode cX8_readAs 36 = .ok (.iconst (-1), 1) := by decide +kernel
theorem dX8_readAs_37 : decode cX8_readAs 37 = .ok (.ireturn, 1) := by decide +kernel
theorem dX8_longestBeginning_0 : decode cX8_longestBeginning 0 = .ok (.aload_n 0, 1) := by decide +kernel
theorem dX8_longestBeginning_1 : decode cX8_longestBeginning 1 = .ok (.iload_n 1, 1) := by decide +kernel
theorem dX8_longestBeginning_2 : decode cX8_longestBeginning 2 = .ok (.invokevirtual 122, 3) := by decide +kernel
theorem dX8_longestBeginning_5 : decode cX8_longestBeginning 5 = .ok (.iconst (-1), 1) := by decide +kernel
theorem dX8_longestBeginning_6 : decode cX8_longestBeginning 6 = .ok (.istore_n 2, 1) := by decide +kernel
theorem dX8_longestBeginning_7 : decode cX8_longestBeginning 7 = .ok (.iconst 0, 1) := by decide +kernel
theorem dX8_longestBeginning_8 : decode cX8_longestBeginning 8 = .ok (.istore_n 3, 1) := by decide +kernel
theorem dX8_longestBeginning_9 : decode cX8_longestBeginning 9 = .ok (.iload_n 3, 1) := by decide +kernel
theorem dX8_longestBeginning_10 : decode cX8_longestBeginning 10 = .ok (.aload_n 0, 1) := by decide +kernel
theorem dX8_longestBeginning_11 : decode cX8_longestBeginning 11 = .ok (.iload_n 1, 1) := by decide +kernel
theorem dX8_longestBeginning_12 : decode cX8_longestBeginning 12 = .ok (.invokevirtual 116, 3) := by decide +kernel
theorem dX8_longestBeginning_15 : decode cX8_longestBeginning 15 = .ok (.if_icmp .gt 30, 3) := by decide +kernel
theorem dX8_longestBeginning_18 : decode cX8_longestBeginning 18 = .ok (.aload_n 0, 1) := by decide +kernel
theorem dX8_longestBeginning_19 : decode cX8_longestBeginning 19 = .ok (.getfield 34, 3) := by decide +kernel
theorem dX8_longestBeginning_22 : decode cX8_longestBeginning 22 = .ok (.iload_n 3, 1) := by decide +kernel
theorem dX8_longestBeginning_23 : decode cX8_longestBeginning 23 = .ok (.iaload, 1) := by decide +kernel
theorem dX8_longestBeginning_24 : decode cX8_longestBeginning 24 = .ok (.aload_n 0, 1) := by decide +kernel
theorem dX8_longestBeginning_25 : decode cX8_longestBeginning 25 = .ok (.getfield 7, 3) := by decide +kernel
theorem dX8_longestBeginning_28 : decode cX8_longestBeginning 28 = .ok (.iconst 4, 1) := by decide +kernel
theorem dX8_longestBeginning_29 : decode cX8_longestBeginning 29 = .ok (.iaload, 1) := by decide +kernel
theorem dX8_longestBeginning_30 : decode cX8_longestBeginning 30 = .ok (.if_icmp .gt 7, 3) := by decide +kernel
theorem dX8_longestBeginning_33 : decode cX8_longestBeginning 33 = .ok (.iload_n 3, 1) := by decide +kernel
theorem dX8_longestBeginning_34 : decode cX8_longestBeginning 34 = .ok (.goto 4, 3) := by decide +kernel
theorem dX8_longestBeginning_37 : decode cX8_longestBeginning 37 = .ok (.iload_n 2, 1) := by decide +kernel
theorem dX8_longestBeginning_38 : decode cX8_longestBeginning 38 = .ok (.istore_n 2, 1) := by decide +kernel
theorem dX8_longestBeginning_39 : decode cX8_longestBeginning 39 = .ok (.iinc 3 1, 3) := by decide +kernel
theorem dX8_longestBeginning_42 : decode cX8_longestBeginning 42 = .ok (.goto (-33), 3) := by decide +kernel
theorem dX8_longestBeginning_45 : decode cX8_longestBeginning 45 = .ok (.iload_n 2, 1) := by decide +kernel
theorem dX8_longestBeginning_46 : decode cX8_longestBeginning 46 = .ok (.ireturn, 1) := by decide +kernel
theorem dX8_canBecome_0 : decode cX8_canBecome 0 = .ok (.iconst 0, 1) := by decide +kernel
theorem dX8_canBecome_1 : decode cX8_canBecome 1 = .ok (.istore_n 1, 1) := by decide +kernel
theorem dX8_canBecome_2 : decode cX8_canBecome 2 = .ok (.iconst 0, 1) := by decide +kernel
theorem dX8_canBecome_3 : decode cX8_canBecome 3 = .ok (.istore_n 2, 1) := by decide +kernel
theorem dX8_canBecome_4 : decode cX8_canBecome 4 = .ok (.iload_n 2, 1) := by decide +kernel
theorem dX8_canBecome_5 : decode cX8_canBecome 5 = .ok (.aload_n 0, 1) := by decide +kernel
theorem dX8_canBecome_6 : decode cX8_canBecome 6 = .ok (.getfield 7, 3) := by decide +kernel
theorem dX8_canBecome_9 : decode cX8_canBecome 9 = .ok (.bipush 6, 2) := by decide +kernel
theorem dX8_canBecome_11 : decode cX8_canBecome 11 = .ok (.iaload, 1) := by decide +kernel
theorem dX8_canBecome_12 : decode cX8_canBecome 12 = .ok (.if_icmp .ge 28, 3) := by decide +kernel
theorem dX8_canBecome_15 : decode cX8_canBecome 15 = .ok (.iload_n 1, 1) := by decide +kernel
theorem dX8_canBecome_16 : decode cX8_canBecome 16 = .ok (.aload_n 0, 1) := by decide +kernel
theorem dX8_canBecome_17 : decode cX8_canBecome 17 = .ok (.iload_n 2, 1) := by decide +kernel
theorem dX8_canBecome_18 : decode cX8_canBecome 18 = .ok (.invokevirtual 137, 3) := by decide +kernel
theorem dX8_canBecome_21 : decode cX8_canBecome 21 = .ok (.iconst (-1), 1) := by decide +kernel
theorem dX8_canBecome_22 : decode cX8_canBecome 22 = .ok (.if_icmp .ne 7, 3) := by decide +kernel
theorem dX8_canBecome_25 : decode cX8_canBecome 25 = .ok (.iconst 0, 1) := by decide +kernel
theorem dX8_canBecome_26 : decode cX8_canBecome 26 = .ok (.goto 6, 3) := by decide +kernel
theorem dX8_canBecome_29 : decode cX8_canBecome 29 = .ok (.iconst 1, 1) := by decide +kernel
theorem dX8_canBecome_30 : decode cX8_canBecome 30 = .ok (.iload_n 2, 1) := by decide +kernel
theorem dX8_canBecome_31 : decode cX8_canBecome 31 = .ok (.ishl, 1) := by decide +kernel
theorem dX8_canBecome_32 : decode cX8_canBecome 32 = .ok (.ior, 1) := by decide +kernel
theorem dX8_canBecome_33 : decode cX8_canBecome 33 = .ok (.istore_n 1, 1) := by decide +kernel
theorem dX8_canBecome_34 : decode cX8_canBecome 34 = .ok (.iinc 2 1, 3) := by decide +kernel
theorem dX8_canBecome_37 : decode cX8_canBecome 37 = .ok (.goto (-33), 3) := by decide +kernel
theorem dX8_canBecome_40 : decode cX8_canBecome 40 = .ok (.iload_n 1, 1) := by decide +kernel
theorem dX8_canBecome_41 : decode cX8_canBecome 41 = .ok (.ireturn, 1) := by decide +kernel
theorem dX8_toCome_0 : decode cX8_toCome 0 = .ok (.aload_n 0, 1) := by decide +kernel
theorem dX8_toCome_1 : decode cX8_toCome 1 = .ok (.invokevirtual 140, 3) := by decide +kernel
theorem dX8_toCome_4 : decode cX8_toCome 4 = .ok (.istore_n 1, 1) := by decide +kernel
theorem dX8_toCome_5 : decode cX8_toCome 5 = .ok (.iconst (-1), 1) := by decide +kernel
theorem dX8_toCome_6 : decode cX8_toCome 6 = .ok (.istore_n 2, 1) := by decide +kernel
theorem dX8_toCome_7 : decode cX8_toCome 7 = .ok (.iconst 0, 1) := by decide +kernel
theorem dX8_toCome_8 : decode cX8_toCome 8 = .ok (.istore_n 3, 1) := by decide +kernel
theorem dX8_toCome_9 : decode cX8_toCome 9 = .ok (.iload_n 3, 1) := by decide +kernel
theorem dX8_toCome_10 : decode cX8_toCome 10 = .ok (.aload_n 0, 1) := by decide +kernel
theorem dX8_toCome_11 : decode cX8_toCome 11 = .ok (.getfield 7, 3) := by decide +kernel
theorem dX8_toCome_14 : decode cX8_toCome 14 = .ok (.bipush 6, 2) := by decide +kernel
theorem dX8_toCome_16 : decode cX8_toCome 16 = .ok (.iaload, 1) := by decide +kernel
theorem dX8_toCome_17 : decode cX8_toCome 17 = .ok (.if_icmp .ge 32, 3) := by decide +kernel
theorem dX8_toCome_20 : decode cX8_toCome 20 = .ok (.iload_n 1, 1) := by decide +kernel
theorem dX8_toCome_21 : decode cX8_toCome 21 = .ok (.iconst 1, 1) := by decide +kernel
theorem dX8_toCome_22 : decode cX8_toCome 22 = .ok (.iload_n 3, 1) := by decide +kernel
theorem dX8_toCome_23 : decode cX8_toCome 23 = .ok (.ishl, 1) := by decide +kernel
theorem dX8_toCome_24 : decode cX8_toCome 24 = .ok (.if_icmp .ne 17, 3) := by decide +kernel
theorem dX8_toCome_27 : decode cX8_toCome 27 = .ok (.aload_n 0, 1) := by decide +kernel
theorem dX8_toCome_28 : decode cX8_toCome 28 = .ok (.iload_n 3, 1) := by decide +kernel
theorem dX8_toCome_29 : decode cX8_toCome 29 = .ok (.invokevirtual 116, 3) := by decide +kernel
theorem dX8_toCome_32 : decode cX8_toCome 32 = .ok (.aload_n 0, 1) := by decide +kernel
theorem dX8_toCome_33 : decode cX8_toCome 33 = .ok (.iload_n 3, 1) := by decide +kernel
theorem dX8_toCome_34 : decode cX8_toCome 34 = .ok (.invokevirtual 137, 3) := by decide +kernel
theorem dX8_toCome_37 : decode cX8_toCome 37 = .ok (.isub, 1) := by decide +kernel
theorem dX8_toCome_38 : decode cX8_toCome 38 = .ok (.goto 4, 3) := by decide +kernel
theorem dX8_toCome_41 : decode cX8_toCome 41 = .ok (.iload_n 2, 1) := by decide +kernel
theorem dX8_toCome_42 : decode cX8_toCome 42 = .ok (.istore_n 2, 1) := by decide +kernel
theorem dX8_toCome_43 : decode cX8_toCome 43 = .ok (.iinc 3 1, 3) := by decide +kernel
theorem dX8_toCome_46 : decode cX8_toCome 46 = .ok (.goto (-37), 3) := by decide +kernel
theorem dX8_toCome_49 : decode cX8_toCome 49 = .ok (.iload_n 2, 1) := by decide +kernel
theorem dX8_toCome_50 : decode cX8_toCome 50 = .ok (.ireturn, 1) := by decide +kernel
theorem dX8_addPoint_0 : decode cX8_addPoint 0 = .ok (.aload_n 0, 1) := by decide +kernel
theorem dX8_addPoint_1 : decode cX8_addPoint 1 = .ok (.getfield 7, 3) := by decide +kernel
theorem dX8_addPoint_4 : decode cX8_addPoint 4 = .ok (.bipush 7, 2) := by decide +kernel
theorem dX8_addPoint_6 : decode cX8_addPoint 6 = .ok (.iconst 2, 1) := by decide +kernel
theorem dX8_addPoint_7 : decode cX8_addPoint 7 = .ok (.aload_n 0, 1) := by decide +kernel
theorem dX8_addPoint_8 : decode cX8_addPoint 8 = .ok (.getfield 7, 3) := by decide +kernel
theorem dX8_addPoint_11 : decode cX8_addPoint 11 = .ok (.iconst 5, 1) := by decide +kernel
theorem dX8_addPoint_12 : decode cX8_addPoint 12 = .ok (.iaload, 1) := by decide +kernel
theorem dX8_addPoint_13 : decode cX8_addPoint 13 = .ok (.imul, 1) := by decide +kernel
theorem dX8_addPoint_14 : decode cX8_addPoint 14 = .ok (.iadd, 1) := by decide +kernel
theorem dX8_addPoint_15 : decode cX8_addPoint 15 = .ok (.iload_n 1, 1) := by decide +kernel
theorem dX8_addPoint_16 : decode cX8_addPoint 16 = .ok (.iastore, 1) := by decide +kernel
theorem dX8_addPoint_17 : decode cX8_addPoint 17 = .ok (.aload_n 0, 1) := by decide +kernel
theorem dX8_addPoint_18 : decode cX8_addPoint 18 = .ok (.getfield 7, 3) := by decide +kernel
theorem dX8_addPoint_21 : decode cX8_addPoint 21 = .ok (.bipush 7, 2) := by decide +kernel
theorem dX8_addPoint_23 : decode cX8_addPoint 23 = .ok (.iconst 2, 1) := by decide +kernel
theorem dX8_addPoint_24 : decode cX8_addPoint 24 = .ok (.aload_n 0, 1) := by decide +kernel
theorem dX8_addPoint_25 : decode cX8_addPoint 25 = .ok (.getfield 7, 3) := by decide +kernel
theorem dX8_addPoint_28 : decode cX8_addPoint 28 = .ok (.iconst 5, 1) := by decide +kernel
theorem dX8_addPoint_29 : decode cX8_addPoint 29 = .ok (.iaload, 1) := by decide +kernel
theorem dX8_addPoint_30 : decode cX8_addPoint 30 = .ok (.imul, 1) := by decide +kernel
theorem dX8_addPoint_31 : decode cX8_addPoint 31 = .ok (.iadd, 1) := by decide +kernel
theorem dX8_addPoint_32 : decode cX8_addPoint 32 = .ok (.iconst 1, 1) := by decide +kernel
theorem dX8_addPoint_33 : decode cX8_addPoint 33 = .ok (.iadd, 1) := by decide +kernel
theorem dX8_addPoint_34 : decode cX8_addPoint 34 = .ok (.iload_n 2, 1) := by decide +kernel
theorem dX8_addPoint_35 : decode cX8_addPoint 35 = .ok (.iastore, 1) := by decide +kernel
theorem dX8_addPoint_36 : decode cX8_addPoint 36 = .ok (.aload_n 0, 1) := by decide +kernel
theorem dX8_addPoint_37 : decode cX8_addPoint 37 = .ok (.getfield 7, 3) := by decide +kernel
theorem dX8_addPoint_40 : decode cX8_addPoint 40 = .ok (.iconst 5, 1) := by decide +kernel
theorem dX8_addPoint_41 : decode cX8_addPoint 41 = .ok (.dup2, 1) := by decide +kernel
theorem dX8_addPoint_42 : decode cX8_addPoint 42 = .ok (.iaload, 1) := by decide +kernel
theorem dX8_addPoint_43 : decode cX8_addPoint 43 = .ok (.iconst 1, 1) := by decide +kernel
theorem dX8_addPoint_44 : decode cX8_addPoint 44 = .ok (.iadd, 1) := by decide +kernel
theorem dX8_addPoint_45 : decode cX8_addPoint 45 = .ok (.iastore, 1) := by decide +kernel
theorem dX8_addPoint_46 : decode cX8_addPoint 46 = .ok (.return_, 1) := by decide +kernel
theorem dX8_point_0 : decode cX8_point 0 = .ok (.aload_n 0, 1) := by decide +kernel
theorem dX8_point_1 : decode cX8_point 1 = .ok (.iload_n 1, 1) := by decide +kernel
theorem dX8_point_2 : decode cX8_point 2 = .ok (.iload_n 2, 1) := by decide +kernel
theorem dX8_point_3 : decode cX8_point 3 = .ok (.invokestatic 143, 3) := by decide +kernel
theorem dX8_point_6 : decode cX8_point 6 = .ok (.ifCond .ne 7, 3) := by decide +kernel
theorem dX8_point_9 : decode cX8_point 9 = .ok (.iconst 1, 1) := by decide +kernel
theorem dX8_point_10 : decode cX8_point 10 = .ok (.goto 19, 3) := by decide +kernel
theorem dX8_point_13 : decode cX8_point 13 = .ok (.aload_n 0, 1) := by decide +kernel
theorem dX8_point_14 : decode cX8_point 14 = .ok (.getfield 7, 3) := by decide +kernel
theorem dX8_point_17 : decode cX8_point 17 = .ok (.iconst 5, 1) := by decide +kernel
theorem dX8_point_18 : decode cX8_point 18 = .ok (.iaload, 1) := by decide +kernel
theorem dX8_point_19 : decode cX8_point 19 = .ok (.bipush 40, 2) := by decide +kernel
theorem dX8_point_21 : decode cX8_point 21 = .ok (.if_icmp .ne 7, 3) := by decide +kernel
theorem dX8_point_24 : decode cX8_point 24 = .ok (.iconst 2, 1) := by decide +kernel
theorem dX8_point_25 : decode cX8_point 25 = .ok (.goto 4, 3) := by decide +kernel
theorem dX8_point_28 : decode cX8_point 28 = .ok (.iconst 0, 1) := by decide +kernel
theorem dX8_point_29 : decode cX8_point 29 = .ok (.putfield 43, 3) := by decide +kernel
theorem dX8_point_32 : decode cX8_point 32 = .ok (.aload_n 0, 1) := by decide +kernel
theorem dX8_point_33 : decode cX8_point 33 = .ok (.getfield 43, 3) := by decide +kernel
theorem dX8_point_36 : decode cX8_point 36 = .ok (.ifCond .le 5, 3) := by decide +kernel
theorem dX8_point_39 : decode cX8_point 39 = .ok (.iconst 0, 1) := by decide +kernel
theorem dX8_point_40 : decode cX8_point 40 = .ok (.ireturn, 1) := by decide +kernel
theorem dX8_point_41 : decode cX8_point 41 = .ok (.aload_n 0, 1) := by decide +kernel
theorem dX8_point_42 : decode cX8_point 42 = .ok (.invokevirtual 147, 3) := by decide +kernel
theorem dX8_point_45 : decode cX8_point 45 = .ok (.aload_n 0, 1) := by decide +kernel
theorem dX8_point_46 : decode cX8_point 46 = .ok (.iload_n 1, 1) := by decide +kernel
theorem dX8_point_47 : decode cX8_point 47 = .ok (.iload_n 2, 1) := by decide +kernel
theorem dX8_point_48 : decode cX8_point 48 = .ok (.invokevirtual 150, 3) := by decide +kernel
theorem dX8_point_51 : decode cX8_point 51 = .ok (.aload_n 0, 1) := by decide +kernel
theorem dX8_point_52 : decode cX8_point 52 = .ok (.getfield 7, 3) := by decide +kernel
theorem dX8_point_55 : decode cX8_point 55 = .ok (.iconst 5, 1) := by decide +kernel
theorem dX8_point_56 : decode cX8_point 56 = .ok (.iaload, 1) := by decide +kernel
theorem dX8_point_57 : decode cX8_point 57 = .ok (.ireturn, 1) := by decide +kernel
theorem dX8_lastPart_0 : decode cX8_lastPart 0 = .ok (.aload_n 0, 1) := by decide +kernel
theorem dX8_lastPart_1 : decode cX8_lastPart 1 = .ok (.getfield 7, 3) := by decide +kernel
theorem dX8_lastPart_4 : decode cX8_lastPart 4 = .ok (.iconst 5, 1) := by decide +kernel
theorem dX8_lastPart_5 : decode cX8_lastPart 5 = .ok (.iaload, 1) := by decide +kernel
theorem dX8_lastPart_6 : decode cX8_lastPart 6 = .ok (.ifCond .ne 7, 3) := by decide +kernel
theorem dX8_lastPart_9 : decode cX8_lastPart 9 = .ok (.iconst 0, 1) := by decide +kernel
theorem dX8_lastPart_10 : decode cX8_lastPart 10 = .ok (.goto 23, 3) := by decide +kernel
theorem dX8_lastPart_13 : decode cX8_lastPart 13 = .ok (.aload_n 0, 1) := by decide +kernel
theorem dX8_lastPart_14 : decode cX8_lastPart 14 = .ok (.getfield 7, 3) := by decide +kernel
theorem dX8_lastPart_17 : decode cX8_lastPart 17 = .ok (.bipush 7, 2) := by decide +kernel
theorem dX8_lastPart_19 : decode cX8_lastPart 19 = .ok (.iconst 2, 1) := by decide +kernel
theorem dX8_lastPart_20 : decode cX8_lastPart 20 = .ok (.aload_n 0, 1) := by decide +kernel
theorem dX8_lastPart_21 : decode cX8_lastPart 21 = .ok (.getfield 7, 3) := by decide +kernel
theorem dX8_lastPart_24 : decode cX8_lastPart 24 = .ok (.iconst 5, 1) := by decide +kernel
theorem dX8_lastPart_25 : decode cX8_lastPart 25 = .ok (.iaload, 1) := by decide +kernel
theorem dX8_lastPart_26 : decode cX8_lastPart 26 = .ok (.iconst 1, 1) := by decide +kernel
theorem dX8_lastPart_27 : decode cX8_lastPart 27 = .ok (.isub, 1) := by decide +kernel
theorem dX8_lastPart_28 : decode cX8_lastPart 28 = .ok (.imul, 1) := by decide +kernel
theorem dX8_lastPart_29 : decode cX8_lastPart 29 = .ok (.iadd, 1) := by decide +kernel
theorem dX8_lastPart_30 : decode cX8_lastPart 30 = .ok (.iload_n 1, 1) := by decide +kernel
theorem dX8_lastPart_31 : decode cX8_lastPart 31 = .ok (.iadd, 1) := by decide +kernel
theorem dX8_lastPart_32 : decode cX8_lastPart 32 = .ok (.iaload, 1) := by decide +kernel
theorem dX8_lastPart_33 : decode cX8_lastPart 33 = .ok (.ireturn, 1) := by decide +kernel
theorem dX8_stepsFor_0 : decode cX8_stepsFor 0 = .ok (.iconst 0, 1) := by decide +kernel
theorem dX8_stepsFor_1 : decode cX8_stepsFor 1 = .ok (.istore_n 3, 1) := by decide +kernel
theorem dX8_stepsFor_2 : decode cX8_stepsFor 2 = .ok (.iload_n 3, 1) := by decide +kernel
theorem dX8_stepsFor_3 : decode cX8_stepsFor 3 = .ok (.iload_n 2, 1) := by decide +kernel
theorem dX8_stepsFor_4 : decode cX8_stepsFor 4 = .ok (.if_icmp .ge 43, 3) := by decide +kernel
theorem dX8_stepsFor_7 : decode cX8_stepsFor 7 = .ok (.aload_n 0, 1) := by decide +kernel
theorem dX8_stepsFor_8 : decode cX8_stepsFor 8 = .ok (.iconst 0, 1) := by decide +kernel
theorem dX8_stepsFor_9 : decode cX8_stepsFor 9 = .ok (.invokevirtual 154, 3) := by decide +kernel
theorem dX8_stepsFor_12 : decode cX8_stepsFor 12 = .ok (.iload_n 1, 1) := by decide +kernel
theorem dX8_stepsFor_13 : decode cX8_stepsFor 13 = .ok (.invokestatic 54, 3) := by decide +kernel
theorem dX8_stepsFor_16 : decode cX8_stepsFor 16 = .ok (.iload_n 3, 1) := by decide +kernel
theorem dX8_stepsFor_17 : decode cX8_stepsFor 17 = .ok (.iconst 1, 1) := by decide +kernel
theorem dX8_stepsFor_18 : decode cX8_stepsFor 18 = .ok (.iadd, 1) := by decide +kernel
theorem dX8_stepsFor_19 : decode cX8_stepsFor 19 = .ok (.imul, 1) := by decide +kernel
theorem dX8_stepsFor_20 : decode cX8_stepsFor 20 = .ok (.iadd, 1) := by decide +kernel
theorem dX8_stepsFor_21 : decode cX8_stepsFor 21 = .ok (.aload_n 0, 1) := by decide +kernel
theorem dX8_stepsFor_22 : decode cX8_stepsFor 22 = .ok (.iconst 1, 1) := by decide +kernel
theorem dX8_stepsFor_23 : decode cX8_stepsFor 23 = .ok (.invokevirtual 154, 3) := by decide +kernel
theorem dX8_stepsFor_26 : decode cX8_stepsFor 26 = .ok (.iload_n 1, 1) := by decide +kernel
theorem dX8_stepsFor_27 : decode cX8_stepsFor 27 = .ok (.invokestatic 61, 3) := by decide +kernel
theorem dX8_stepsFor_30 : decode cX8_stepsFor 30 = .ok (.iload_n 3, 1) := by decide +kernel
theorem dX8_stepsFor_31 : decode cX8_stepsFor 31 = .ok (.iconst 1, 1) := by decide +kernel
theorem dX8_stepsFor_32 : decode cX8_stepsFor 32 = .ok (.iadd, 1) := by decide +kernel
theorem dX8_stepsFor_33 : decode cX8_stepsFor 33 = .ok (.imul, 1) := by decide +kernel
theorem dX8_stepsFor_34 : decode cX8_stepsFor 34 = .ok (.iadd, 1) := by decide +kernel
theorem dX8_stepsFor_35 : decode cX8_stepsFor 35 = .ok (.invokestatic 143, 3) := by decide +kernel
theorem dX8_stepsFor_38 : decode cX8_stepsFor 38 = .ok (.ifCond .eq 9, 3) := by decide +kernel
theorem dX8_stepsFor_41 : decode cX8_stepsFor 41 = .ok (.iinc 3 1, 3) := by decide +kernel
theorem dX8_stepsFor_44 : decode cX8_stepsFor 44 = .ok (.goto (-42), 3) := by decide +kernel
theorem dX8_stepsFor_47 : decode cX8_stepsFor 47 = .ok (.iload_n 3, 1) := by decide +kernel
theorem dX8_stepsFor_48 : decode cX8_stepsFor 48 = .ok (.ireturn, 1) := by decide +kernel
theorem dX8_go_0 : decode cX8_go 0 = .ok (.aload_n 0, 1) := by decide +kernel
theorem dX8_go_1 : decode cX8_go 1 = .ok (.iload_n 1, 1) := by decide +kernel
theorem dX8_go_2 : decode cX8_go 2 = .ok (.invokestatic 157, 3) := by decide +kernel
theorem dX8_go_5 : decode cX8_go 5 = .ok (.ifCond .eq 17, 3) := by decide +kernel
theorem dX8_go_8 : decode cX8_go 8 = .ok (.iload_n 2, 1) := by decide +kernel
theorem dX8_go_9 : decode cX8_go 9 = .ok (.iconst 1, 1) := by decide +kernel
theorem dX8_go_10 : decode cX8_go 10 = .ok (.bipush 31, 2) := by decide +kernel
theorem dX8_go_12 : decode cX8_go 12 = .ok (.invokestatic 50, 3) := by decide +kernel
theorem dX8_go_15 : decode cX8_go 15 = .ok (.ifCond .eq 7, 3) := by decide +kernel
theorem dX8_go_18 : decode cX8_go 18 = .ok (.iconst 0, 1) := by decide +kernel
theorem dX8_go_19 : decode cX8_go 19 = .ok (.goto 4, 3) := by decide +kernel
theorem dX8_go_22 : decode cX8_go 22 = .ok (.iconst 1, 1) := by decide +kernel
theorem dX8_go_23 : decode cX8_go 23 = .ok (.putfield 43, 3) := by decide +kernel
theorem dX8_go_26 : decode cX8_go 26 = .ok (.aload_n 0, 1) := by decide +kernel
theorem dX8_go_27 : decode cX8_go 27 = .ok (.getfield 43, 3) := by decide +kernel
theorem dX8_go_30 : decode cX8_go 30 = .ok (.ifCond .ne 34, 3) := by decide +kernel
theorem dX8_go_33 : decode cX8_go 33 = .ok (.aload_n 0, 1) := by decide +kernel
theorem dX8_go_34 : decode cX8_go 34 = .ok (.aload_n 0, 1) := by decide +kernel
theorem dX8_go_35 : decode cX8_go 35 = .ok (.getfield 7, 3) := by decide +kernel
theorem dX8_go_38 : decode cX8_go 38 = .ok (.iconst 5, 1) := by decide +kernel
theorem dX8_go_39 : decode cX8_go 39 = .ok (.iaload, 1) := by decide +kernel
theorem dX8_go_40 : decode cX8_go 40 = .ok (.iconst 1, 1) := by decide +kernel
theorem dX8_go_41 : decode cX8_go 41 = .ok (.invokestatic 71, 3) := by decide +kernel
theorem dX8_go_44 : decode cX8_go 44 = .ok (.aload_n 0, 1) := by decide +kernel
theorem dX8_go_45 : decode cX8_go 45 = .ok (.iload_n 1, 1) := by decide +kernel
theorem dX8_go_46 : decode cX8_go 46 = .ok (.iload_n 2, 1) := by decide +kernel
theorem dX8_go_47 : decode cX8_go 47 = .ok (.invokevirtual 160, 3) := by decide +kernel
theorem dX8_go_50 : decode cX8_go 50 = .ok (.iadd, 1) := by decide +kernel
theorem dX8_go_51 : decode cX8_go 51 = .ok (.bipush 40, 2) := by decide +kernel
theorem dX8_go_53 : decode cX8_go 53 = .ok (.if_icmp .le 7, 3) := by decide +kernel
theorem dX8_go_56 : decode cX8_go 56 = .ok (.iconst 2, 1) := by decide +kernel
theorem dX8_go_57 : decode cX8_go 57 = .ok (.goto 4, 3) := by decide +kernel
theorem dX8_go_60 : decode cX8_go 60 = .ok (.iconst 0, 1) := by decide +kernel
theorem dX8_go_61 : decode cX8_go 61 = .ok (.putfield 43, 3) := by decide +kernel
theorem dX8_go_64 : decode cX8_go 64 = .ok (.aload_n 0, 1) := by decide +kernel
theorem dX8_go_65 : decode cX8_go 65 = .ok (.getfield 43, 3) := by decide +kernel
theorem dX8_go_68 : decode cX8_go 68 = .ok (.ifCond .le 5, 3) := by decide +kernel
theorem dX8_go_71 : decode cX8_go 71 = .ok (.iconst 0, 1) := by decide +kernel
theorem dX8_go_72 : decode cX8_go 72 = .ok (.ireturn, 1) := by decide +kernel
theorem dX8_go_73 : decode cX8_go 73 = .ok (.aload_n 0, 1) := by decide +kernel
theorem dX8_go_74 : decode cX8_go 74 = .ok (.invokevirtual 147, 3) := by decide +kernel
theorem dX8_go_77 : decode cX8_go 77 = .ok (.aload_n 0, 1) := by decide +kernel
theorem dX8_go_78 : decode cX8_go 78 = .ok (.iload_n 1, 1) := by decide +kernel
theorem dX8_go_79 : decode cX8_go 79 = .ok (.iload_n 2, 1) := by decide +kernel
theorem dX8_go_80 : decode cX8_go 80 = .ok (.invokevirtual 160, 3) := by decide +kernel
theorem dX8_go_83 : decode cX8_go 83 = .ok (.istore_n 3, 1) := by decide +kernel
theorem dX8_go_84 : decode cX8_go 84 = .ok (.aload_n 0, 1) := by decide +kernel
theorem dX8_go_85 : decode cX8_go 85 = .ok (.getfield 7, 3) := by decide +kernel
theorem dX8_go_88 : decode cX8_go 88 = .ok (.iconst 5, 1) := by decide +kernel
theorem dX8_go_89 : decode cX8_go 89 = .ok (.iaload, 1) := by decide +kernel
theorem dX8_go_90 : decode cX8_go 90 = .ok (.ifCond .ne 9, 3) := by decide +kernel
theorem dX8_go_93 : decode cX8_go 93 = .ok (.aload_n 0, 1) := by decide +kernel
theorem dX8_go_94 : decode cX8_go 94 = .ok (.iconst 0, 1) := by decide +kernel
theorem dX8_go_95 : decode cX8_go 95 = .ok (.iconst 0, 1) := by decide +kernel
theorem dX8_go_96 : decode cX8_go 96 = .ok (.invokevirtual 150, 3) := by decide +kernel
theorem dX8_go_99 : decode cX8_go 99 = .ok (.iconst 0, 1) := by decide +kernel
theorem dX8_go_100 : decode cX8_go 100 = .ok (.istore 4, 2) := by decide +kernel
theorem dX8_go_102 : decode cX8_go 102 = .ok (.iload 4, 2) := by decide +kernel
theorem dX8_go_104 : decode cX8_go 104 = .ok (.iload_n 3, 1) := by decide +kernel
theorem dX8_go_105 : decode cX8_go 105 = .ok (.if_icmp .ge 33, 3) := by decide +kernel
theorem dX8_go_108 : decode cX8_go 108 = .ok (.aload_n 0, 1) := by decide +kernel
theorem dX8_go_109 : decode cX8_go 109 = .ok (.aload_n 0, 1) := by decide +kernel
theorem dX8_go_110 : decode cX8_go 110 = .ok (.iconst 0, 1) := by decide +kernel
theorem dX8_go_111 : decode cX8_go 111 = .ok (.invokevirtual 154, 3) := by decide +kernel
theorem dX8_go_114 : decode cX8_go 114 = .ok (.iload_n 1, 1) := by decide +kernel
theorem dX8_go_115 : decode cX8_go 115 = .ok (.invokestatic 54, 3) := by decide +kernel
theorem dX8_go_118 : decode cX8_go 118 = .ok (.iadd, 1) := by decide +kernel
theorem dX8_go_119 : decode cX8_go 119 = .ok (.aload_n 0, 1) := by decide +kernel
theorem dX8_go_120 : decode cX8_go 120 = .ok (.iconst 1, 1) := by decide +kernel
theorem dX8_go_121 : decode cX8_go 121 = .ok (.invokevirtual 154, 3) := by decide +kernel
theorem dX8_go_124 : decode cX8_go 124 = .ok (.iload_n 1, 1) := by decide +kernel
theorem dX8_go_125 : decode cX8_go 125 = .ok (.invokestatic 61, 3) := by decide +kernel
theorem dX8_go_128 : decode cX8_go 128 = .ok (.iadd, 1) := by decide +kernel
theorem dX8_go_129 : decode cX8_go 129 = .ok (.invokevirtual 150, 3) := by decide +kernel
theorem dX8_go_132 : decode cX8_go 132 = .ok (.iinc 4 1, 3) := by decide +kernel
theorem dX8_go_135 : decode cX8_go 135 = .ok (.goto (-33), 3) := by decide +kernel
theorem dX8_go_138 : decode cX8_go 138 = .ok (.iload_n 3, 1) := by decide +kernel
theorem dX8_go_139 : decode cX8_go 139 = .ok (.ireturn, 1) := by decide +kernel
theorem dX8_clearFrom_0 : decode cX8_clearFrom 0 = .ok (.aload_n 0, 1) := by decide +kernel
theorem dX8_clearFrom_1 : decode cX8_clearFrom 1 = .ok (.getfield 7, 3) := by decide +kernel
theorem dX8_clearFrom_4 : decode cX8_clearFrom 4 = .ok (.iconst 5, 1) := by decide +kernel
theorem dX8_clearFrom_5 : decode cX8_clearFrom 5 = .ok (.iload_n 1, 1) := by decide +kernel
theorem dX8_clearFrom_6 : decode cX8_clearFrom 6 = .ok (.iastore, 1) := by decide +kernel
theorem dX8_clearFrom_7 : decode cX8_clearFrom 7 = .ok (.bipush 7, 2) := by decide +kernel
theorem dX8_clearFrom_9 : decode cX8_clearFrom 9 = .ok (.iconst 2, 1) := by decide +kernel
theorem dX8_clearFrom_10 : decode cX8_clearFrom 10 = .ok (.iload_n 1, 1) := by decide +kernel
theorem dX8_clearFrom_11 : decode cX8_clearFrom 11 = .ok (.imul, 1) := by decide +kernel
theorem dX8_clearFrom_12 : decode cX8_clearFrom 12 = .ok (.iadd, 1) := by decide +kernel
theorem dX8_clearFrom_13 : decode cX8_clearFrom 13 = .ok (.istore_n 2, 1) := by decide +kernel
theorem dX8_clearFrom_14 : decode cX8_clearFrom 14 = .ok (.iload_n 2, 1) := by decide +kernel
theorem dX8_clearFrom_15 : decode cX8_clearFrom 15 = .ok (.bipush 87, 2) := by decide +kernel
theorem dX8_clearFrom_17 : decode cX8_clearFrom 17 = .ok (.if_icmp .ge 16, 3) := by decide +kernel
theorem dX8_clearFrom_20 : decode cX8_clearFrom 20 = .ok (.aload_n 0, 1) := by decide +kernel
theorem dX8_clearFrom_21 : decode cX8_clearFrom 21 = .ok (.getfield 7, 3) := by decide +kernel
theorem dX8_clearFrom_24 : decode cX8_clearFrom 24 = .ok (.iload_n 2, 1) := by decide +kernel
theorem dX8_clearFrom_25 : decode cX8_clearFrom 25 = .ok (.iconst 0, 1) := by decide +kernel
theorem dX8_clearFrom_26 : decode cX8_clearFrom 26 = .ok (.iastore, 1) := by decide +kernel
theorem dX8_clearFrom_27 : decode cX8_clearFrom 27 = .ok (.iinc 2 1, 3) := by decide +kernel
theorem dX8_clearFrom_30 : decode cX8_clearFrom 30 = .ok (.goto (-16), 3) := by decide +kernel
theorem dX8_clearFrom_33 : decode cX8_clearFrom 33 = .ok (.return_, 1) := by decide +kernel
theorem dX8_back_0 : decode cX8_back 0 = .ok (.aload_n 0, 1) := by decide +kernel
theorem dX8_back_1 : decode cX8_back 1 = .ok (.iload_n 1, 1) := by decide +kernel
theorem dX8_back_2 : decode cX8_back 2 = .ok (.iconst 1, 1) := by decide +kernel
theorem dX8_back_3 : decode cX8_back 3 = .ok (.aload_n 0, 1) := by decide +kernel
theorem dX8_back_4 : decode cX8_back 4 = .ok (.getfield 7, 3) := by decide +kernel
theorem dX8_back_7 : decode cX8_back 7 = .ok (.iconst 5, 1) := by decide +kernel
theorem dX8_back_8 : decode cX8_back 8 = .ok (.iaload, 1) := by decide +kernel
theorem dX8_back_9 : decode cX8_back 9 = .ok (.invokestatic 50, 3) := by decide +kernel
theorem dX8_back_12 : decode cX8_back 12 = .ok (.ifCond .eq 7, 3) := by decide +kernel
theorem dX8_back_15 : decode cX8_back 15 = .ok (.iconst 0, 1) := by decide +kernel
theorem dX8_back_16 : decode cX8_back 16 = .ok (.goto 4, 3) := by decide +kernel
theorem dX8_back_19 : decode cX8_back 19 = .ok (.iconst 1, 1) := by decide +kernel
theorem dX8_back_20 : decode cX8_back 20 = .ok (.putfield 43, 3) := by decide +kernel
theorem dX8_back_23 : decode cX8_back 23 = .ok (.aload_n 0, 1) := by decide +kernel
theorem dX8_back_24 : decode cX8_back 24 = .ok (.getfield 43, 3) := by decide +kernel
theorem dX8_back_27 : decode cX8_back 27 = .ok (.ifCond .le 5, 3) := by decide +kernel
theorem dX8_back_30 : decode cX8_back 30 = .ok (.iconst 0, 1) := by decide +kernel
theorem dX8_back_31 : decode cX8_back 31 = .ok (.ireturn, 1) := by decide +kernel
theorem dX8_back_32 : decode cX8_back 32 = .ok (.aload_n 0, 1) := by decide +kernel
theorem dX8_back_33 : decode cX8_back 33 = .ok (.invokevirtual 147, 3) := by decide +kernel
theorem dX8_back_36 : decode cX8_back 36 = .ok (.aload_n 0, 1) := by decide +kernel
theorem dX8_back_37 : decode cX8_back 37 = .ok (.aload_n 0, 1) := by decide +kernel
theorem dX8_back_38 : decode cX8_back 38 = .ok (.getfield 7, 3) := by decide +kernel
theorem dX8_back_41 : decode cX8_back 41 = .ok (.iconst 5, 1) := by decide +kernel
theorem dX8_back_42 : decode cX8_back 42 = .ok (.iaload, 1) := by decide +kernel
theorem dX8_back_43 : decode cX8_back 43 = .ok (.iload_n 1, 1) := by decide +kernel
theorem dX8_back_44 : decode cX8_back 44 = .ok (.isub, 1) := by decide +kernel
theorem dX8_back_45 : decode cX8_back 45 = .ok (.invokevirtual 163, 3) := by decide +kernel
theorem dX8_back_48 : decode cX8_back 48 = .ok (.aload_n 0, 1) := by decide +kernel
theorem dX8_back_49 : decode cX8_back 49 = .ok (.getfield 7, 3) := by decide +kernel
theorem dX8_back_52 : decode cX8_back 52 = .ok (.iconst 5, 1) := by decide +kernel
theorem dX8_back_53 : decode cX8_back 53 = .ok (.iaload, 1) := by decide +kernel
theorem dX8_back_54 : decode cX8_back 54 = .ok (.ireturn, 1) := by decide +kernel
theorem dX8_begin_0 : decode cX8_begin 0 = .ok (.aload_n 0, 1) := by decide +kernel
theorem dX8_begin_1 : decode cX8_begin 1 = .ok (.iconst 0, 1) := by decide +kernel
theorem dX8_begin_2 : decode cX8_begin 2 = .ok (.putfield 43, 3) := by decide +kernel
theorem dX8_begin_5 : decode cX8_begin 5 = .ok (.aload_n 0, 1) := by decide +kernel
theorem dX8_begin_6 : decode cX8_begin 6 = .ok (.invokevirtual 147, 3) := by decide +kernel
theorem dX8_begin_9 : decode cX8_begin 9 = .ok (.aload_n 0, 1) := by decide +kernel
theorem dX8_begin_10 : decode cX8_begin 10 = .ok (.getfield 7, 3) := by decide +kernel
theorem dX8_begin_13 : decode cX8_begin 13 = .ok (.iconst 5, 1) := by decide +kernel
theorem dX8_begin_14 : decode cX8_begin 14 = .ok (.iaload, 1) := by decide +kernel
theorem dX8_begin_15 : decode cX8_begin 15 = .ok (.istore_n 1, 1) := by decide +kernel
theorem dX8_begin_16 : decode cX8_begin 16 = .ok (.aload_n 0, 1) := by decide +kernel
theorem dX8_begin_17 : decode cX8_begin 17 = .ok (.iconst 0, 1) := by decide +kernel
theorem dX8_begin_18 : decode cX8_begin 18 = .ok (.invokevirtual 163, 3) := by decide +kernel
theorem dX8_begin_21 : decode cX8_begin 21 = .ok (.iload_n 1, 1) := by decide +kernel
theorem dX8_begin_22 : decode cX8_begin 22 = .ok (.ireturn, 1) := by decide +kernel
theorem dX8_canTurn_0 : decode cX8_canTurn 0 = .ok (.aload_n 0, 1) := by decide +kernel
theorem dX8_canTurn_1 : decode cX8_canTurn 1 = .ok (.invokevirtual 110, 3) := by decide +kernel
theorem dX8_canTurn_4 : decode cX8_canTurn 4 = .ok (.iconst 1, 1) := by decide +kernel
theorem dX8_canTurn_5 : decode cX8_canTurn 5 = .ok (.istore_n 2, 1) := by decide +kernel
theorem dX8_canTurn_6 : decode cX8_canTurn 6 = .ok (.iconst 0, 1) := by decide +kernel
theorem dX8_canTurn_7 : decode cX8_canTurn 7 = .ok (.istore_n 3, 1) := by decide +kernel
theorem dX8_canTurn_8 : decode cX8_canTurn 8 = .ok (.iload_n 3, 1) := by decide +kernel
theorem dX8_canTurn_9 : decode cX8_canTurn 9 = .ok (.aload_n 0, 1) := by decide +kernel
theorem dX8_canTurn_10 : decode cX8_canTurn 10 = .ok (.getfield 64, 3) := by decide +kernel
theorem dX8_canTurn_13 : decode cX8_canTurn 13 = .ok (.if_icmp .ge 202, 3) := by decide +kernel
theorem dX8_canTurn_16 : decode cX8_canTurn 16 = .ok (.aload_n 0, 1) := by decide +kernel
theorem dX8_canTurn_17 : decode cX8_canTurn 17 = .ok (.iload_n 3, 1) := by decide +kernel
theorem dX8_canTurn_18 : decode cX8_canTurn 18 = .ok (.invokevirtual 77, 3) := by decide +kernel
theorem dX8_canTurn_21 : decode cX8_canTurn 21 = .ok (.istore 4, 2) := by decide +kernel
theorem dX8_canTurn_23 : decode cX8_canTurn 23 = .ok (.aload_n 0, 1) := by decide +kernel
theorem dX8_canTurn_24 : decode cX8_canTurn 24 = .ok (.iload_n 3, 1) := by decide +kernel
theorem dX8_canTurn_25 : decode cX8_canTurn 25 = .ok (.invokevirtual 80, 3) := by decide +kernel
theorem dX8_canTurn_28 : decode cX8_canTurn 28 = .ok (.istore 5, 2) := by decide +kernel
theorem dX8_canTurn_30 : decode cX8_canTurn 30 = .ok (.iload_n 3, 1) := by decide +kernel
theorem dX8_canTurn_31 : decode cX8_canTurn 31 = .ok (.ifCond .ne 12, 3) := by decide +kernel
theorem dX8_canTurn_34 : decode cX8_canTurn 34 = .ok (.aload_n 0, 1) := by decide +kernel
theorem dX8_canTurn_35 : decode cX8_canTurn 35 = .ok (.getfield 19, 3) := by decide +kernel
theorem dX8_canTurn_38 : decode cX8_canTurn 38 = .ok (.iconst 0, 1) := by decide +kernel
theorem dX8_canTurn_39 : decode cX8_canTurn 39 = .ok (.iaload, 1) := by decide +kernel
theorem dX8_canTurn_40 : decode cX8_canTurn 40 = .ok (.goto 11, 3) := by decide +kernel
theorem dX8_canTurn_43 : decode cX8_canTurn 43 = .ok (.aload_n 0, 1) := by decide +kernel
theorem dX8_canTurn_44 : decode cX8_canTurn 44 = .ok (.getfield 37, 3) := by decide +kernel
theorem dX8_canTurn_47 : decode cX8_canTurn 47 = .ok (.iload_n 3, 1) := by decide +kernel
theorem dX8_canTurn_48 : decode cX8_canTurn 48 = .ok (.iconst 1, 1) := by decide +kernel
theorem dX8_canTurn_49 : decode cX8_canTurn 49 = .ok (.isub, 1) := by decide +kernel
theorem dX8_canTurn_50 : decode cX8_canTurn 50 = .ok (.iaload, 1) := by decide +kernel
theorem dX8_canTurn_51 : decode cX8_canTurn 51 = .ok (.istore 6, 2) := by decide +kernel
theorem dX8_canTurn_53 : decode cX8_canTurn 53 = .ok (.iload_n 3, 1) := by decide +kernel
theorem dX8_canTurn_54 : decode cX8_canTurn 54 = .ok (.ifCond .ne 12, 3) := by decide +kernel
theorem dX8_canTurn_57 : decode cX8_canTurn 57 = .ok (.aload_n 0, 1) := by decide +kernel
theorem dX8_canTurn_58 : decode cX8_canTurn 58 = .ok (.getfield 22, 3) := by decide +kernel
theorem dX8_canTurn_61 : decode cX8_canTurn 61 = .ok (.iconst 0, 1) := by decide +kernel
theorem dX8_canTurn_62 : decode cX8_canTurn 62 = .ok (.iaload, 1) := by decide +kernel
theorem dX8_canTurn_63 : decode cX8_canTurn 63 = .ok (.goto 11, 3) := by decide +kernel
theorem dX8_canTurn_66 : decode cX8_canTurn 66 = .ok (.aload_n 0, 1) := by decide +kernel
theorem dX8_canTurn_67 : decode cX8_canTurn 67 = .ok (.getfield 40, 3) := by decide +kernel
theorem dX8_canTurn_70 : decode cX8_canTurn 70 = .ok (.iload_n 3, 1) := by decide +kernel
theorem dX8_canTurn_71 : decode cX8_canTurn 71 = .ok (.iconst 1, 1) := by decide +kernel
theorem dX8_canTurn_72 : decode cX8_canTurn 72 = .ok (.isub, 1) := by decide +kernel
theorem dX8_canTurn_73 : decode cX8_canTurn 73 = .ok (.iaload, 1) := by decide +kernel
theorem dX8_canTurn_74 : decode cX8_canTurn 74 = .ok (.istore 7, 2) := by decide +kernel
theorem dX8_canTurn_76 : decode cX8_canTurn 76 = .ok (.iload 4, 2) := by decide +kernel
theorem dX8_canTurn_78 : decode cX8_canTurn 78 = .ok (.iconst (-1), 1) := by decide +kernel
theorem dX8_canTurn_79 : decode cX8_canTurn 79 = .ok (.if_icmp .eq 94, 3) := by decide +kernel
theorem dX8_canTurn_82 : decode cX8_canTurn 82 = .ok (.aload_n 0, 1) := by decide +kernel
theorem dX8_canTurn_83 : decode cX8_canTurn 83 = .ok (.getfield 19, 3) := by decide +kernel
theorem dX8_canTurn_86 : decode cX8_canTurn 86 = .ok (.iload_n 3, 1) := by decide +kernel
theorem dX8_canTurn_87 : decode cX8_canTurn 87 = .ok (.iaload, 1) := by decide +kernel
theorem dX8_canTurn_88 : decode cX8_canTurn 88 = .ok (.aload_n 0, 1) := by decide +kernel
theorem dX8_canTurn_89 : decode cX8_canTurn 89 = .ok (.getfield 19, 3) := by decide +kernel
theorem dX8_canTurn_92 : decode cX8_canTurn 92 = .ok (.iload_n 3, 1) := by decide +kernel
theorem dX8_canTurn_93 : decode cX8_canTurn 93 = .ok (.iconst 1, 1) := by decide +kernel
theorem dX8_canTurn_94 : decode cX8_canTurn 94 = .ok (.isub, 1) := by decide +kernel
theorem dX8_canTurn_95 : decode cX8_canTurn 95 = .ok (.iaload, 1) := by decide +kernel
theorem dX8_canTurn_96 : decode cX8_canTurn 96 = .ok (.isub, 1) := by decide +kernel
theorem dX8_canTurn_97 : decode cX8_canTurn 97 = .ok (.invokestatic 58, 3) := by decide +kernel
theorem dX8_canTurn_100 : decode cX8_canTurn 100 = .ok (.aload_n 0, 1) := by decide +kernel
theorem dX8_canTurn_101 : decode cX8_canTurn 101 = .ok (.getfield 22, 3) := by decide +kernel
theorem dX8_canTurn_104 : decode cX8_canTurn 104 = .ok (.iload_n 3, 1) := by decide +kernel
theorem dX8_canTurn_105 : decode cX8_canTurn 105 = .ok (.iaload, 1) := by decide +kernel
theorem dX8_canTurn_106 : decode cX8_canTurn 106 = .ok (.aload_n 0, 1) := by decide +kernel
theorem dX8_canTurn_107 : decode cX8_canTurn 107 = .ok (.getfield 22, 3) := by decide +kernel
theorem dX8_canTurn_110 : decode cX8_canTurn 110 = .ok (.iload_n 3, 1) := by decide +kernel
theorem dX8_canTurn_111 : decode cX8_canTurn 111 = .ok (.iconst 1, 1) := by decide +kernel
theorem dX8_canTurn_112 : decode cX8_canTurn 112 = .ok (.isub, 1) := by decide +kernel
theorem dX8_canTurn_113 : decode cX8_canTurn 113 = .ok (.iaload, 1) := by decide +kernel
theorem dX8_canTurn_114 : decode cX8_canTurn 114 = .ok (.isub, 1) := by decide +kernel
theorem dX8_canTurn_115 : decode cX8_canTurn 115 = .ok (.invokestatic 58, 3) := by decide +kernel
theorem dX8_canTurn_118 : decode cX8_canTurn 118 = .ok (.isub, 1) := by decide +kernel
theorem dX8_canTurn_119 : decode cX8_canTurn 119 = .ok (.istore 8, 2) := by decide +kernel
theorem dX8_canTurn_121 : decode cX8_canTurn 121 = .ok (.iload_n 2, 1) := by decide +kernel
theorem dX8_canTurn_122 : decode cX8_canTurn 122 = .ok (.ifCond .eq 19, 3) := by decide +kernel
theorem dX8_canTurn_125 : decode cX8_canTurn 125 = .ok (.iload 4, 2) := by decide +kernel
theorem dX8_canTurn_127 : decode cX8_canTurn 127 = .ok (.iconst 2, 1) := by decide +kernel
theorem dX8_canTurn_128 : decode cX8_canTurn 128 = .ok (.irem, 1) := by decide +kernel
theorem dX8_canTurn_129 : decode cX8_canTurn 129 = .ok (.ifCond .eq 8, 3) := by decide +kernel
theorem dX8_canTurn_132 : decode cX8_canTurn 132 = .ok (.iload 8, 2) := by decide +kernel
theorem dX8_canTurn_134 : decode cX8_canTurn 134 = .ok (.ifCond .ne 7, 3) := by decide +kernel
theorem dX8_canTurn_137 : decode cX8_canTurn 137 = .ok (.iconst 1, 1) := by decide +kernel
theorem dX8_canTurn_138 : decode cX8_canTurn 138 = .ok (.goto 4, 3) := by decide +kernel
theorem dX8_canTurn_141 : decode cX8_canTurn 141 = .ok (.iconst 0, 1) := by decide +kernel
theorem dX8_canTurn_142 : decode cX8_canTurn 142 = .ok (.istore_n 2, 1) := by decide +kernel
theorem dX8_canTurn_143 : decode cX8_canTurn 143 = .ok (.iload 6, 2) := by decide +kernel
theorem dX8_canTurn_145 : decode cX8_canTurn 145 = .ok (.iload 4, 2) := by decide +kernel
theorem dX8_canTurn_147 : decode cX8_canTurn 147 = .ok (.iload_n 1, 1) := by decide +kernel
theorem dX8_canTurn_148 : decode cX8_canTurn 148 = .ok (.iadd, 1) := by decide +kernel
theorem dX8_canTurn_149 : decode cX8_canTurn 149 = .ok (.invokestatic 54, 3) := by decide +kernel
theorem dX8_canTurn_152 : decode cX8_canTurn 152 = .ok (.iload 5, 2) := by decide +kernel
theorem dX8_canTurn_154 : decode cX8_canTurn 154 = .ok (.imul, 1) := by decide +kernel
theorem dX8_canTurn_155 : decode cX8_canTurn 155 = .ok (.iadd, 1) := by decide +kernel
theorem dX8_canTurn_156 : decode cX8_canTurn 156 = .ok (.istore 6, 2) := by decide +kernel
theorem dX8_canTurn_158 : decode cX8_canTurn 158 = .ok (.iload 7, 2) := by decide +kernel
theorem dX8_canTurn_160 : decode cX8_canTurn 160 = .ok (.iload 4, 2) := by decide +kernel
theorem dX8_canTurn_162 : decode cX8_canTurn 162 = .ok (.iload_n 1, 1) := by decide +kernel
theorem dX8_canTurn_163 : decode cX8_canTurn 163 = .ok (.iadd, 1) := by decide +kernel
theorem dX8_canTurn_164 : decode cX8_canTurn 164 = .ok (.invokestatic 61, 3) := by decide +kernel
theorem dX8_canTurn_167 : decode cX8_canTurn 167 = .ok (.iload 5, 2) := by decide +kernel
theorem dX8_canTurn_169 : decode cX8_canTurn 169 = .ok (.imul, 1) := by decide +kernel
theorem dX8_canTurn_170 : decode cX8_canTurn 170 = .ok (.iadd, 1) := by decide +kernel
theorem dX8_canTurn_171 : decode cX8_canTurn 171 = .ok (.istore 7, 2) := by decide +kernel
theorem dX8_canTurn_173 : decode cX8_canTurn 173 = .ok (.iload_n 2, 1) := by decide +kernel
theorem dX8_canTurn_174 : decode cX8_canTurn 174 = .ok (.ifCond .eq 17, 3) := by decide +kernel
theorem dX8_canTurn_177 : decode cX8_canTurn 177 = .ok (.iload 6, 2) := by decide +kernel
theorem dX8_canTurn_179 : decode cX8_canTurn 179 = .ok (.iload 7, 2) := by decide +kernel
theorem dX8_canTurn_181 : decode cX8_canTurn 181 = .ok (.invokestatic 143, 3) := by decide +kernel
theorem dX8_canTurn_184 : decode cX8_canTurn 184 = .ok (.ifCond .eq 7, 3) := by decide +kernel
theorem dX8_canTurn_187 : decode cX8_canTurn 187 = .ok (.iconst 1, 1) := by decide +kernel
theorem dX8_canTurn_188 : decode cX8_canTurn 188 = .ok (.goto 4, 3) := by decide +kernel
theorem dX8_canTurn_191 : decode cX8_canTurn 191 = .ok (.iconst 0, 1) := by decide +kernel
theorem dX8_canTurn_192 : decode cX8_canTurn 192 = .ok (.istore_n 2, 1) := by decide +kernel
theorem dX8_canTurn_193 : decode cX8_canTurn 193 = .ok (.aload_n 0, 1) := by decide +kernel
theorem dX8_canTurn_194 : decode cX8_canTurn 194 = .ok (.getfield 37, 3) := by decide +kernel
theorem dX8_canTurn_197 : decode cX8_canTurn 197 = .ok (.iload_n 3, 1) := by decide +kernel
theorem dX8_canTurn_198 : decode cX8_canTurn 198 = .ok (.iload 6, 2) := by decide +kernel
theorem dX8_canTurn_200 : decode cX8_canTurn 200 = .ok (.iastore, 1) := by decide +kernel
theorem dX8_canTurn_201 : decode cX8_canTurn 201 = .ok (.aload_n 0, 1) := by decide +kernel
theorem dX8_canTurn_202 : decode cX8_canTurn 202 = .ok (.getfield 40, 3) := by decide +kernel
theorem dX8_canTurn_205 : decode cX8_canTurn 205 = .ok (.iload_n 3, 1) := by decide +kernel
theorem dX8_canTurn_206 : decode cX8_canTurn 206 = .ok (.iload 7, 2) := by decide +kernel
theorem dX8_canTurn_208 : decode cX8_canTurn 208 = .ok (.iastore, 1) := by decide +kernel
theorem dX8_canTurn_209 : decode cX8_canTurn 209 = .ok (.iinc 3 1, 3) := by decide +kernel
theorem dX8_canTurn_212 : decode cX8_canTurn 212 = .ok (.goto (-204), 3) := by decide +kernel
theorem dX8_canTurn_215 : decode cX8_canTurn 215 = .ok (.iload_n 2, 1) := by decide +kernel
theorem dX8_canTurn_216 : decode cX8_canTurn 216 = .ok (.ireturn, 1) := by decide +kernel
theorem dX8_turn_0 : decode cX8_turn 0 = .ok (.aload_n 0, 1) := by decide +kernel
theorem dX8_turn_1 : decode cX8_turn 1 = .ok (.iload_n 1, 1) := by decide +kernel
theorem dX8_turn_2 : decode cX8_turn 2 = .ok (.iconst 1, 1) := by decide +kernel
theorem dX8_turn_3 : decode cX8_turn 3 = .ok (.bipush 7, 2) := by decide +kernel
theorem dX8_turn_5 : decode cX8_turn 5 = .ok (.invokestatic 50, 3) := by decide +kernel
theorem dX8_turn_8 : decode cX8_turn 8 = .ok (.ifCond .ne 7, 3) := by decide +kernel
theorem dX8_turn_11 : decode cX8_turn 11 = .ok (.iconst 1, 1) := by decide +kernel
theorem dX8_turn_12 : decode cX8_turn 12 = .ok (.goto 16, 3) := by decide +kernel
theorem dX8_turn_15 : decode cX8_turn 15 = .ok (.aload_n 0, 1) := by decide +kernel
theorem dX8_turn_16 : decode cX8_turn 16 = .ok (.iload_n 1, 1) := by decide +kernel
theorem dX8_turn_17 : decode cX8_turn 17 = .ok (.invokevirtual 166, 3) := by decide +kernel
theorem dX8_turn_20 : decode cX8_turn 20 = .ok (.ifCond .eq 7, 3) := by decide +kernel
theorem dX8_turn_23 : decode cX8_turn 23 = .ok (.iconst 0, 1) := by decide +kernel
theorem dX8_turn_24 : decode cX8_turn 24 = .ok (.goto 4, 3) := by decide +kernel
theorem dX8_turn_27 : decode cX8_turn 27 = .ok (.iconst 2, 1) := by decide +kernel
theorem dX8_turn_28 : decode cX8_turn 28 = .ok (.putfield 43, 3) := by decide +kernel
theorem dX8_turn_31 : decode cX8_turn 31 = .ok (.aload_n 0, 1) := by decide +kernel
theorem dX8_turn_32 : decode cX8_turn 32 = .ok (.getfield 43, 3) := by decide +kernel
theorem dX8_turn_35 : decode cX8_turn 35 = .ok (.ifCond .le 5, 3) := by decide +kernel
theorem dX8_turn_38 : decode cX8_turn 38 = .ok (.iconst 0, 1) := by decide +kernel
theorem dX8_turn_39 : decode cX8_turn 39 = .ok (.ireturn, 1) := by decide +kernel
theorem dX8_turn_40 : decode cX8_turn 40 = .ok (.aload_n 0, 1) := by decide +kernel
theorem dX8_turn_41 : decode cX8_turn 41 = .ok (.invokevirtual 147, 3) := by decide +kernel
theorem dX8_turn_44 : decode cX8_turn 44 = .ok (.iconst 0, 1) := by decide +kernel
theorem dX8_turn_45 : decode cX8_turn 45 = .ok (.istore_n 2, 1) := by decide +kernel
theorem dX8_turn_46 : decode cX8_turn 46 = .ok (.iload_n 2, 1) := by decide +kernel
theorem dX8_turn_47 : decode cX8_turn 47 = .ok (.aload_n 0, 1) := by decide +kernel
theorem dX8_turn_48 : decode cX8_turn 48 = .ok (.getfield 7, 3) := by decide +kernel
theorem dX8_turn_51 : decode cX8_turn 51 = .ok (.iconst 5, 1) := by decide +kernel
theorem dX8_turn_52 : decode cX8_turn 52 = .ok (.iaload, 1) := by decide +kernel
theorem dX8_turn_53 : decode cX8_turn 53 = .ok (.if_icmp .ge 45, 3) := by decide +kernel
theorem dX8_turn_56 : decode cX8_turn 56 = .ok (.aload_n 0, 1) := by decide +kernel
theorem dX8_turn_57 : decode cX8_turn 57 = .ok (.getfield 7, 3) := by decide +kernel
theorem dX8_turn_60 : decode cX8_turn 60 = .ok (.bipush 7, 2) := by decide +kernel
theorem dX8_turn_62 : decode cX8_turn 62 = .ok (.iconst 2, 1) := by decide +kernel
theorem dX8_turn_63 : decode cX8_turn 63 = .ok (.iload_n 2, 1) := by decide +kernel
theorem dX8_turn_64 : decode cX8_turn 64 = .ok (.imul, 1) := by decide +kernel
theorem dX8_turn_65 : decode cX8_turn 65 = .ok (.iadd, 1) := by decide +kernel
theorem dX8_turn_66 : decode cX8_turn 66 = .ok (.aload_n 0, 1) := by decide +kernel
theorem dX8_turn_67 : decode cX8_turn 67 = .ok (.getfield 37, 3) := by decide +kernel
theorem dX8_turn_70 : decode cX8_turn 70 = .ok (.iload_n 2, 1) := by decide +kernel
theorem dX8_turn_71 : decode cX8_turn 71 = .ok (.iaload, 1) := by decide +kernel
theorem dX8_turn_72 : decode cX8_turn 72 = .ok (.iastore, 1) := by decide +kernel
theorem dX8_turn_73 : decode cX8_turn 73 = .ok (.aload_n 0, 1) := by decide +kernel
theorem dX8_turn_74 : decode cX8_turn 74 = .ok (.getfield 7, 3) := by decide +kernel
theorem dX8_turn_77 : decode cX8_turn 77 = .ok (.bipush 7, 2) := by decide +kernel
theorem dX8_turn_79 : decode cX8_turn 79 = .ok (.iconst 2, 1) := by decide +kernel
theorem dX8_turn_80 : decode cX8_turn 80 = .ok (.iload_n 2, 1) := by decide +kernel
theorem dX8_turn_81 : decode cX8_turn 81 = .ok (.imul, 1) := by decide +kernel
theorem dX8_turn_82 : decode cX8_turn 82 = .ok (.iadd, 1) := by decide +kernel
theorem dX8_turn_83 : decode cX8_turn 83 = .ok (.iconst 1, 1) := by decide +kernel
theorem dX8_turn_84 : decode cX8_turn 84 = .ok (.iadd, 1) := by decide +kernel
theorem dX8_turn_85 : decode cX8_turn 85 = .ok (.aload_n 0, 1) := by decide +kernel
theorem dX8_turn_86 : decode cX8_turn 86 = .ok (.getfield 40, 3) := by decide +kernel
theorem dX8_turn_89 : decode cX8_turn 89 = .ok (.iload_n 2, 1) := by decide +kernel
theorem dX8_turn_90 : decode cX8_turn 90 = .ok (.iaload, 1) := by decide +kernel
theorem dX8_turn_91 : decode cX8_turn 91 = .ok (.iastore, 1) := by decide +kernel
theorem dX8_turn_92 : decode cX8_turn 92 = .ok (.iinc 2 1, 3) := by decide +kernel
theorem dX8_turn_95 : decode cX8_turn 95 = .ok (.goto (-49), 3) := by decide +kernel
theorem dX8_turn_98 : decode cX8_turn 98 = .ok (.aload_n 0, 1) := by decide +kernel
theorem dX8_turn_99 : decode cX8_turn 99 = .ok (.getfield 7, 3) := by decide +kernel
theorem dX8_turn_102 : decode cX8_turn 102 = .ok (.iconst 5, 1) := by decide +kernel
theorem dX8_turn_103 : decode cX8_turn 103 = .ok (.iaload, 1) := by decide +kernel
theorem dX8_turn_104 : decode cX8_turn 104 = .ok (.ireturn, 1) := by decide +kernel
theorem dX8_canLearn_0 : decode cX8_canLearn 0 = .ok (.aload_n 0, 1) := by decide +kernel
theorem dX8_canLearn_1 : decode cX8_canLearn 1 = .ok (.getfield 7, 3) := by decide +kernel
theorem dX8_canLearn_4 : decode cX8_canLearn 4 = .ok (.bipush 6, 2) := by decide +kernel
theorem dX8_canLearn_6 : decode cX8_canLearn 6 = .ok (.iaload, 1) := by decide +kernel
theorem dX8_canLearn_7 : decode cX8_canLearn 7 = .ok (.bipush 10, 2) := by decide +kernel
theorem dX8_canLearn_9 : decode cX8_canLearn 9 = .ok (.if_icmp .ge 28, 3) := by decide +kernel
theorem dX8_canLearn_12 : decode cX8_canLearn 12 = .ok (.aload_n 0, 1) := by decide +kernel
theorem dX8_canLearn_13 : decode cX8_canLearn 13 = .ok (.getfield 107, 3) := by decide +kernel
theorem dX8_canLearn_16 : decode cX8_canLearn 16 = .ok (.iconst 1, 1) := by decide +kernel
theorem dX8_canLearn_17 : decode cX8_canLearn 17 = .ok (.bipush 8, 2) := by decide +kernel
theorem dX8_canLearn_19 : decode cX8_canLearn 19 = .ok (.invokestatic 50, 3) := by decide +kernel
theorem dX8_canLearn_22 : decode cX8_canLearn 22 = .ok (.ifCond .eq 15, 3) := by decide +kernel
theorem dX8_canLearn_25 : decode cX8_canLearn 25 = .ok (.aload_n 0, 1) := by decide +kernel
theorem dX8_canLearn_26 : decode cX8_canLearn 26 = .ok (.invokevirtual 169, 3) := by decide +kernel
theorem dX8_canLearn_29 : decode cX8_canLearn 29 = .ok (.iconst (-1), 1) := by decide +kernel
theorem dX8_canLearn_30 : decode cX8_canLearn 30 = .ok (.if_icmp .ne 7, 3) := by decide +kernel
theorem dX8_canLearn_33 : decode cX8_canLearn 33 = .ok (.iconst 1, 1) := by decide +kernel
theorem dX8_canLearn_34 : decode cX8_canLearn 34 = .ok (.goto 4, 3) := by decide +kernel
theorem dX8_canLearn_37 : decode cX8_canLearn 37 = .ok (.iconst 0, 1) := by decide +kernel
theorem dX8_canLearn_38 : decode cX8_canLearn 38 = .ok (.ireturn, 1) := by decide +kernel
theorem dX8_learns_0 : decode cX8_learns 0 = .ok (.bipush 87, 2) := by decide +kernel
theorem dX8_learns_2 : decode cX8_learns 2 = .ok (.bipush 9, 2) := by decide +kernel
theorem dX8_learns_4 : decode cX8_learns 4 = .ok (.aload_n 0, 1) := by decide +kernel
theorem dX8_learns_5 : decode cX8_learns 5 = .ok (.getfield 7, 3) := by decide +kernel
theorem dX8_learns_8 : decode cX8_learns 8 = .ok (.bipush 6, 2) := by decide +kernel
theorem dX8_learns_10 : decode cX8_learns 10 = .ok (.iaload, 1) := by decide +kernel
theorem dX8_learns_11 : decode cX8_learns 11 = .ok (.imul, 1) := by decide +kernel
theorem dX8_learns_12 : decode cX8_learns 12 = .ok (.iadd, 1) := by decide +kernel
theorem dX8_learns_13 : decode cX8_learns 13 = .ok (.istore_n 1, 1) := by decide +kernel
theorem dX8_learns_14 : decode cX8_learns 14 = .ok (.aload_n 0, 1) := by decide +kernel
theorem dX8_learns_15 : decode cX8_learns 15 = .ok (.getfield 7, 3) := by decide +kernel
theorem dX8_learns_18 : decode cX8_learns 18 = .ok (.iload_n 1, 1) := by decide +kernel
theorem dX8_learns_19 : decode cX8_learns 19 = .ok (.aload_n 0, 1) := by decide +kernel
theorem dX8_learns_20 : decode cX8_learns 20 = .ok (.getfield 107, 3) := by decide +kernel
theorem dX8_learns_23 : decode cX8_learns 23 = .ok (.iastore, 1) := by decide +kernel
theorem dX8_learns_24 : decode cX8_learns 24 = .ok (.iconst 0, 1) := by decide +kernel
theorem dX8_learns_25 : decode cX8_learns 25 = .ok (.istore_n 2, 1) := by decide +kernel
theorem dX8_learns_26 : decode cX8_learns 26 = .ok (.iload_n 2, 1) := by decide +kernel
theorem dX8_learns_27 : decode cX8_learns 27 = .ok (.aload_n 0, 1) := by decide +kernel
theorem dX8_learns_28 : decode cX8_learns 28 = .ok (.getfield 107, 3) := by decide +kernel
theorem dX8_learns_31 : decode cX8_learns 31 = .ok (.if_icmp .ge 25, 3) := by decide +kernel
theorem dX8_learns_34 : decode cX8_learns 34 = .ok (.aload_n 0, 1) := by decide +kernel
theorem dX8_learns_35 : decode cX8_learns 35 = .ok (.getfield 7, 3) := by decide +kernel
theorem dX8_learns_38 : decode cX8_learns 38 = .ok (.iload_n 1, 1) := by decide +kernel
theorem dX8_learns_39 : decode cX8_learns 39 = .ok (.iconst 1, 1) := by decide +kernel
theorem dX8_learns_40 : decode cX8_learns 40 = .ok (.iadd, 1) := by decide +kernel
theorem dX8_learns_41 : decode cX8_learns 41 = .ok (.iload_n 2, 1) := by decide +kernel
theorem dX8_learns_42 : decode cX8_learns 42 = .ok (.iadd, 1) := by decide +kernel
theorem dX8_learns_43 : decode cX8_learns 43 = .ok (.aload_n 0, 1) := by decide +kernel
theorem dX8_learns_44 : decode cX8_learns 44 = .ok (.getfield 31, 3) := by decide +kernel
theorem dX8_learns_47 : decode cX8_learns 47 = .ok (.iload_n 2, 1) := by decide +kernel
theorem dX8_learns_48 : decode cX8_learns 48 = .ok (.iaload, 1) := by decide +kernel
theorem dX8_learns_49 : decode cX8_learns 49 = .ok (.iastore, 1) := by decide +kernel
theorem dX8_learns_50 : decode cX8_learns 50 = .ok (.iinc 2 1, 3) := by decide +kernel
theorem dX8_learns_53 : decode cX8_learns 53 = .ok (.goto (-27), 3) := by decide +kernel
theorem dX8_learns_56 : decode cX8_learns 56 = .ok (.aload_n 0, 1) := by decide +kernel
theorem dX8_learns_57 : decode cX8_learns 57 = .ok (.getfield 7, 3) := by decide +kernel
theorem dX8_learns_60 : decode cX8_learns 60 = .ok (.bipush 6, 2) := by decide +kernel
theorem dX8_learns_62 : decode cX8_learns 62 = .ok (.dup2, 1) := by decide +kernel
theorem dX8_learns_63 : decode cX8_learns 63 = .ok (.iaload, 1) := by decide +kernel
theorem dX8_learns_64 : decode cX8_learns 64 = .ok (.iconst 1, 1) := by decide +kernel
theorem dX8_learns_65 : decode cX8_learns 65 = .ok (.iadd, 1) := by decide +kernel
theorem dX8_learns_66 : decode cX8_learns 66 = .ok (.iastore, 1) := by decide +kernel
theorem dX8_learns_67 : decode cX8_learns 67 = .ok (.aload_n 0, 1) := by decide +kernel
theorem dX8_learns_68 : decode cX8_learns 68 = .ok (.getfield 7, 3) := by decide +kernel
theorem dX8_learns_71 : decode cX8_learns 71 = .ok (.bipush 6, 2) := by decide +kernel
theorem dX8_learns_73 : decode cX8_learns 73 = .ok (.iaload, 1) := by decide +kernel
theorem dX8_learns_74 : decode cX8_learns 74 = .ok (.iconst 1, 1) := by decide +kernel
theorem dX8_learns_75 : decode cX8_learns 75 = .ok (.isub, 1) := by decide +kernel
theorem dX8_learns_76 : decode cX8_learns 76 = .ok (.ireturn, 1) := by decide +kernel
theorem dX8_learn_0 : decode cX8_learn 0 = .ok (.aload_n 0, 1) := by decide +kernel
theorem dX8_learn_1 : decode cX8_learn 1 = .ok (.invokevirtual 172, 3) := by decide +kernel
theorem dX8_learn_4 : decode cX8_learn 4 = .ok (.aload_n 0, 1) := by decide +kernel
theorem dX8_learn_5 : decode cX8_learn 5 = .ok (.aload_n 0, 1) := by decide +kernel
theorem dX8_learn_6 : decode cX8_learn 6 = .ok (.invokevirtual 175, 3) := by decide +kernel
theorem dX8_learn_9 : decode cX8_learn 9 = .ok (.ifCond .eq 7, 3) := by decide +kernel
theorem dX8_learn_12 : decode cX8_learn 12 = .ok (.iconst 0, 1) := by decide +kernel
theorem dX8_learn_13 : decode cX8_learn 13 = .ok (.goto 4, 3) := by decide +kernel
theorem dX8_learn_16 : decode cX8_learn 16 = .ok (.iconst 1, 1) := by decide +kernel
theorem dX8_learn_17 : decode cX8_learn 17 = .ok (.putfield 43, 3) := by decide +kernel
theorem dX8_learn_20 : decode cX8_learn 20 = .ok (.aload_n 0, 1) := by decide +kernel
theorem dX8_learn_21 : decode cX8_learn 21 = .ok (.getfield 43, 3) := by decide +kernel
theorem dX8_learn_24 : decode cX8_learn 24 = .ok (.ifCond .le 5, 3) := by decide +kernel
theorem dX8_learn_27 : decode cX8_learn 27 = .ok (.iconst 0, 1) := by decide +kernel
theorem dX8_learn_28 : decode cX8_learn 28 = .ok (.ireturn, 1) := by decide +kernel
theorem dX8_learn_29 : decode cX8_learn 29 = .ok (.aload_n 0, 1) := by decide +kernel
theorem dX8_learn_30 : decode cX8_learn 30 = .ok (.invokevirtual 147, 3) := by decide +kernel
theorem dX8_learn_33 : decode cX8_learn 33 = .ok (.aload_n 0, 1) := by decide +kernel
theorem dX8_learn_34 : decode cX8_learn 34 = .ok (.invokevirtual 179, 3) := by decide +kernel
theorem dX8_learn_37 : decode cX8_learn 37 = .ok (.ireturn, 1) := by decide +kernel
theorem dX8_forget_0 : decode cX8_forget 0 = .ok (.aload_n 0, 1) := by decide +kernel
theorem dX8_forget_1 : decode cX8_forget 1 = .ok (.aload_n 0, 1) := by decide +kernel
theorem dX8_forget_2 : decode cX8_forget 2 = .ok (.iload_n 1, 1) := by decide +kernel
theorem dX8_forget_3 : decode cX8_forget 3 = .ok (.invokevirtual 182, 3) := by decide +kernel
theorem dX8_forget_6 : decode cX8_forget 6 = .ok (.ifCond .eq 7, 3) := by decide +kernel
theorem dX8_forget_9 : decode cX8_forget 9 = .ok (.iconst 0, 1) := by decide +kernel
theorem dX8_forget_10 : decode cX8_forget 10 = .ok (.goto 4, 3) := by decide +kernel
theorem dX8_forget_13 : decode cX8_forget 13 = .ok (.iconst 1, 1) := by decide +kernel
theorem dX8_forget_14 : decode cX8_forget 14 = .ok (.putfield 43, 3) := by decide +kernel
theorem dX8_forget_17 : decode cX8_forget 17 = .ok (.aload_n 0, 1) := by decide +kernel
theorem dX8_forget_18 : decode cX8_forget 18 = .ok (.getfield 43, 3) := by decide +kernel
theorem dX8_forget_21 : decode cX8_forget 21 = .ok (.ifCond .le 5, 3) := by decide +kernel
theorem dX8_forget_24 : decode cX8_forget 24 = .ok (.iconst 0, 1) := by decide +kernel
theorem dX8_forget_25 : decode cX8_forget 25 = .ok (.ireturn, 1) := by decide +kernel
theorem dX8_forget_26 : decode cX8_forget 26 = .ok (.aload_n 0, 1) := by decide +kernel
theorem dX8_forget_27 : decode cX8_forget 27 = .ok (.invokevirtual 147, 3) := by decide +kernel
theorem dX8_forget_30 : decode cX8_forget 30 = .ok (.aload_n 0, 1) := by decide +kernel
theorem dX8_forget_31 : decode cX8_forget 31 = .ok (.getfield 7, 3) := by decide +kernel
theorem dX8_forget_34 : decode cX8_forget 34 = .ok (.bipush 6, 2) := by decide +kernel
theorem dX8_forget_36 : decode cX8_forget 36 = .ok (.dup2, 1) := by decide +kernel
theorem dX8_forget_37 : decode cX8_forget 37 = .ok (.iaload, 1) := by decide +kernel
theorem dX8_forget_38 : decode cX8_forget 38 = .ok (.iconst 1, 1) := by decide +kernel
theorem dX8_forget_39 : decode cX8_forget 39 = .ok (.isub, 1) := by decide +kernel
theorem dX8_forget_40 : decode cX8_forget 40 = .ok (.iastore, 1) := by decide +kernel
theorem dX8_forget_41 : decode cX8_forget 41 = .ok (.bipush 87, 2) := by decide +kernel
theorem dX8_forget_43 : decode cX8_forget 43 = .ok (.bipush 9, 2) := by decide +kernel
