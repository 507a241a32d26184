theorem dX8_forget_45 : decode cX8_forget 45 = .ok (.iload_n 1, 1) := by decide +kernel
theorem dX8_forget_46 : decode cX8_forget 46 = .ok (.imul, 1) := by decide +kernel
theorem dX8_forget_47 : decode cX8_forget 47 = .ok (.iadd, 1) := by decide +kernel
theorem dX8_forget_48 : decode cX8_forget 48 = .ok (.istore_n 2, 1) := by decide +kernel
theorem dX8_forget_49 : decode cX8_forget 49 = .ok (.iload_n 2, 1) := by decide +kernel
theorem dX8_forget_50 : decode cX8_forget 50 = .ok (.bipush 87, 2) := by decide +kernel
theorem dX8_forget_52 : decode cX8_forget 52 = .ok (.bipush 9, 2) := by decide +kernel
theorem dX8_forget_54 : decode cX8_forget 54 = .ok (.aload_n 0, 1) := by decide +kernel
theorem dX8_forget_55 : decode cX8_forget 55 = .ok (.getfield 7, 3) := by decide +kernel
theorem dX8_forget_58 : decode cX8_forget 58 = .ok (.bipush 6, 2) := by decide +kernel
theorem dX8_forget_60 : decode cX8_forget 60 = .ok (.iaload, 1) := by decide +kernel
theorem dX8_forget_61 : decode cX8_forget 61 = .ok (.imul, 1) := by decide +kernel
theorem dX8_forget_62 : decode cX8_forget 62 = .ok (.iadd, 1) := by decide +kernel
theorem dX8_forget_63 : decode cX8_forget 63 = .ok (.if_icmp .ge 24, 3) := by decide +kernel
theorem dX8_forget_66 : decode cX8_forget 66 = .ok (.aload_n 0, 1) := by decide +kernel
theorem dX8_forget_67 : decode cX8_forget 67 = .ok (.getfield 7, 3) := by decide +kernel
theorem dX8_forget_70 : decode cX8_forget 70 = .ok (.iload_n 2, 1) := by decide +kernel
theorem dX8_forget_71 : decode cX8_forget 71 = .ok (.aload_n 0, 1) := by decide +kernel
theorem dX8_forget_72 : decode cX8_forget 72 = .ok (.getfield 7, 3) := by decide +kernel
theorem dX8_forget_75 : decode cX8_forget 75 = .ok (.iload_n 2, 1) := by decide +kernel
theorem dX8_forget_76 : decode cX8_forget 76 = .ok (.bipush 9, 2) := by decide +kernel
theorem dX8_forget_78 : decode cX8_forget 78 = .ok (.iadd, 1) := by decide +kernel
theorem dX8_forget_79 : decode cX8_forget 79 = .ok (.iaload, 1) := by decide +kernel
theorem dX8_forget_80 : decode cX8_forget 80 = .ok (.iastore, 1) := by decide +kernel
theorem dX8_forget_81 : decode cX8_forget 81 = .ok (.iinc 2 1, 3) := by decide +kernel
theorem dX8_forget_84 : decode cX8_forget 84 = .ok (.goto (-35), 3) := by decide +kernel
theorem dX8_forget_87 : decode cX8_forget 87 = .ok (.aload_n 0, 1) := by decide +kernel
theorem dX8_forget_88 : decode cX8_forget 88 = .ok (.getfield 7, 3) := by decide +kernel
theorem dX8_forget_91 : decode cX8_forget 91 = .ok (.bipush 6, 2) := by decide +kernel
theorem dX8_forget_93 : decode cX8_forget 93 = .ok (.iaload, 1) := by decide +kernel
theorem dX8_forget_94 : decode cX8_forget 94 = .ok (.ireturn, 1) := by decide +kernel
theorem dX8_isSetting_0 : decode cX8_isSetting 0 = .ok (.iload_n 0, 1) := by decide +kernel
theorem dX8_isSetting_1 : decode cX8_isSetting 1 = .ok (.iconst 0, 1) := by decide +kernel
theorem dX8_isSetting_2 : decode cX8_isSetting 2 = .ok (.iconst 4, 1) := by decide +kernel
theorem dX8_isSetting_3 : decode cX8_isSetting 3 = .ok (.invokestatic 50, 3) := by decide +kernel
theorem dX8_isSetting_6 : decode cX8_isSetting 6 = .ok (.ireturn, 1) := by decide +kernel
theorem dX8_isValue_0 : decode cX8_isValue 0 = .ok (.iload_n 0, 1) := by decide +kernel
theorem dX8_isValue_1 : decode cX8_isValue 1 = .ok (.iconst 4, 1) := by decide +kernel
theorem dX8_isValue_2 : decode cX8_isValue 2 = .ok (.if_icmp .ne 13, 3) := by decide +kernel
theorem dX8_isValue_5 : decode cX8_isValue 5 = .ok (.iload_n 1, 1) := by decide +kernel
theorem dX8_isValue_6 : decode cX8_isValue 6 = .ok (.iconst 0, 1) := by decide +kernel
theorem dX8_isValue_7 : decode cX8_isValue 7 = .ok (.bipush 20, 2) := by decide +kernel
theorem dX8_isValue_9 : decode cX8_isValue 9 = .ok (.invokestatic 50, 3) := by decide +kernel
theorem dX8_isValue_12 : decode cX8_isValue 12 = .ok (.goto 19, 3) := by decide +kernel
theorem dX8_isValue_15 : decode cX8_isValue 15 = .ok (.iload_n 1, 1) := by decide +kernel
theorem dX8_isValue_16 : decode cX8_isValue 16 = .ok (.iload_n 0, 1) := by decide +kernel
theorem dX8_isValue_17 : decode cX8_isValue 17 = .ok (.iconst 1, 1) := by decide +kernel
theorem dX8_isValue_18 : decode cX8_isValue 18 = .ok (.if_icmp .ne 7, 3) := by decide +kernel
theorem dX8_isValue_21 : decode cX8_isValue 21 = .ok (.iconst 0, 1) := by decide +kernel
theorem dX8_isValue_22 : decode cX8_isValue 22 = .ok (.goto 4, 3) := by decide +kernel
theorem dX8_isValue_25 : decode cX8_isValue 25 = .ok (.iconst 1, 1) := by decide +kernel
theorem dX8_isValue_26 : decode cX8_isValue 26 = .ok (.bipush 9, 2) := by decide +kernel
theorem dX8_isValue_28 : decode cX8_isValue 28 = .ok (.invokestatic 50, 3) := by decide +kernel
theorem dX8_isValue_31 : decode cX8_isValue 31 = .ok (.ireturn, 1) := by decide +kernel
theorem dX8_areApart_0 : decode cX8_areApart 0 = .ok (.aload_n 0, 1) := by decide +kernel
theorem dX8_areApart_1 : decode cX8_areApart 1 = .ok (.invokevirtual 185, 3) := by decide +kernel
theorem dX8_areApart_4 : decode cX8_areApart 4 = .ok (.istore_n 1, 1) := by decide +kernel
theorem dX8_areApart_5 : decode cX8_areApart 5 = .ok (.iload_n 1, 1) := by decide +kernel
theorem dX8_areApart_6 : decode cX8_areApart 6 = .ok (.iconst (-1), 1) := by decide +kernel
theorem dX8_areApart_7 : decode cX8_areApart 7 = .ok (.if_icmp .eq 15, 3) := by decide +kernel
theorem dX8_areApart_10 : decode cX8_areApart 10 = .ok (.iload_n 1, 1) := by decide +kernel
theorem dX8_areApart_11 : decode cX8_areApart 11 = .ok (.iconst 2, 1) := by decide +kernel
theorem dX8_areApart_12 : decode cX8_areApart 12 = .ok (.aload_n 0, 1) := by decide +kernel
theorem dX8_areApart_13 : decode cX8_areApart 13 = .ok (.getfield 7, 3) := by decide +kernel
theorem dX8_areApart_16 : decode cX8_areApart 16 = .ok (.iconst 4, 1) := by decide +kernel
theorem dX8_areApart_17 : decode cX8_areApart 17 = .ok (.iaload, 1) := by decide +kernel
theorem dX8_areApart_18 : decode cX8_areApart 18 = .ok (.imul, 1) := by decide +kernel
theorem dX8_areApart_19 : decode cX8_areApart 19 = .ok (.if_icmp .le 7, 3) := by decide +kernel
theorem dX8_areApart_22 : decode cX8_areApart 22 = .ok (.iconst 1, 1) := by decide +kernel
theorem dX8_areApart_23 : decode cX8_areApart 23 = .ok (.goto 4, 3) := by decide +kernel
theorem dX8_areApart_26 : decode cX8_areApart 26 = .ok (.iconst 0, 1) := by decide +kernel
theorem dX8_areApart_27 : decode cX8_areApart 27 = .ok (.ireturn, 1) := by decide +kernel
theorem dX8_set_0 : decode cX8_set 0 = .ok (.aload_n 0, 1) := by decide +kernel
theorem dX8_set_1 : decode cX8_set 1 = .ok (.iload_n 1, 1) := by decide +kernel
theorem dX8_set_2 : decode cX8_set 2 = .ok (.invokestatic 188, 3) := by decide +kernel
theorem dX8_set_5 : decode cX8_set 5 = .ok (.ifCond .ne 7, 3) := by decide +kernel
theorem dX8_set_8 : decode cX8_set 8 = .ok (.iconst 1, 1) := by decide +kernel
theorem dX8_set_9 : decode cX8_set 9 = .ok (.goto 16, 3) := by decide +kernel
theorem dX8_set_12 : decode cX8_set 12 = .ok (.iload_n 1, 1) := by decide +kernel
theorem dX8_set_13 : decode cX8_set 13 = .ok (.iload_n 2, 1) := by decide +kernel
theorem dX8_set_14 : decode cX8_set 14 = .ok (.invokestatic 191, 3) := by decide +kernel
theorem dX8_set_17 : decode cX8_set 17 = .ok (.ifCond .eq 7, 3) := by decide +kernel
theorem dX8_set_20 : decode cX8_set 20 = .ok (.iconst 0, 1) := by decide +kernel
theorem dX8_set_21 : decode cX8_set 21 = .ok (.goto 4, 3) := by decide +kernel
theorem dX8_set_24 : decode cX8_set 24 = .ok (.iconst 2, 1) := by decide +kernel
theorem dX8_set_25 : decode cX8_set 25 = .ok (.putfield 43, 3) := by decide +kernel
theorem dX8_set_28 : decode cX8_set 28 = .ok (.aload_n 0, 1) := by decide +kernel
theorem dX8_set_29 : decode cX8_set 29 = .ok (.getfield 43, 3) := by decide +kernel
theorem dX8_set_32 : decode cX8_set 32 = .ok (.ifCond .le 5, 3) := by decide +kernel
theorem dX8_set_35 : decode cX8_set 35 = .ok (.iconst 0, 1) := by decide +kernel
theorem dX8_set_36 : decode cX8_set 36 = .ok (.ireturn, 1) := by decide +kernel
theorem dX8_set_37 : decode cX8_set 37 = .ok (.aload_n 0, 1) := by decide +kernel
theorem dX8_set_38 : decode cX8_set 38 = .ok (.getfield 7, 3) := by decide +kernel
theorem dX8_set_41 : decode cX8_set 41 = .ok (.iload_n 1, 1) := by decide +kernel
theorem dX8_set_42 : decode cX8_set 42 = .ok (.iaload, 1) := by decide +kernel
theorem dX8_set_43 : decode cX8_set 43 = .ok (.istore_n 3, 1) := by decide +kernel
theorem dX8_set_44 : decode cX8_set 44 = .ok (.aload_n 0, 1) := by decide +kernel
theorem dX8_set_45 : decode cX8_set 45 = .ok (.getfield 7, 3) := by decide +kernel
theorem dX8_set_48 : decode cX8_set 48 = .ok (.iload_n 1, 1) := by decide +kernel
theorem dX8_set_49 : decode cX8_set 49 = .ok (.iload_n 2, 1) := by decide +kernel
theorem dX8_set_50 : decode cX8_set 50 = .ok (.iastore, 1) := by decide +kernel
theorem dX8_set_51 : decode cX8_set 51 = .ok (.aload_n 0, 1) := by decide +kernel
theorem dX8_set_52 : decode cX8_set 52 = .ok (.invokevirtual 194, 3) := by decide +kernel
theorem dX8_set_55 : decode cX8_set 55 = .ok (.istore 4, 2) := by decide +kernel
theorem dX8_set_57 : decode cX8_set 57 = .ok (.aload_n 0, 1) := by decide +kernel
theorem dX8_set_58 : decode cX8_set 58 = .ok (.getfield 7, 3) := by decide +kernel
theorem dX8_set_61 : decode cX8_set 61 = .ok (.iload_n 1, 1) := by decide +kernel
theorem dX8_set_62 : decode cX8_set 62 = .ok (.iload_n 3, 1) := by decide +kernel
theorem dX8_set_63 : decode cX8_set 63 = .ok (.iastore, 1) := by decide +kernel
theorem dX8_set_64 : decode cX8_set 64 = .ok (.aload_n 0, 1) := by decide +kernel
theorem dX8_set_65 : decode cX8_set 65 = .ok (.iload 4, 2) := by decide +kernel
theorem dX8_set_67 : decode cX8_set 67 = .ok (.ifCond .eq 7, 3) := by decide +kernel
theorem dX8_set_70 : decode cX8_set 70 = .ok (.iconst 0, 1) := by decide +kernel
theorem dX8_set_71 : decode cX8_set 71 = .ok (.goto 4, 3) := by decide +kernel
theorem dX8_set_74 : decode cX8_set 74 = .ok (.iconst 3, 1) := by decide +kernel
theorem dX8_set_75 : decode cX8_set 75 = .ok (.putfield 43, 3) := by decide +kernel
theorem dX8_set_78 : decode cX8_set 78 = .ok (.aload_n 0, 1) := by decide +kernel
theorem dX8_set_79 : decode cX8_set 79 = .ok (.getfield 43, 3) := by decide +kernel
theorem dX8_set_82 : decode cX8_set 82 = .ok (.ifCond .le 5, 3) := by decide +kernel
theorem dX8_set_85 : decode cX8_set 85 = .ok (.iconst 0, 1) := by decide +kernel
theorem dX8_set_86 : decode cX8_set 86 = .ok (.ireturn, 1) := by decide +kernel
theorem dX8_set_87 : decode cX8_set 87 = .ok (.aload_n 0, 1) := by decide +kernel
theorem dX8_set_88 : decode cX8_set 88 = .ok (.invokevirtual 147, 3) := by decide +kernel
theorem dX8_set_91 : decode cX8_set 91 = .ok (.aload_n 0, 1) := by decide +kernel
theorem dX8_set_92 : decode cX8_set 92 = .ok (.getfield 7, 3) := by decide +kernel
theorem dX8_set_95 : decode cX8_set 95 = .ok (.iload_n 1, 1) := by decide +kernel
theorem dX8_set_96 : decode cX8_set 96 = .ok (.iload_n 2, 1) := by decide +kernel
theorem dX8_set_97 : decode cX8_set 97 = .ok (.iastore, 1) := by decide +kernel
theorem dX8_set_98 : decode cX8_set 98 = .ok (.iload_n 3, 1) := by decide +kernel
theorem dX8_set_99 : decode cX8_set 99 = .ok (.ireturn, 1) := by decide +kernel
theorem dX8_append_0 : decode cX8_append 0 = .ok (.aload_n 0, 1) := by decide +kernel
theorem dX8_append_1 : decode cX8_append 1 = .ok (.iload_n 1, 1) := by decide +kernel
theorem dX8_append_2 : decode cX8_append 2 = .ok (.bipush 33, 2) := by decide +kernel
theorem dX8_append_4 : decode cX8_append 4 = .ok (.bipush 126, 2) := by decide +kernel
theorem dX8_append_6 : decode cX8_append 6 = .ok (.invokestatic 50, 3) := by decide +kernel
theorem dX8_append_9 : decode cX8_append 9 = .ok (.ifCond .ne 7, 3) := by decide +kernel
theorem dX8_append_12 : decode cX8_append 12 = .ok (.iconst 1, 1) := by decide +kernel
theorem dX8_append_13 : decode cX8_append 13 = .ok (.goto 17, 3) := by decide +kernel
theorem dX8_append_16 : decode cX8_append 16 = .ok (.aload_n 0, 1) := by decide +kernel
theorem dX8_append_17 : decode cX8_append 17 = .ok (.getfield 197, 3) := by decide +kernel
theorem dX8_append_20 : decode cX8_append 20 = .ok (.bipush 60, 2) := by decide +kernel
theorem dX8_append_22 : decode cX8_append 22 = .ok (.if_icmp .ne 7, 3) := by decide +kernel
theorem dX8_append_25 : decode cX8_append 25 = .ok (.iconst 2, 1) := by decide +kernel
theorem dX8_append_26 : decode cX8_append 26 = .ok (.goto 4, 3) := by decide +kernel
theorem dX8_append_29 : decode cX8_append 29 = .ok (.iconst 0, 1) := by decide +kernel
theorem dX8_append_30 : decode cX8_append 30 = .ok (.putfield 43, 3) := by decide +kernel
theorem dX8_append_33 : decode cX8_append 33 = .ok (.aload_n 0, 1) := by decide +kernel
theorem dX8_append_34 : decode cX8_append 34 = .ok (.getfield 43, 3) := by decide +kernel
theorem dX8_append_37 : decode cX8_append 37 = .ok (.ifCond .le 5, 3) := by decide +kernel
theorem dX8_append_40 : decode cX8_append 40 = .ok (.iconst 0, 1) := by decide +kernel
theorem dX8_append_41 : decode cX8_append 41 = .ok (.ireturn, 1) := by decide +kernel
theorem dX8_append_42 : decode cX8_append 42 = .ok (.aload_n 0, 1) := by decide +kernel
theorem dX8_append_43 : decode cX8_append 43 = .ok (.getfield 16, 3) := by decide +kernel
theorem dX8_append_46 : decode cX8_append 46 = .ok (.aload_n 0, 1) := by decide +kernel
theorem dX8_append_47 : decode cX8_append 47 = .ok (.getfield 197, 3) := by decide +kernel
theorem dX8_append_50 : decode cX8_append 50 = .ok (.iload_n 1, 1) := by decide +kernel
theorem dX8_append_51 : decode cX8_append 51 = .ok (.iastore, 1) := by decide +kernel
theorem dX8_append_52 : decode cX8_append 52 = .ok (.aload_n 0, 1) := by decide +kernel
theorem dX8_append_53 : decode cX8_append 53 = .ok (.dup, 1) := by decide +kernel
theorem dX8_append_54 : decode cX8_append 54 = .ok (.getfield 197, 3) := by decide +kernel
theorem dX8_append_57 : decode cX8_append 57 = .ok (.iconst 1, 1) := by decide +kernel
theorem dX8_append_58 : decode cX8_append 58 = .ok (.iadd, 1) := by decide +kernel
theorem dX8_append_59 : decode cX8_append 59 = .ok (.putfield 197, 3) := by decide +kernel
theorem dX8_append_62 : decode cX8_append 62 = .ok (.aload_n 0, 1) := by decide +kernel
theorem dX8_append_63 : decode cX8_append 63 = .ok (.getfield 197, 3) := by decide +kernel
theorem dX8_append_66 : decode cX8_append 66 = .ok (.ireturn, 1) := by decide +kernel
theorem dX8_clearBuffer_0 : decode cX8_clearBuffer 0 = .ok (.aload_n 0, 1) := by decide +kernel
theorem dX8_clearBuffer_1 : decode cX8_clearBuffer 1 = .ok (.iconst 0, 1) := by decide +kernel
theorem dX8_clearBuffer_2 : decode cX8_clearBuffer 2 = .ok (.putfield 43, 3) := by decide +kernel
theorem dX8_clearBuffer_5 : decode cX8_clearBuffer 5 = .ok (.aload_n 0, 1) := by decide +kernel
theorem dX8_clearBuffer_6 : decode cX8_clearBuffer 6 = .ok (.getfield 197, 3) := by decide +kernel
theorem dX8_clearBuffer_9 : decode cX8_clearBuffer 9 = .ok (.istore_n 1, 1) := by decide +kernel
theorem dX8_clearBuffer_10 : decode cX8_clearBuffer 10 = .ok (.aload_n 0, 1) := by decide +kernel
theorem dX8_clearBuffer_11 : decode cX8_clearBuffer 11 = .ok (.iconst 0, 1) := by decide +kernel
theorem dX8_clearBuffer_12 : decode cX8_clearBuffer 12 = .ok (.putfield 197, 3) := by decide +kernel
theorem dX8_clearBuffer_15 : decode cX8_clearBuffer 15 = .ok (.iload_n 1, 1) := by decide +kernel
theorem dX8_clearBuffer_16 : decode cX8_clearBuffer 16 = .ok (.ireturn, 1) := by decide +kernel
theorem dX8_rightUpTo_0 : decode cX8_rightUpTo 0 = .ok (.iconst 0, 1) := by decide +kernel
theorem dX8_rightUpTo_1 : decode cX8_rightUpTo 1 = .ok (.istore_n 1, 1) := by decide +kernel
theorem dX8_rightUpTo_2 : decode cX8_rightUpTo 2 = .ok (.iload_n 1, 1) := by decide +kernel
theorem dX8_rightUpTo_3 : decode cX8_rightUpTo 3 = .ok (.aload_n 0, 1) := by decide +kernel
theorem dX8_rightUpTo_4 : decode cX8_rightUpTo 4 = .ok (.getfield 197, 3) := by decide +kernel
theorem dX8_rightUpTo_7 : decode cX8_rightUpTo 7 = .ok (.if_icmp .ge 51, 3) := by decide +kernel
theorem dX8_rightUpTo_10 : decode cX8_rightUpTo 10 = .ok (.iload_n 1, 1) := by decide +kernel
theorem dX8_rightUpTo_11 : decode cX8_rightUpTo 11 = .ok (.bipush 8, 2) := by decide +kernel
theorem dX8_rightUpTo_13 : decode cX8_rightUpTo 13 = .ok (.if_icmp .ge 45, 3) := by decide +kernel
theorem dX8_rightUpTo_16 : decode cX8_rightUpTo 16 = .ok (.aload_n 0, 1) := by decide +kernel
theorem dX8_rightUpTo_17 : decode cX8_rightUpTo 17 = .ok (.getfield 16, 3) := by decide +kernel
theorem dX8_rightUpTo_20 : decode cX8_rightUpTo 20 = .ok (.iload_n 1, 1) := by decide +kernel
theorem dX8_rightUpTo_21 : decode cX8_rightUpTo 21 = .ok (.iaload, 1) := by decide +kernel
theorem dX8_rightUpTo_22 : decode cX8_rightUpTo 22 = .ok (.bipush 48, 2) := by decide +kernel
theorem dX8_rightUpTo_24 : decode cX8_rightUpTo 24 = .ok (.isub, 1) := by decide +kernel
theorem dX8_rightUpTo_25 : decode cX8_rightUpTo 25 = .ok (.invokestatic 157, 3) := by decide +kernel
theorem dX8_rightUpTo_28 : decode cX8_rightUpTo 28 = .ok (.ifCond .eq 30, 3) := by decide +kernel
theorem dX8_rightUpTo_31 : decode cX8_rightUpTo 31 = .ok (.iload_n 1, 1) := by decide +kernel
theorem dX8_rightUpTo_32 : decode cX8_rightUpTo 32 = .ok (.ifCond .eq 20, 3) := by decide +kernel
theorem dX8_rightUpTo_35 : decode cX8_rightUpTo 35 = .ok (.aload_n 0, 1) := by decide +kernel
theorem dX8_rightUpTo_36 : decode cX8_rightUpTo 36 = .ok (.getfield 16, 3) := by decide +kernel
theorem dX8_rightUpTo_39 : decode cX8_rightUpTo 39 = .ok (.iload_n 1, 1) := by decide +kernel
theorem dX8_rightUpTo_40 : decode cX8_rightUpTo 40 = .ok (.iaload, 1) := by decide +kernel
theorem dX8_rightUpTo_41 : decode cX8_rightUpTo 41 = .ok (.aload_n 0, 1) := by decide +kernel
theorem dX8_rightUpTo_42 : decode cX8_rightUpTo 42 = .ok (.getfield 16, 3) := by decide +kernel
theorem dX8_rightUpTo_45 : decode cX8_rightUpTo 45 = .ok (.iload_n 1, 1) := by decide +kernel
theorem dX8_rightUpTo_46 : decode cX8_rightUpTo 46 = .ok (.iconst 1, 1) := by decide +kernel
theorem dX8_rightUpTo_47 : decode cX8_rightUpTo 47 = .ok (.isub, 1) := by decide +kernel
theorem dX8_rightUpTo_48 : decode cX8_rightUpTo 48 = .ok (.iaload, 1) := by decide +kernel
theorem dX8_rightUpTo_49 : decode cX8_rightUpTo 49 = .ok (.if_icmp .eq 9, 3) := by decide +kernel
theorem dX8_rightUpTo_52 : decode cX8_rightUpTo 52 = .ok (.iinc 1 1, 3) := by decide +kernel
theorem dX8_rightUpTo_55 : decode cX8_rightUpTo 55 = .ok (.goto (-53), 3) := by decide +kernel
theorem dX8_rightUpTo_58 : decode cX8_rightUpTo 58 = .ok (.iload_n 1, 1) := by decide +kernel
theorem dX8_rightUpTo_59 : decode cX8_rightUpTo 59 = .ok (.ireturn, 1) := by decide +kernel
theorem dX8_firstError_0 : decode cX8_firstError 0 = .ok (.aload_n 0, 1) := by decide +kernel
theorem dX8_firstError_1 : decode cX8_firstError 1 = .ok (.iconst 0, 1) := by decide +kernel
theorem dX8_firstError_2 : decode cX8_firstError 2 = .ok (.putfield 43, 3) := by decide +kernel
theorem dX8_firstError_5 : decode cX8_firstError 5 = .ok (.aload_n 0, 1) := by decide +kernel
theorem dX8_firstError_6 : decode cX8_firstError 6 = .ok (.invokevirtual 200, 3) := by decide +kernel
theorem dX8_firstError_9 : decode cX8_firstError 9 = .ok (.ireturn, 1) := by decide +kernel
theorem dX8_read_0 : decode cX8_read 0 = .ok (.aload_n 0, 1) := by decide +kernel
theorem dX8_read_1 : decode cX8_read 1 = .ok (.aload_n 0, 1) := by decide +kernel
theorem dX8_read_2 : decode cX8_read 2 = .ok (.invokevirtual 200, 3) := by decide +kernel
theorem dX8_read_5 : decode cX8_read 5 = .ok (.aload_n 0, 1) := by decide +kernel
theorem dX8_read_6 : decode cX8_read 6 = .ok (.getfield 197, 3) := by decide +kernel
theorem dX8_read_9 : decode cX8_read 9 = .ok (.if_icmp .ne 14, 3) := by decide +kernel
theorem dX8_read_12 : decode cX8_read 12 = .ok (.aload_n 0, 1) := by decide +kernel
theorem dX8_read_13 : decode cX8_read 13 = .ok (.getfield 197, 3) := by decide +kernel
theorem dX8_read_16 : decode cX8_read 16 = .ok (.ifCond .le 7, 3) := by decide +kernel
theorem dX8_read_19 : decode cX8_read 19 = .ok (.iconst 0, 1) := by decide +kernel
theorem dX8_read_20 : decode cX8_read 20 = .ok (.goto 4, 3) := by decide +kernel
theorem dX8_read_23 : decode cX8_read 23 = .ok (.iconst 1, 1) := by decide +kernel
theorem dX8_read_24 : decode cX8_read 24 = .ok (.putfield 43, 3) := by decide +kernel
theorem dX8_read_27 : decode cX8_read 27 = .ok (.aload_n 0, 1) := by decide +kernel
theorem dX8_read_28 : decode cX8_read 28 = .ok (.getfield 43, 3) := by decide +kernel
theorem dX8_read_31 : decode cX8_read 31 = .ok (.ifCond .ne 58, 3) := by decide +kernel
theorem dX8_read_34 : decode cX8_read 34 = .ok (.aload_n 0, 1) := by decide +kernel
theorem dX8_read_35 : decode cX8_read 35 = .ok (.aload_n 0, 1) := by decide +kernel
theorem dX8_read_36 : decode cX8_read 36 = .ok (.getfield 197, 3) := by decide +kernel
theorem dX8_read_39 : decode cX8_read 39 = .ok (.putfield 107, 3) := by decide +kernel
theorem dX8_read_42 : decode cX8_read 42 = .ok (.iconst 0, 1) := by decide +kernel
theorem dX8_read_43 : decode cX8_read 43 = .ok (.istore_n 1, 1) := by decide +kernel
theorem dX8_read_44 : decode cX8_read 44 = .ok (.iload_n 1, 1) := by decide +kernel
theorem dX8_read_45 : decode cX8_read 45 = .ok (.aload_n 0, 1) := by decide +kernel
theorem dX8_read_46 : decode cX8_read 46 = .ok (.getfield 197, 3) := by decide +kernel
theorem dX8_read_49 : decode cX8_read 49 = .ok (.if_icmp .ge 24, 3) := by decide +kernel
theorem dX8_read_52 : decode cX8_read 52 = .ok (.aload_n 0, 1) := by decide +kernel
theorem dX8_read_53 : decode cX8_read 53 = .ok (.getfield 31, 3) := by decide +kernel
theorem dX8_read_56 : decode cX8_read 56 = .ok (.iload_n 1, 1) := by decide +kernel
theorem dX8_read_57 : decode cX8_read 57 = .ok (.aload_n 0, 1) := by decide +kernel
theorem dX8_read_58 : decode cX8_read 58 = .ok (.getfield 16, 3) := by decide +kernel
theorem dX8_read_61 : decode cX8_read 61 = .ok (.iload_n 1, 1) := by decide +kernel
theorem dX8_read_62 : decode cX8_read 62 = .ok (.iaload, 1) := by decide +kernel
theorem dX8_read_63 : decode cX8_read 63 = .ok (.bipush 48, 2) := by decide +kernel
theorem dX8_read_65 : decode cX8_read 65 = .ok (.isub, 1) := by decide +kernel
theorem dX8_read_66 : decode cX8_read 66 = .ok (.iastore, 1) := by decide +kernel
theorem dX8_read_67 : decode cX8_read 67 = .ok (.iinc 1 1, 3) := by decide +kernel
theorem dX8_read_70 : decode cX8_read 70 = .ok (.goto (-26), 3) := by decide +kernel
theorem dX8_read_73 : decode cX8_read 73 = .ok (.aload_n 0, 1) := by decide +kernel
theorem dX8_read_74 : decode cX8_read 74 = .ok (.aload_n 0, 1) := by decide +kernel
theorem dX8_read_75 : decode cX8_read 75 = .ok (.invokevirtual 175, 3) := by decide +kernel
theorem dX8_read_78 : decode cX8_read 78 = .ok (.ifCond .eq 7, 3) := by decide +kernel
theorem dX8_read_81 : decode cX8_read 81 = .ok (.iconst 0, 1) := by decide +kernel
theorem dX8_read_82 : decode cX8_read 82 = .ok (.goto 4, 3) := by decide +kernel
theorem dX8_read_85 : decode cX8_read 85 = .ok (.iconst 2, 1) := by decide +kernel
theorem dX8_read_86 : decode cX8_read 86 = .ok (.putfield 43, 3) := by decide +kernel
theorem dX8_read_89 : decode cX8_read 89 = .ok (.aload_n 0, 1) := by decide +kernel
theorem dX8_read_90 : decode cX8_read 90 = .ok (.getfield 43, 3) := by decide +kernel
theorem dX8_read_93 : decode cX8_read 93 = .ok (.ifCond .le 5, 3) := by decide +kernel
theorem dX8_read_96 : decode cX8_read 96 = .ok (.iconst 0, 1) := by decide +kernel
theorem dX8_read_97 : decode cX8_read 97 = .ok (.ireturn, 1) := by decide +kernel
theorem dX8_read_98 : decode cX8_read 98 = .ok (.aload_n 0, 1) := by decide +kernel
theorem dX8_read_99 : decode cX8_read 99 = .ok (.invokevirtual 147, 3) := by decide +kernel
theorem dX8_read_102 : decode cX8_read 102 = .ok (.aload_n 0, 1) := by decide +kernel
theorem dX8_read_103 : decode cX8_read 103 = .ok (.iconst 0, 1) := by decide +kernel
theorem dX8_read_104 : decode cX8_read 104 = .ok (.putfield 197, 3) := by decide +kernel
theorem dX8_read_107 : decode cX8_read 107 = .ok (.aload_n 0, 1) := by decide +kernel
theorem dX8_read_108 : decode cX8_read 108 = .ok (.invokevirtual 179, 3) := by decide +kernel
theorem dX8_read_111 : decode cX8_read 111 = .ok (.ireturn, 1) := by decide +kernel
theorem dX8_undo_0 : decode cX8_undo 0 = .ok (.aload_n 0, 1) := by decide +kernel
theorem dX8_undo_1 : decode cX8_undo 1 = .ok (.aload_n 0, 1) := by decide +kernel
theorem dX8_undo_2 : decode cX8_undo 2 = .ok (.getfield 47, 3) := by decide +kernel
theorem dX8_undo_5 : decode cX8_undo 5 = .ok (.ifCond .le 7, 3) := by decide +kernel
theorem dX8_undo_8 : decode cX8_undo 8 = .ok (.iconst 0, 1) := by decide +kernel
theorem dX8_undo_9 : decode cX8_undo 9 = .ok (.goto 4, 3) := by decide +kernel
theorem dX8_undo_12 : decode cX8_undo 12 = .ok (.iconst 1, 1) := by decide +kernel
theorem dX8_undo_13 : decode cX8_undo 13 = .ok (.putfield 43, 3) := by decide +kernel
theorem dX8_undo_16 : decode cX8_undo 16 = .ok (.aload_n 0, 1) := by decide +kernel
theorem dX8_undo_17 : decode cX8_undo 17 = .ok (.getfield 43, 3) := by decide +kernel
theorem dX8_undo_20 : decode cX8_undo 20 = .ok (.ifCond .le 5, 3) := by decide +kernel
theorem dX8_undo_23 : decode cX8_undo 23 = .ok (.iconst 0, 1) := by decide +kernel
theorem dX8_undo_24 : decode cX8_undo 24 = .ok (.ireturn, 1) := by decide +kernel
theorem dX8_undo_25 : decode cX8_undo 25 = .ok (.aload_n 0, 1) := by decide +kernel
theorem dX8_undo_26 : decode cX8_undo 26 = .ok (.dup, 1) := by decide +kernel
theorem dX8_undo_27 : decode cX8_undo 27 = .ok (.getfield 47, 3) := by decide +kernel
theorem dX8_undo_30 : decode cX8_undo 30 = .ok (.iconst 1, 1) := by decide +kernel
theorem dX8_undo_31 : decode cX8_undo 31 = .ok (.isub, 1) := by decide +kernel
theorem dX8_undo_32 : decode cX8_undo 32 = .ok (.putfield 47, 3) := by decide +kernel
theorem dX8_undo_35 : decode cX8_undo 35 = .ok (.iconst 0, 1) := by decide +kernel
theorem dX8_undo_36 : decode cX8_undo 36 = .ok (.istore_n 1, 1) := by decide +kernel
theorem dX8_undo_37 : decode cX8_undo 37 = .ok (.iload_n 1, 1) := by decide +kernel
theorem dX8_undo_38 : decode cX8_undo 38 = .ok (.sipush 177, 3) := by decide +kernel
theorem dX8_undo_41 : decode cX8_undo 41 = .ok (.if_icmp .ge 30, 3) := by decide +kernel
theorem dX8_undo_44 : decode cX8_undo 44 = .ok (.aload_n 0, 1) := by decide +kernel
theorem dX8_undo_45 : decode cX8_undo 45 = .ok (.getfield 7, 3) := by decide +kernel
theorem dX8_undo_48 : decode cX8_undo 48 = .ok (.iload_n 1, 1) := by decide +kernel
theorem dX8_undo_49 : decode cX8_undo 49 = .ok (.aload_n 0, 1) := by decide +kernel
theorem dX8_undo_50 : decode cX8_undo 50 = .ok (.getfield 13, 3) := by decide +kernel
theorem dX8_undo_53 : decode cX8_undo 53 = .ok (.sipush 177, 3) := by decide +kernel
theorem dX8_undo_56 : decode cX8_undo 56 = .ok (.aload_n 0, 1) := by decide +kernel
theorem dX8_undo_57 : decode cX8_undo 57 = .ok (.getfield 47, 3) := by decide +kernel
theorem dX8_undo_60 : decode cX8_undo 60 = .ok (.imul, 1) := by decide +kernel
theorem dX8_undo_61 : decode cX8_undo 61 = .ok (.iload_n 1, 1) := by decide +kernel
theorem dX8_undo_62 : decode cX8_undo 62 = .ok (.iadd, 1) := by decide +kernel
theorem dX8_undo_63 : decode cX8_undo 63 = .ok (.iaload, 1) := by decide +kernel
theorem dX8_undo_64 : decode cX8_undo 64 = .ok (.iastore, 1) := by decide +kernel
theorem dX8_undo_65 : decode cX8_undo 65 = .ok (.iinc 1 1, 3) := by decide +kernel
theorem dX8_undo_68 : decode cX8_undo 68 = .ok (.goto (-31), 3) := by decide +kernel
theorem dX8_undo_71 : decode cX8_undo 71 = .ok (.aload_n 0, 1) := by decide +kernel
theorem dX8_undo_72 : decode cX8_undo 72 = .ok (.getfield 47, 3) := by decide +kernel
theorem dX8_undo_75 : decode cX8_undo 75 = .ok (.ireturn, 1) := by decide +kernel
theorem dX8_pointNow_0 : decode cX8_pointNow 0 = .ok (.aload_n 0, 1) := by decide +kernel
theorem dX8_pointNow_1 : decode cX8_pointNow 1 = .ok (.invokevirtual 110, 3) := by decide +kernel
theorem dX8_pointNow_4 : decode cX8_pointNow 4 = .ok (.iload_n 2, 1) := by decide +kernel
theorem dX8_pointNow_5 : decode cX8_pointNow 5 = .ok (.ifCond .ne 12, 3) := by decide +kernel
theorem dX8_pointNow_8 : decode cX8_pointNow 8 = .ok (.aload_n 0, 1) := by decide +kernel
theorem dX8_pointNow_9 : decode cX8_pointNow 9 = .ok (.getfield 19, 3) := by decide +kernel
theorem dX8_pointNow_12 : decode cX8_pointNow 12 = .ok (.iload_n 1, 1) := by decide +kernel
theorem dX8_pointNow_13 : decode cX8_pointNow 13 = .ok (.iaload, 1) := by decide +kernel
theorem dX8_pointNow_14 : decode cX8_pointNow 14 = .ok (.goto 35, 3) := by decide +kernel
theorem dX8_pointNow_17 : decode cX8_pointNow 17 = .ok (.iload_n 2, 1) := by decide +kernel
theorem dX8_pointNow_18 : decode cX8_pointNow 18 = .ok (.iconst 1, 1) := by decide +kernel
theorem dX8_pointNow_19 : decode cX8_pointNow 19 = .ok (.if_icmp .ne 12, 3) := by decide +kernel
theorem dX8_pointNow_22 : decode cX8_pointNow 22 = .ok (.aload_n 0, 1) := by decide +kernel
theorem dX8_pointNow_23 : decode cX8_pointNow 23 = .ok (.getfield 22, 3) := by decide +kernel
theorem dX8_pointNow_26 : decode cX8_pointNow 26 = .ok (.iload_n 1, 1) := by decide +kernel
theorem dX8_pointNow_27 : decode cX8_pointNow 27 = .ok (.iaload, 1) := by decide +kernel
theorem dX8_pointNow_28 : decode cX8_pointNow 28 = .ok (.goto 21, 3) := by decide +kernel
theorem dX8_pointNow_31 : decode cX8_pointNow 31 = .ok (.iload_n 2, 1) := by decide +kernel
theorem dX8_pointNow_32 : decode cX8_pointNow 32 = .ok (.iconst 2, 1) := by decide +kernel
theorem dX8_pointNow_33 : decode cX8_pointNow 33 = .ok (.if_icmp .ne 11, 3) := by decide +kernel
theorem dX8_pointNow_36 : decode cX8_pointNow 36 = .ok (.aload_n 0, 1) := by decide +kernel
theorem dX8_pointNow_37 : decode cX8_pointNow 37 = .ok (.iload_n 1, 1) := by decide +kernel
theorem dX8_pointNow_38 : decode cX8_pointNow 38 = .ok (.invokevirtual 77, 3) := by decide +kernel
theorem dX8_pointNow_41 : decode cX8_pointNow 41 = .ok (.goto 8, 3) := by decide +kernel
theorem dX8_pointNow_44 : decode cX8_pointNow 44 = .ok (.aload_n 0, 1) := by decide +kernel
theorem dX8_pointNow_45 : decode cX8_pointNow 45 = .ok (.iload_n 1, 1) := by decide +kernel
theorem dX8_pointNow_46 : decode cX8_pointNow 46 = .ok (.invokevirtual 80, 3) := by decide +kernel
theorem dX8_pointNow_49 : decode cX8_pointNow 49 = .ok (.ireturn, 1) := by decide +kernel
theorem dX8_pointOf_0 : decode cX8_pointOf 0 = .ok (.aload_n 0, 1) := by decide +kernel
theorem dX8_pointOf_1 : decode cX8_pointOf 1 = .ok (.iload_n 1, 1) := by decide +kernel
theorem dX8_pointOf_2 : decode cX8_pointOf 2 = .ok (.iconst 0, 1) := by decide +kernel
theorem dX8_pointOf_3 : decode cX8_pointOf 3 = .ok (.aload_n 0, 1) := by decide +kernel
theorem dX8_pointOf_4 : decode cX8_pointOf 4 = .ok (.getfield 7, 3) := by decide +kernel
theorem dX8_pointOf_7 : decode cX8_pointOf 7 = .ok (.iconst 5, 1) := by decide +kernel
theorem dX8_pointOf_8 : decode cX8_pointOf 8 = .ok (.iaload, 1) := by decide +kernel
theorem dX8_pointOf_9 : decode cX8_pointOf 9 = .ok (.iconst 1, 1) := by decide +kernel
theorem dX8_pointOf_10 : decode cX8_pointOf 10 = .ok (.isub, 1) := by decide +kernel
theorem dX8_pointOf_11 : decode cX8_pointOf 11 = .ok (.invokestatic 50, 3) := by decide +kernel
theorem dX8_pointOf_14 : decode cX8_pointOf 14 = .ok (.ifCond .ne 7, 3) := by decide +kernel
theorem dX8_pointOf_17 : decode cX8_pointOf 17 = .ok (.iconst 1, 1) := by decide +kernel
theorem dX8_pointOf_18 : decode cX8_pointOf 18 = .ok (.goto 17, 3) := by decide +kernel
theorem dX8_pointOf_21 : decode cX8_pointOf 21 = .ok (.iload_n 2, 1) := by decide +kernel
theorem dX8_pointOf_22 : decode cX8_pointOf 22 = .ok (.iconst 0, 1) := by decide +kernel
theorem dX8_pointOf_23 : decode cX8_pointOf 23 = .ok (.iconst 3, 1) := by decide +kernel
theorem dX8_pointOf_24 : decode cX8_pointOf 24 = .ok (.invokestatic 50, 3) := by decide +kernel
theorem dX8_pointOf_27 : decode cX8_pointOf 27 = .ok (.ifCond .eq 7, 3) := by decide +kernel
theorem dX8_pointOf_30 : decode cX8_pointOf 30 = .ok (.iconst 0, 1) := by decide +kernel
theorem dX8_pointOf_31 : decode cX8_pointOf 31 = .ok (.goto 4, 3) := by decide +kernel
theorem dX8_pointOf_34 : decode cX8_pointOf 34 = .ok (.iconst 2, 1) := by decide +kernel
theorem dX8_pointOf_35 : decode cX8_pointOf 35 = .ok (.putfield 43, 3) := by decide +kernel
theorem dX8_pointOf_38 : decode cX8_pointOf 38 = .ok (.aload_n 0, 1) := by decide +kernel
theorem dX8_pointOf_39 : decode cX8_pointOf 39 = .ok (.getfield 43, 3) := by decide +kernel
theorem dX8_pointOf_42 : decode cX8_pointOf 42 = .ok (.ifCond .le 7, 3) := by decide +kernel
theorem dX8_pointOf_45 : decode cX8_pointOf 45 = .ok (.iconst 0, 1) := by decide +kernel
theorem dX8_pointOf_46 : decode cX8_pointOf 46 = .ok (.goto 9, 3) := by decide +kernel
theorem dX8_pointOf_49 : decode cX8_pointOf 49 = .ok (.aload_n 0, 1) := by decide +kernel
theorem dX8_pointOf_50 : decode cX8_pointOf 50 = .ok (.iload_n 1, 1) := by decide +kernel
theorem dX8_pointOf_51 : decode cX8_pointOf 51 = .ok (.iload_n 2, 1) := by decide +kernel
theorem dX8_pointOf_52 : decode cX8_pointOf 52 = .ok (.invokevirtual 203, 3) := by decide +kernel
theorem dX8_pointOf_55 : decode cX8_pointOf 55 = .ok (.ireturn, 1) := by decide +kernel
theorem dX8_runNow_0 : decode cX8_runNow 0 = .ok (.aload_n 0, 1) := by decide +kernel
theorem dX8_runNow_1 : decode cX8_runNow 1 = .ok (.invokevirtual 110, 3) := by decide +kernel
theorem dX8_runNow_4 : decode cX8_runNow 4 = .ok (.aload_n 0, 1) := by decide +kernel
theorem dX8_runNow_5 : decode cX8_runNow 5 = .ok (.invokevirtual 101, 3) := by decide +kernel
theorem dX8_runNow_8 : decode cX8_runNow 8 = .ok (.iload_n 1, 1) := by decide +kernel
theorem dX8_runNow_9 : decode cX8_runNow 9 = .ok (.aload_n 0, 1) := by decide +kernel
theorem dX8_runNow_10 : decode cX8_runNow 10 = .ok (.getfield 74, 3) := by decide +kernel
theorem dX8_runNow_13 : decode cX8_runNow 13 = .ok (.if_icmp .lt 5, 3) := by decide +kernel
theorem dX8_runNow_16 : decode cX8_runNow 16 = .ok (.iconst (-1), 1) := by decide +kernel
theorem dX8_runNow_17 : decode cX8_runNow 17 = .ok (.ireturn, 1) := by decide +kernel
theorem dX8_runNow_18 : decode cX8_runNow 18 = .ok (.iload_n 2, 1) := by decide +kernel
theorem dX8_runNow_19 : decode cX8_runNow 19 = .ok (.iconst 2, 1) := by decide +kernel
theorem dX8_runNow_20 : decode cX8_runNow 20 = .ok (.if_icmp .ne 11, 3) := by decide +kernel
theorem dX8_runNow_23 : decode cX8_runNow 23 = .ok (.aload_n 0, 1) := by decide +kernel
theorem dX8_runNow_24 : decode cX8_runNow 24 = .ok (.iload_n 1, 1) := by decide +kernel
theorem dX8_runNow_25 : decode cX8_runNow 25 = .ok (.invokevirtual 86, 3) := by decide +kernel
theorem dX8_runNow_28 : decode cX8_runNow 28 = .ok (.goto 8, 3) := by decide +kernel
theorem dX8_runNow_31 : decode cX8_runNow 31 = .ok (.aload_n 0, 1) := by decide +kernel
theorem dX8_runNow_32 : decode cX8_runNow 32 = .ok (.iload_n 1, 1) := by decide +kernel
theorem dX8_runNow_33 : decode cX8_runNow 33 = .ok (.invokevirtual 90, 3) := by decide +kernel
theorem dX8_runNow_36 : decode cX8_runNow 36 = .ok (.istore_n 3, 1) := by decide +kernel
theorem dX8_runNow_37 : decode cX8_runNow 37 = .ok (.iload_n 2, 1) := by decide +kernel
theorem dX8_runNow_38 : decode cX8_runNow 38 = .ok (.ifCond .ne 12, 3) := by decide +kernel
theorem dX8_runNow_41 : decode cX8_runNow 41 = .ok (.aload_n 0, 1) := by decide +kernel
theorem dX8_runNow_42 : decode cX8_runNow 42 = .ok (.getfield 25, 3) := by decide +kernel
theorem dX8_runNow_45 : decode cX8_runNow 45 = .ok (.iload_n 1, 1) := by decide +kernel
theorem dX8_runNow_46 : decode cX8_runNow 46 = .ok (.iaload, 1) := by decide +kernel
theorem dX8_runNow_47 : decode cX8_runNow 47 = .ok (.goto 26, 3) := by decide +kernel
theorem dX8_runNow_50 : decode cX8_runNow 50 = .ok (.iload_n 2, 1) := by decide +kernel
theorem dX8_runNow_51 : decode cX8_runNow 51 = .ok (.iconst 1, 1) := by decide +kernel
theorem dX8_runNow_52 : decode cX8_runNow 52 = .ok (.if_icmp .ne 12, 3) := by decide +kernel
theorem dX8_runNow_55 : decode cX8_runNow 55 = .ok (.aload_n 0, 1) := by decide +kernel
theorem dX8_runNow_56 : decode cX8_runNow 56 = .ok (.getfield 28, 3) := by decide +kernel
theorem dX8_runNow_59 : decode cX8_runNow 59 = .ok (.iload_n 1, 1) := by decide +kernel
theorem dX8_runNow_60 : decode cX8_runNow 60 = .ok (.iaload, 1) := by decide +kernel
theorem dX8_runNow_61 : decode cX8_runNow 61 = .ok (.goto 12, 3) := by decide +kernel
theorem dX8_runNow_64 : decode cX8_runNow 64 = .ok (.iload_n 3, 1) := by decide +kernel
theorem dX8_runNow_65 : decode cX8_runNow 65 = .ok (.ifCond .eq 7, 3) := by decide +kernel
theorem dX8_runNow_68 : decode cX8_runNow 68 = .ok (.iconst 1, 1) := by decide +kernel
theorem dX8_runNow_69 : decode cX8_runNow 69 = .ok (.goto 4, 3) := by decide +kernel
theorem dX8_runNow_72 : decode cX8_runNow 72 = .ok (.iconst 0, 1) := by decide +kernel
theorem dX8_runNow_73 : decode cX8_runNow 73 = .ok (.ireturn, 1) := by decide +kernel
theorem dX8_run_0 : decode cX8_run 0 = .ok (.aload_n 0, 1) := by decide +kernel
theorem dX8_run_1 : decode cX8_run 1 = .ok (.iload_n 1, 1) := by decide +kernel
theorem dX8_run_2 : decode cX8_run 2 = .ok (.ifCond .lt 16, 3) := by decide +kernel
theorem dX8_run_5 : decode cX8_run 5 = .ok (.iload_n 2, 1) := by decide +kernel
theorem dX8_run_6 : decode cX8_run 6 = .ok (.iconst 0, 1) := by decide +kernel
theorem dX8_run_7 : decode cX8_run 7 = .ok (.iconst 3, 1) := by decide +kernel
theorem dX8_run_8 : decode cX8_run 8 = .ok (.invokestatic 50, 3) := by decide +kernel
theorem dX8_run_11 : decode cX8_run 11 = .ok (.ifCond .eq 7, 3) := by decide +kernel
theorem dX8_run_14 : decode cX8_run 14 = .ok (.iconst 0, 1) := by decide +kernel
theorem dX8_run_15 : decode cX8_run 15 = .ok (.goto 4, 3) := by decide +kernel
theorem dX8_run_18 : decode cX8_run 18 = .ok (.iconst 1, 1) := by decide +kernel
theorem dX8_run_19 : decode cX8_run 19 = .ok (.putfield 43, 3) := by decide +kernel
theorem dX8_run_22 : decode cX8_run 22 = .ok (.aload_n 0, 1) := by decide +kernel
theorem dX8_run_23 : decode cX8_run 23 = .ok (.getfield 43, 3) := by decide +kernel
theorem dX8_run_26 : decode cX8_run 26 = .ok (.ifCond .le 7, 3) := by decide +kernel
theorem dX8_run_29 : decode cX8_run 29 = .ok (.iconst 0, 1) := by decide +kernel
theorem dX8_run_30 : decode cX8_run 30 = .ok (.goto 9, 3) := by decide +kernel
theorem dX8_run_33 : decode cX8_run 33 = .ok (.aload_n 0, 1) := by decide +kernel
theorem dX8_run_34 : decode cX8_run 34 = .ok (.iload_n 1, 1) := by decide +kernel
theorem dX8_run_35 : decode cX8_run 35 = .ok (.iload_n 2, 1) := by decide +kernel
theorem dX8_run_36 : decode cX8_run 36 = .ok (.invokevirtual 206, 3) := by decide +kernel
theorem dX8_run_39 : decode cX8_run 39 = .ok (.ireturn, 1) := by decide +kernel
theorem dX8_strokeNow_0 : decode cX8_strokeNow 0 = .ok (.aload_n 0, 1) := by decide +kernel
theorem dX8_strokeNow_1 : decode cX8_strokeNow 1 = .ok (.invokevirtual 172, 3) := by decide +kernel
theorem dX8_strokeNow_4 : decode cX8_strokeNow 4 = .ok (.iload_n 1, 1) := by decide +kernel
theorem dX8_strokeNow_5 : decode cX8_strokeNow 5 = .ok (.aload_n 0, 1) := by decide +kernel
theorem dX8_strokeNow_6 : decode cX8_strokeNow 6 = .ok (.getfield 107, 3) := by decide +kernel
theorem dX8_strokeNow_9 : decode cX8_strokeNow 9 = .ok (.if_icmp .ge 12, 3) := by decide +kernel
theorem dX8_strokeNow_12 : decode cX8_strokeNow 12 = .ok (.aload_n 0, 1) := by decide +kernel
theorem dX8_strokeNow_13 : decode cX8_strokeNow 13 = .ok (.getfield 31, 3) := by decide +kernel
theorem dX8_strokeNow_16 : decode cX8_strokeNow 16 = .ok (.iload_n 1, 1) := by decide +kernel
theorem dX8_strokeNow_17 : decode cX8_strokeNow 17 = .ok (.iaload, 1) := by decide +kernel
theorem dX8_strokeNow_18 : decode cX8_strokeNow 18 = .ok (.goto 4, 3) := by decide +kernel
theorem dX8_strokeNow_21 : decode cX8_strokeNow 21 = .ok (.iconst (-1), 1) := by decide +kernel
theorem dX8_strokeNow_22 : decode cX8_strokeNow 22 = .ok (.ireturn, 1) := by decide +kernel
theorem dX8_stroke_0 : decode cX8_stroke 0 = .ok (.aload_n 0, 1) := by decide +kernel
theorem dX8_stroke_1 : decode cX8_stroke 1 = .ok (.iload_n 1, 1) := by decide +kernel
theorem dX8_stroke_2 : decode cX8_stroke 2 = .ok (.ifCond .ge 7, 3) := by decide +kernel
theorem dX8_stroke_5 : decode cX8_stroke 5 = .ok (.iconst 1, 1) := by decide +kernel
theorem dX8_stroke_6 : decode cX8_stroke 6 = .ok (.goto 4, 3) := by decide +kernel
theorem dX8_stroke_9 : decode cX8_stroke 9 = .ok (.iconst 0, 1) := by decide +kernel
theorem dX8_stroke_10 : decode cX8_stroke 10 = .ok (.putfield 43, 3) := by decide +kernel
theorem dX8_stroke_13 : decode cX8_stroke 13 = .ok (.aload_n 0, 1) := by decide +kernel
theorem dX8_stroke_14 : decode cX8_stroke 14 = .ok (.getfield 43, 3) := by decide +kernel
theorem dX8_stroke_17 : decode cX8_stroke 17 = .ok (.ifCond .le 7, 3) := by decide +kernel
theorem dX8_stroke_20 : decode cX8_stroke 20 = .ok (.iconst 0, 1) := by decide +kernel
theorem dX8_stroke_21 : decode cX8_stroke 21 = .ok (.goto 8, 3) := by decide +kernel
theorem dX8_stroke_24 : decode cX8_stroke 24 = .ok (.aload_n 0, 1) := by decide +kernel
theorem dX8_stroke_25 : decode cX8_stroke 25 = .ok (.iload_n 1, 1) := by decide +kernel
theorem dX8_stroke_26 : decode cX8_stroke 26 = .ok (.invokevirtual 209, 3) := by decide +kernel
theorem dX8_stroke_29 : decode cX8_stroke 29 = .ok (.ireturn, 1) := by decide +kernel
theorem dX8_strokeOf_0 : decode cX8_strokeOf 0 = .ok (.aload_n 0, 1) := by decide +kernel
theorem dX8_strokeOf_1 : decode cX8_strokeOf 1 = .ok (.aload_n 0, 1) := by decide +kernel
theorem dX8_strokeOf_2 : decode cX8_strokeOf 2 = .ok (.iload_n 1, 1) := by decide +kernel
theorem dX8_strokeOf_3 : decode cX8_strokeOf 3 = .ok (.invokevirtual 182, 3) := by decide +kernel
theorem dX8_strokeOf_6 : decode cX8_strokeOf 6 = .ok (.ifCond .ne 7, 3) := by decide +kernel
theorem dX8_strokeOf_9 : decode cX8_strokeOf 9 = .ok (.iconst 1, 1) := by decide +kernel
theorem dX8_strokeOf_10 : decode cX8_strokeOf 10 = .ok (.goto 12, 3) := by decide +kernel
theorem dX8_strokeOf_13 : decode cX8_strokeOf 13 = .ok (.iload_n 2, 1) := by decide +kernel
theorem dX8_strokeOf_14 : decode cX8_strokeOf 14 = .ok (.ifCond .ge 7, 3) := by decide +kernel
theorem dX8_strokeOf_17 : decode cX8_strokeOf 17 = .ok (.iconst 2, 1) := by decide +kernel
theorem dX8_strokeOf_18 : decode cX8_strokeOf 18 = .ok (.goto 4, 3) := by decide +kernel
theorem dX8_strokeOf_21 : decode cX8_strokeOf 21 = .ok (.iconst 0, 1) := by decide +kernel
theorem dX8_strokeOf_22 : decode cX8_strokeOf 22 = .ok (.putfield 43, 3) := by decide +kernel
theorem dX8_strokeOf_25 : decode cX8_strokeOf 25 = .ok (.aload_n 0, 1) := by decide +kernel
theorem dX8_strokeOf_26 : decode cX8_strokeOf 26 = .ok (.getfield 43, 3) := by decide +kernel
theorem dX8_strokeOf_29 : decode cX8_strokeOf 29 = .ok (.ifCond .le 7, 3) := by decide +kernel
theorem dX8_strokeOf_32 : decode cX8_strokeOf 32 = .ok (.iconst 0, 1) := by decide +kernel
theorem dX8_strokeOf_33 : decode cX8_strokeOf 33 = .ok (.goto 22, 3) := by decide +kernel
theorem dX8_strokeOf_36 : decode cX8_strokeOf 36 = .ok (.iload_n 2, 1) := by decide +kernel
theorem dX8_strokeOf_37 : decode cX8_strokeOf 37 = .ok (.aload_n 0, 1) := by decide +kernel
theorem dX8_strokeOf_38 : decode cX8_strokeOf 38 = .ok (.iload_n 1, 1) := by decide +kernel
theorem dX8_strokeOf_39 : decode cX8_strokeOf 39 = .ok (.invokevirtual 116, 3) := by decide +kernel
theorem dX8_strokeOf_42 : decode cX8_strokeOf 42 = .ok (.if_icmp .ge 12, 3) := by decide +kernel
theorem dX8_strokeOf_45 : decode cX8_strokeOf 45 = .ok (.aload_n 0, 1) := by decide +kernel
theorem dX8_strokeOf_46 : decode cX8_strokeOf 46 = .ok (.iload_n 1, 1) := by decide +kernel
theorem dX8_strokeOf_47 : decode cX8_strokeOf 47 = .ok (.iload_n 2, 1) := by decide +kernel
theorem dX8_strokeOf_48 : decode cX8_strokeOf 48 = .ok (.invokevirtual 119, 3) := by decide +kernel
theorem dX8_strokeOf_51 : decode cX8_strokeOf 51 = .ok (.goto 4, 3) := by decide +kernel
theorem dX8_strokeOf_54 : decode cX8_strokeOf 54 = .ok (.iconst (-1), 1) := by decide +kernel
theorem dX8_strokeOf_55 : decode cX8_strokeOf 55 = .ok (.ireturn, 1) := by decide +kernel
theorem dX8_pathDistance_0 : decode cX8_pathDistance 0 = .ok (.aload_n 0, 1) := by decide +kernel
theorem dX8_pathDistance_1 : decode cX8_pathDistance 1 = .ok (.invokevirtual 172, 3) := by decide +kernel
theorem dX8_pathDistance_4 : decode cX8_pathDistance 4 = .ok (.aload_n 0, 1) := by decide +kernel
theorem dX8_pathDistance_5 : decode cX8_pathDistance 5 = .ok (.iload_n 1, 1) := by decide +kernel
theorem dX8_pathDistance_6 : decode cX8_pathDistance 6 = .ok (.invokevirtual 128, 3) := by decide +kernel
theorem dX8_pathDistance_9 : decode cX8_pathDistance 9 = .ok (.ireturn, 1) := by decide +kernel
theorem dX8_distance_0 : decode cX8_distance 0 = .ok (.aload_n 0, 1) := by decide +kernel
theorem dX8_distance_1 : decode cX8_distance 1 = .ok (.aload_n 0, 1) := by decide +kernel
theorem dX8_distance_2 : decode cX8_distance 2 = .ok (.iload_n 1, 1) := by decide +kernel
theorem dX8_distance_3 : decode cX8_distance 3 = .ok (.invokevirtual 182, 3) := by decide +kernel
theorem dX8_distance_6 : decode cX8_distance 6 = .ok (.ifCond .eq 20, 3) := by decide +kernel
theorem dX8_distance_9 : decode cX8_distance 9 = .ok (.iload_n 2, 1) := by decide +kernel
theorem dX8_distance_10 : decode cX8_distance 10 = .ok (.iconst (-1), 1) := by decide +kernel
theorem dX8_distance_11 : decode cX8_distance 11 = .ok (.if_icmp .eq 11, 3) := by decide +kernel
theorem dX8_distance_14 : decode cX8_distance 14 = .ok (.aload_n 0, 1) := by decide +kernel
theorem dX8_distance_15 : decode cX8_distance 15 = .ok (.iload_n 2, 1) := by decide +kernel
theorem dX8_distance_16 : decode cX8_distance 16 = .ok (.invokevirtual 182, 3) := by decide +kernel
theorem dX8_distance_19 : decode cX8_distance 19 = .ok (.ifCond .eq 7, 3) := by decide +kernel
theorem dX8_distance_22 : decode cX8_distance 22 = .ok (.iconst 0, 1) := by decide +kernel
theorem dX8_distance_23 : decode cX8_distance 23 = .ok (.goto 4, 3) := by decide +kernel
theorem dX8_distance_26 : decode cX8_distance 26 = .ok (.iconst 1, 1) := by decide +kernel
theorem dX8_distance_27 : decode cX8_distance 27 = .ok (.putfield 43, 3) := by decide +kernel
theorem dX8_distance_30 : decode cX8_distance 30 = .ok (.aload_n 0, 1) := by decide +kernel
theorem dX8_distance_31 : decode cX8_distance 31 = .ok (.getfield 43, 3) := by decide +kernel
theorem dX8_distance_34 : decode cX8_distance 34 = .ok (.ifCond .le 7, 3) := by decide +kernel
theorem dX8_distance_37 : decode cX8_distance 37 = .ok (.iconst 0, 1) := by decide +kernel
theorem dX8_distance_38 : decode cX8_distance 38 = .ok (.goto 22, 3) := by decide +kernel
theorem dX8_distance_41 : decode cX8_distance 41 = .ok (.iload_n 2, 1) := by decide +kernel
theorem dX8_distance_42 : decode cX8_distance 42 = .ok (.iconst (-1), 1) := by decide +kernel
theorem dX8_distance_43 : decode cX8_distance 43 = .ok (.if_icmp .ne 11, 3) := by decide +kernel
theorem dX8_distance_46 : decode cX8_distance 46 = .ok (.aload_n 0, 1) := by decide +kernel
theorem dX8_distance_47 : decode cX8_distance 47 = .ok (.iload_n 1, 1) := by decide +kernel
theorem dX8_distance_48 : decode cX8_distance 48 = .ok (.invokevirtual 212, 3) := by decide +kernel
theorem dX8_distance_51 : decode cX8_distance 51 = .ok (.goto 9, 3) := by decide +kernel
theorem dX8_distance_54 : decode cX8_distance 54 = .ok (.aload_n 0, 1) := by decide +kernel
theorem dX8_distance_55 : decode cX8_distance 55 = .ok (.iload_n 1, 1) := by decide +kernel
theorem dX8_distance_56 : decode cX8_distance 56 = .ok (.iload_n 2, 1) := by decide +kernel
theorem dX8_distance_57 : decode cX8_distance 57 = .ok (.invokevirtual 131, 3) := by decide +kernel
theorem dX8_distance_60 : decode cX8_distance 60 = .ok (.ireturn, 1) := by decide +kernel
theorem dX8_nearestDistance_0 : decode cX8_nearestDistance 0 = .ok (.aload_n 0, 1) := by decide +kernel
theorem dX8_nearestDistance_1 : decode cX8_nearestDistance 1 = .ok (.iconst (-1), 1) := by decide +kernel
theorem dX8_nearestDistance_2 : decode cX8_nearestDistance 2 = .ok (.invokevirtual 134, 3) := by decide +kernel
theorem dX8_nearestDistance_5 : decode cX8_nearestDistance 5 = .ok (.istore_n 1, 1) := by decide +kernel
theorem dX8_nearestDistance_6 : decode cX8_nearestDistance 6 = .ok (.iload_n 1, 1) := by decide +kernel
theorem dX8_nearestDistance_7 : decode cX8_nearestDistance 7 = .ok (.iconst (-1), 1) := by decide +kernel
theorem dX8_nearestDistance_8 : decode cX8_nearestDistance 8 = .ok (.if_icmp .ne 7, 3) := by decide +kernel
theorem dX8_nearestDistance_11 : decode cX8_nearestDistance 11 = .ok (.iconst (-1), 1) := by decide +kernel
theorem dX8_nearestDistance_12 : decode cX8_nearestDistance 12 = .ok (.goto 8, 3) := by decide +kernel
theorem dX8_nearestDistance_15 : decode cX8_nearestDistance 15 = .ok (.aload_n 0, 1) := by decide +kernel
theorem dX8_nearestDistance_16 : decode cX8_nearestDistance 16 = .ok (.iload_n 1, 1) := by decide +kernel
theorem dX8_nearestDistance_17 : decode cX8_nearestDistance 17 = .ok (.invokevirtual 128, 3) := by decide +kernel
theorem dX8_nearestDistance_20 : decode cX8_nearestDistance 20 = .ok (.ireturn, 1) := by decide +kernel
theorem dX8_readingNow_0 : decode cX8_readingNow 0 = .ok (.aload_n 0, 1) := by decide +kernel
theorem dX8_readingNow_1 : decode cX8_readingNow 1 = .ok (.invokevirtual 172, 3) := by decide +kernel
theorem dX8_readingNow_4 : decode cX8_readingNow 4 = .ok (.iload_n 1, 1) := by decide +kernel
theorem dX8_readingNow_5 : decode cX8_readingNow 5 = .ok (.tableswitch 52 0 3 #[31, 36, 42, 47], 31) := by decide +kernel
theorem dX8_readingNow_36 : decode cX8_readingNow 36 = .ok (.aload_n 0, 1) := by decide +kernel
theorem dX8_readingNow_37 : decode cX8_readingNow 37 = .ok (.invokevirtual 215, 3) := by decide +kernel
theorem dX8_readingNow_40 : decode cX8_readingNow 40 = .ok (.ireturn, 1) := by decide +kernel
theorem dX8_readingNow_41 : decode cX8_readingNow 41 = .ok (.aload_n 0, 1) := by decide +kernel
theorem dX8_readingNow_42 : decode cX8_readingNow 42 = .ok (.iconst (-1), 1) := by decide +kernel
theorem dX8_readingNow_43 : decode cX8_readingNow 43 = .ok (.invokevirtual 134, 3) := by decide +kernel
theorem dX8_readingNow_46 : decode cX8_readingNow 46 = .ok (.ireturn, 1) := by decide +kernel
theorem dX8_readingNow_47 : decode cX8_readingNow 47 = .ok (.aload_n 0, 1) := by decide +kernel
theorem dX8_readingNow_48 : decode cX8_readingNow 48 = .ok (.invokevirtual 218, 3) := by decide +kernel
theorem dX8_readingNow_51 : decode cX8_readingNow 51 = .ok (.ireturn, 1) := by decide +kernel
theorem dX8_readingNow_52 : decode cX8_readingNow 52 = .ok (.aload_n 0, 1) := by decide +kernel
theorem dX8_readingNow_53 : decode cX8_readingNow 53 = .ok (.invokevirtual 140, 3) := by decide +kernel
theorem dX8_readingNow_56 : decode cX8_readingNow 56 = .ok (.ireturn, 1) := by decide +kernel
theorem dX8_readingNow_57 : decode cX8_readingNow 57 = .ok (.aload_n 0, 1) := by decide +kernel
theorem dX8_readingNow_58 : decode cX8_readingNow 58 = .ok (.invokevirtual 221, 3) := by decide +kernel
theorem dX8_readingNow_61 : decode cX8_readingNow 61 = .ok (.ireturn, 1) := by decide +kernel
theorem dX8_reading_0 : decode cX8_reading 0 = .ok (.aload_n 0, 1) := by decide +kernel
theorem dX8_reading_1 : decode cX8_reading 1 = .ok (.iload_n 1, 1) := by decide +kernel
theorem dX8_reading_2 : decode cX8_reading 2 = .ok (.iconst 0, 1) := by decide +kernel
theorem dX8_reading_3 : decode cX8_reading 3 = .ok (.iconst 4, 1) := by decide +kernel
theorem dX8_reading_4 : decode cX8_reading 4 = .ok (.invokestatic 50, 3) := by decide +kernel
theorem dX8_reading_7 : decode cX8_reading 7 = .ok (.ifCond .eq 7, 3) := by decide +kernel
theorem dX8_reading_10 : decode cX8_reading 10 = .ok (.iconst 0, 1) := by decide +kernel
theorem dX8_reading_11 : decode cX8_reading 11 = .ok (.goto 4, 3) := by decide +kernel
theorem dX8_reading_14 : decode cX8_reading 14 = .ok (.iconst 1, 1) := by decide +kernel
theorem dX8_reading_15 : decode cX8_reading 15 = .ok (.putfield 43, 3) := by decide +kernel
theorem dX8_reading_18 : decode cX8_reading 18 = .ok (.aload_n 0, 1) := by decide +kernel
theorem dX8_reading_19 : decode cX8_reading 19 = .ok (.getfield 43, 3) := by decide +kernel
theorem dX8_reading_22 : decode cX8_reading 22 = .ok (.ifCond .le 7, 3) := by decide +kernel
theorem dX8_reading_25 : decode cX8_reading 25 = .ok (.iconst 0, 1) := by decide +kernel
theorem dX8_reading_26 : decode cX8_reading 26 = .ok (.goto 8, 3) := by decide +kernel
theorem dX8_reading_29 : decode cX8_reading 29 = .ok (.aload_n 0, 1) := by decide +kernel
theorem dX8_reading_30 : decode cX8_reading 30 = .ok (.iload_n 1, 1) := by decide +kernel
theorem dX8_reading_31 : decode cX8_reading 31 = .ok (.invokevirtual 224, 3) := by decide +kernel
theorem dX8_reading_34 : decode cX8_reading 34 = .ok (.ireturn, 1) := by decide +kernel
theorem dX8_manyRuns_0 : decode cX8_manyRuns 0 = .ok (.aload_n 0, 1) := by decide +kernel
theorem dX8_manyRuns_1 : decode cX8_manyRuns 1 = .ok (.invokevirtual 110, 3) := by decide +kernel
theorem dX8_manyRuns_4 : decode cX8_manyRuns 4 = .ok (.aload_n 0, 1) := by decide +kernel
theorem dX8_manyRuns_5 : decode cX8_manyRuns 5 = .ok (.invokevirtual 101, 3) := by decide +kernel
theorem dX8_manyRuns_8 : decode cX8_manyRuns 8 = .ok (.aload_n 0, 1) := by decide +kernel
theorem dX8_manyRuns_9 : decode cX8_manyRuns 9 = .ok (.getfield 74, 3) := by decide +kernel
theorem dX8_manyRuns_12 : decode cX8_manyRuns 12 = .ok (.ireturn, 1) := by decide +kernel
theorem dX8_pathLength_0 : decode cX8_pathLength 0 = .ok (.aload_n 0, 1) := by decide +kernel
theorem dX8_pathLength_1 : decode cX8_pathLength 1 = .ok (.invokevirtual 227, 3) := by decide +kernel
theorem dX8_pathLength_4 : decode cX8_pathLength 4 = .ok (.istore_n 1, 1) := by decide +kernel
theorem dX8_pathLength_5 : decode cX8_pathLength 5 = .ok (.iconst 0, 1) := by decide +kernel
theorem dX8_pathLength_6 : decode cX8_pathLength 6 = .ok (.istore_n 2, 1) := by decide +kernel
theorem dX8_pathLength_7 : decode cX8_pathLength 7 = .ok (.iconst 0, 1) := by decide +kernel
theorem dX8_pathLength_8 : decode cX8_pathLength 8 = .ok (.istore_n 3, 1) := by decide +kernel
theorem dX8_pathLength_9 : decode cX8_pathLength 9 = .ok (.iload_n 3, 1) := by decide +kernel
theorem dX8_pathLength_10 : decode cX8_pathLength 10 = .ok (.iload_n 1, 1) := by decide +kernel
theorem dX8_pathLength_11 : decode cX8_pathLength 11 = .ok (.if_icmp .ge 18, 3) := by decide +kernel
theorem dX8_pathLength_14 : decode cX8_pathLength 14 = .ok (.iload_n 2, 1) := by decide +kernel
theorem dX8_pathLength_15 : decode cX8_pathLength 15 = .ok (.aload_n 0, 1) := by decide +kernel
theorem dX8_pathLength_16 : decode cX8_pathLength 16 = .ok (.getfield 28, 3) := by decide +kernel
theorem dX8_pathLength_19 : decode cX8_pathLength 19 = .ok (.iload_n 3, 1) := by decide +kernel
theorem dX8_pathLength_20 : decode cX8_pathLength 20 = .ok (.iaload, 1) := by decide +kernel
theorem dX8_pathLength_21 : decode cX8_pathLength 21 = .ok (.iadd, 1) := by decide +kernel
theorem dX8_pathLength_22 : decode cX8_pathLength 22 = .ok (.istore_n 2, 1) := by decide +kernel
theorem dX8_pathLength_23 : decode cX8_pathLength 23 = .ok (.iinc 3 1, 3) := by decide +kernel
theorem dX8_pathLength_26 : decode cX8_pathLength 26 = .ok (.goto (-17), 3) := by decide +kernel
theorem dX8_pathLength_29 : decode cX8_pathLength 29 = .ok (.iload_n 2, 1) := by decide +kernel
theorem dX8_pathLength_30 : decode cX8_pathLength 30 = .ok (.ireturn, 1) := by decide +kernel
theorem dX8_manyDropped_0 : decode cX8_manyDropped 0 = .ok (.aload_n 0, 1) := by decide +kernel
theorem dX8_manyDropped_1 : decode cX8_manyDropped 1 = .ok (.invokevirtual 227, 3) := by decide +kernel
theorem dX8_manyDropped_4 : decode cX8_manyDropped 4 = .ok (.istore_n 1, 1) := by decide +kernel
theorem dX8_manyDropped_5 : decode cX8_manyDropped 5 = .ok (.aload_n 0, 1) := by decide +kernel
theorem dX8_manyDropped_6 : decode cX8_manyDropped 6 = .ok (.invokevirtual 104, 3) := by decide +kernel
theorem dX8_manyDropped_9 : decode cX8_manyDropped 9 = .ok (.ireturn, 1) := by decide +kernel
theorem dX8_manyDirections_0 : decode cX8_manyDirections 0 = .ok (.aload_n 0, 1) := by decide +kernel
theorem dX8_manyDirections_1 : decode cX8_manyDirections 1 = .ok (.invokevirtual 172, 3) := by decide +kernel
theorem dX8_manyDirections_4 : decode cX8_manyDirections 4 = .ok (.aload_n 0, 1) := by decide +kernel
theorem dX8_manyDirections_5 : decode cX8_manyDirections 5 = .ok (.getfield 107, 3) := by decide +kernel
theorem dX8_manyDirections_8 : decode cX8_manyDirections 8 = .ok (.ireturn, 1) := by decide +kernel
theorem dX8_allDirections_0 : decode cX8_allDirections 0 = .ok (.iconst 0, 1) := by decide +kernel
theorem dX8_allDirections_1 : decode cX8_allDirections 1 = .ok (.istore_n 1, 1) := by decide +kernel
theorem dX8_allDirections_2 : decode cX8_allDirections 2 = .ok (.iconst 0, 1) := by decide +kernel
theorem dX8_allDirections_3 : decode cX8_allDirections 3 = .ok (.istore_n 2, 1) := by decide +kernel
theorem dX8_allDirections_4 : decode cX8_allDirections 4 = .ok (.iload_n 2, 1) := by decide +kernel
theorem dX8_allDirections_5 : decode cX8_allDirections 5 = .ok (.aload_n 0, 1) := by decide +kernel
theorem dX8_allDirections_6 : decode cX8_allDirections 6 = .ok (.getfield 7, 3) := by decide +kernel
theorem dX8_allDirections_9 : decode cX8_allDirections 9 = .ok (.bipush 6, 2) := by decide +kernel
theorem dX8_allDirections_11 : decode cX8_allDirections 11 = .ok (.iaload, 1) := by decide +kernel
theorem dX8_allDirections_12 : decode cX8_allDirections 12 = .ok (.if_icmp .ge 17, 3) := by decide +kernel
theorem dX8_allDirections_15 : decode cX8_allDirections 15 = .ok (.iload_n 1, 1) := by decide +kernel
theorem dX8_allDirections_16 : decode cX8_allDirections 16 = .ok (.aload_n 0, 1) := by decide +kernel
theorem dX8_allDirections_17 : decode cX8_allDirections 17 = .ok (.iload_n 2, 1) := by decide +kernel
theorem dX8_allDirections_18 : decode cX8_allDirections 18 = .ok (.invokevirtual 116, 3) := by decide +kernel
theorem dX8_allDirections_21 : decode cX8_allDirections 21 = .ok (.iadd, 1) := by decide +kernel
theorem dX8_allDirections_22 : decode cX8_allDirections 22 = .ok (.istore_n 1, 1) := by decide +kernel
theorem dX8_allDirections_23 : decode cX8_allDirections 23 = .ok (.iinc 2 1, 3) := by decide +kernel
theorem dX8_allDirections_26 : decode cX8_allDirections 26 = .ok (.goto (-22), 3) := by decide +kernel
theorem dX8_allDirections_29 : decode cX8_allDirections 29 = .ok (.iload_n 1, 1) := by decide +kernel
theorem dX8_allDirections_30 : decode cX8_allDirections 30 = .ok (.ireturn, 1) := by decide +kernel
theorem dX8_counted_0 : decode cX8_counted 0 = .ok (.iload_n 1, 1) := by decide +kernel
theorem dX8_counted_1 : decode cX8_counted 1 = .ok (.tableswitch 92 0 7 #[47, 54, 59, 64, 69, 74, 82, 87], 47) := by decide +kernel
theorem dX8_counted_48 : decode cX8_counted 48 = .ok (.aload_n 0, 1) := by decide +kernel
theorem dX8_counted_49 : decode cX8_counted 49 = .ok (.getfield 7, 3) := by decide +kernel
theorem dX8_counted_52 : decode cX8_counted 52 = .ok (.iconst 5, 1) := by decide +kernel
theorem dX8_counted_53 : decode cX8_counted 53 = .ok (.iaload, 1) := by decide +kernel
theorem dX8_counted_54 : decode cX8_counted 54 = .ok (.ireturn, 1) := by decide +kernel
theorem dX8_counted_55 : decode cX8_counted 55 = .ok (.aload_n 0, 1) := by decide +kernel
theorem dX8_counted_56 : decode cX8_counted 56 = .ok (.invokevirtual 227, 3) := by decide +kernel
theorem dX8_counted_59 : decode cX8_counted 59 = .ok (.ireturn, 1) := by decide +kernel
theorem dX8_counted_60 : decode cX8_counted 60 = .ok (.aload_n 0, 1) := by decide +kernel
theorem dX8_counted_61 : decode cX8_counted 61 = .ok (.invokevirtual 230, 3) := by decide +kernel
theorem dX8_counted_64 : decode cX8_counted 64 = .ok (.ireturn, 1) := by decide +kernel
theorem dX8_counted_65 : decode cX8_counted 65 = .ok (.aload_n 0, 1) := by decide +kernel
theorem dX8_counted_66 : decode cX8_counted 66 = .ok (.invokevirtual 233, 3) := by decide +kernel
theorem dX8_counted_69 : decode cX8_counted 69 = .ok (.ireturn, 1) := by decide +kernel
theorem dX8_counted_70 : decode cX8_counted 70 = .ok (.aload_n 0, 1) := by decide +kernel
theorem dX8_counted_71 : decode cX8_counted 71 = .ok (.invokevirtual 236, 3) := by decide +kernel
theorem dX8_counted_74 : decode cX8_counted 74 = .ok (.ireturn, 1) := by decide +kernel
theorem dX8_counted_75 : decode cX8_counted 75 = .ok (.aload_n 0, 1) := by decide +kernel
theorem dX8_counted_76 : decode cX8_counted 76 = .ok (.getfield 7, 3) := by decide +kernel
theorem dX8_counted_79 : decode cX8_counted 79 = .ok (.bipush 6, 2) := by decide +kernel
theorem dX8_counted_81 : decode cX8_counted 81 = .ok (.iaload, 1) := by decide +kernel
theorem dX8_counted_82 : decode cX8_counted 82 = .ok (.ireturn, 1) := by decide +kernel
theorem dX8_counted_83 : decode cX8_counted 83 = .ok (.aload_n 0, 1) := by decide +kernel
theorem dX8_counted_84 : decode cX8_counted 84 = .ok (.invokevirtual 239, 3) := by decide +kernel
theorem dX8_counted_87 : decode cX8_counted 87 = .ok (.ireturn, 1) := by decide +kernel
theorem dX8_counted_88 : decode cX8_counted 88 = .ok (.aload_n 0, 1) := by decide +kernel
theorem dX8_counted_89 : decode cX8_counted 89 = .ok (.invokevirtual 185, 3) := by decide +kernel
theorem dX8_counted_92 : decode cX8_counted 92 = .ok (.ireturn, 1) := by decide +kernel
theorem dX8_counted_93 : decode cX8_counted 93 = .ok (.aload_n 0, 1) := by decide +kernel
theorem dX8_counted_94 : decode cX8_counted 94 = .ok (.getfield 47, 3) := by decide +kernel
theorem dX8_counted_97 : decode cX8_counted 97 = .ok (.ireturn, 1) := by decide +kernel
theorem dX8_count_0 : decode cX8_count 0 = .ok (.aload_n 0, 1) := by decide +kernel
theorem dX8_count_1 : decode cX8_count 1 = .ok (.iload_n 1, 1) := by decide +kernel
theorem dX8_count_2 : decode cX8_count 2 = .ok (.iconst 0, 1) := by decide +kernel
theorem dX8_count_3 : decode cX8_count 3 = .ok (.bipush 8, 2) := by decide +kernel
theorem dX8_count_5 : decode cX8_count 5 = .ok (.invokestatic 50, 3) := by decide +kernel
theorem dX8_count_8 : decode cX8_count 8 = .ok (.ifCond .eq 7, 3) := by decide +kernel
theorem dX8_count_11 : decode cX8_count 11 = .ok (.iconst 0, 1) := by decide +kernel
theorem dX8_count_12 : decode cX8_count 12 = .ok (.goto 4, 3) := by decide +kernel
theorem dX8_count_15 : decode cX8_count 15 = .ok (.iconst 1, 1) := by decide +kernel
theorem dX8_count_16 : decode cX8_count 16 = .ok (.putfield 43, 3) := by decide +kernel
theorem dX8_count_19 : decode cX8_count 19 = .ok (.aload_n 0, 1) := by decide +kernel
theorem dX8_count_20 : decode cX8_count 20 = .ok (.getfield 43, 3) := by decide +kernel
theorem dX8_count_23 : decode cX8_count 23 = .ok (.ifCond .le 7, 3) := by decide +kernel
theorem dX8_count_26 : decode cX8_count 26 = .ok (.iconst 0, 1) := by decide +kernel
theorem dX8_count_27 : decode cX8_count 27 = .ok (.goto 8, 3) := by decide +kernel
theorem dX8_count_30 : decode cX8_count 30 = .ok (.aload_n 0, 1) := by decide +kernel
theorem dX8_count_31 : decode cX8_count 31 = .ok (.iload_n 1, 1) := by decide +kernel
theorem dX8_count_32 : decode cX8_count 32 = .ok (.invokevirtual 242, 3) := by decide +kernel
theorem dX8_count_35 : decode cX8_count 35 = .ok (.ireturn, 1) := by decide +kernel
theorem dX8_setting_0 : decode cX8_setting 0 = .ok (.aload_n 0, 1) := by decide +kernel
theorem dX8_setting_1 : decode cX8_setting 1 = .ok (.iload_n 1, 1) := by decide +kernel
theorem dX8_setting_2 : decode cX8_setting 2 = .ok (.invokestatic 188, 3) := by decide +kernel
theorem dX8_setting_5 : decode cX8_setting 5 = .ok (.ifCond .eq 7, 3) := by decide +kernel
theorem dX8_setting_8 : decode cX8_setting 8 = .ok (.iconst 0, 1) := by decide +kernel
theorem dX8_setting_9 : decode cX8_setting 9 = .ok (.goto 4, 3) := by decide +kernel
theorem dX8_setting_12 : decode cX8_setting 12 = .ok (.iconst 1, 1) := by decide +kernel
theorem dX8_setting_13 : decode cX8_setting 13 = .ok (.putfield 43, 3) := by decide +kernel
theorem dX8_setting_16 : decode cX8_setting 16 = .ok (.aload_n 0, 1) := by decide +kernel
theorem dX8_setting_17 : decode cX8_setting 17 = .ok (.getfield 43, 3) := by decide +kernel
theorem dX8_setting_20 : decode cX8_setting 20 = .ok (.ifCond .le 7, 3) := by decide +kernel
theorem dX8_setting_23 : decode cX8_setting 23 = .ok (.iconst 0, 1) := by decide +kernel
theorem dX8_setting_24 : decode cX8_setting 24 = .ok (.goto 9, 3) := by decide +kernel
theorem dX8_setting_27 : decode cX8_setting 27 = .ok (.aload_n 0, 1) := by decide +kernel
theorem dX8_setting_28 : decode cX8_setting 28 = .ok (.getfield 7, 3) := by decide +kernel
theorem dX8_setting_31 : decode cX8_setting 31 = .ok (.iload_n 1, 1) := by decide +kernel
theorem dX8_setting_32 : decode cX8_setting 32 = .ok (.iaload, 1) := by decide +kernel
theorem dX8_setting_33 : decode cX8_setting 33 = .ok (.ireturn, 1) := by decide +kernel
theorem dX8_pointThen_0 : decode cX8_pointThen 0 = .ok (.aload_n 0, 1) := by decide +kernel
theorem dX8_pointThen_1 : decode cX8_pointThen 1 = .ok (.invokevirtual 110, 3) := by decide +kernel
theorem dX8_pointThen_4 : decode cX8_pointThen 4 = .ok (.aload_n 0, 1) := by decide +kernel
theorem dX8_pointThen_5 : decode cX8_pointThen 5 = .ok (.getfield 19, 3) := by decide +kernel
theorem dX8_pointThen_8 : decode cX8_pointThen 8 = .ok (.aload_n 0, 1) := by decide +kernel
theorem dX8_pointThen_9 : decode cX8_pointThen 9 = .ok (.getfield 64, 3) := by decide +kernel
theorem dX8_pointThen_12 : decode cX8_pointThen 12 = .ok (.iload_n 1, 1) := by decide +kernel
theorem dX8_pointThen_13 : decode cX8_pointThen 13 = .ok (.iastore, 1) := by decide +kernel
theorem dX8_pointThen_14 : decode cX8_pointThen 14 = .ok (.aload_n 0, 1) := by decide +kernel
theorem dX8_pointThen_15 : decode cX8_pointThen 15 = .ok (.getfield 22, 3) := by decide +kernel
theorem dX8_pointThen_18 : decode cX8_pointThen 18 = .ok (.aload_n 0, 1) := by decide +kernel
theorem dX8_pointThen_19 : decode cX8_pointThen 19 = .ok (.getfield 64, 3) := by decide +kernel
theorem dX8_pointThen_22 : decode cX8_pointThen 22 = .ok (.iload_n 2, 1) := by decide +kernel
theorem dX8_pointThen_23 : decode cX8_pointThen 23 = .ok (.iastore, 1) := by decide +kernel
theorem dX8_pointThen_24 : decode cX8_pointThen 24 = .ok (.aload_n 0, 1) := by decide +kernel
theorem dX8_pointThen_25 : decode cX8_pointThen 25 = .ok (.dup, 1) := by decide +kernel
theorem dX8_pointThen_26 : decode cX8_pointThen 26 = .ok (.getfield 64, 3) := by decide +kernel
theorem dX8_pointThen_29 : decode cX8_pointThen 29 = .ok (.iconst 1, 1) := by decide +kernel
theorem dX8_pointThen_30 : decode cX8_pointThen 30 = .ok (.iadd, 1) := by decide +kernel
theorem dX8_pointThen_31 : decode cX8_pointThen 31 = .ok (.putfield 64, 3) := by decide +kernel
theorem dX8_pointThen_34 : decode cX8_pointThen 34 = .ok (.aload_n 0, 1) := by decide +kernel
theorem dX8_pointThen_35 : decode cX8_pointThen 35 = .ok (.invokevirtual 113, 3) := by decide +kernel
theorem dX8_pointThen_38 : decode cX8_pointThen 38 = .ok (.aload_n 0, 1) := by decide +kernel
theorem dX8_pointThen_39 : decode cX8_pointThen 39 = .ok (.invokevirtual 215, 3) := by decide +kernel
theorem dX8_pointThen_42 : decode cX8_pointThen 42 = .ok (.ireturn, 1) := by decide +kernel
theorem dX8_ifPoint_0 : decode cX8_ifPoint 0 = .ok (.aload_n 0, 1) := by decide +kernel
theorem dX8_ifPoint_1 : decode cX8_ifPoint 1 = .ok (.iload_n 1, 1) := by decide +kernel
theorem dX8_ifPoint_2 : decode cX8_ifPoint 2 = .ok (.iload_n 2, 1) := by decide +kernel
theorem dX8_ifPoint_3 : decode cX8_ifPoint 3 = .ok (.invokestatic 143, 3) := by decide +kernel
theorem dX8_ifPoint_6 : decode cX8_ifPoint 6 = .ok (.ifCond .eq 7, 3) := by decide +kernel
theorem dX8_ifPoint_9 : decode cX8_ifPoint 9 = .ok (.iconst 0, 1) := by decide +kernel
theorem dX8_ifPoint_10 : decode cX8_ifPoint 10 = .ok (.goto 4, 3) := by decide +kernel
theorem dX8_ifPoint_13 : decode cX8_ifPoint 13 = .ok (.iconst 1, 1) := by decide +kernel
theorem dX8_ifPoint_14 : decode cX8_ifPoint 14 = .ok (.putfield 43, 3) := by decide +kernel
theorem dX8_ifPoint_17 : decode cX8_ifPoint 17 = .ok (.aload_n 0, 1) := by decide +kernel
theorem dX8_ifPoint_18 : decode cX8_ifPoint 18 = .ok (.getfield 43, 3) := by decide +kernel
theorem dX8_ifPoint_21 : decode cX8_ifPoint 21 = .ok (.ifCond .le 7, 3) := by decide +kernel
theorem dX8_ifPoint_24 : decode cX8_ifPoint 24 = .ok (.iconst 0, 1) := by decide +kernel
theorem dX8_ifPoint_25 : decode cX8_ifPoint 25 = .ok (.goto 9, 3) := by decide +kernel
theorem dX8_ifPoint_28 : decode cX8_ifPoint 28 = .ok (.aload_n 0, 1) := by decide +kernel
theorem dX8_ifPoint_29 : decode cX8_ifPoint 29 = .ok (.iload_n 1, 1) := by decide +kernel
theorem dX8_ifPoint_30 : decode cX8_ifPoint 30 = .ok (.iload_n 2, 1) := by decide +kernel
theorem dX8_ifPoint_31 : decode cX8_ifPoint 31 = .ok (.invokevirtual 245, 3) := by decide +kernel
theorem dX8_ifPoint_34 : decode cX8_ifPoint 34 = .ok (.ireturn, 1) := by decide +kernel
theorem dX8_againstNow_0 : decode cX8_againstNow 0 = .ok (.aload_n 0, 1) := by decide +kernel
theorem dX8_againstNow_1 : decode cX8_againstNow 1 = .ok (.invokevirtual 172, 3) := by decide +kernel
theorem dX8_againstNow_4 : decode cX8_againstNow 4 = .ok (.aload_n 0, 1) := by decide +kernel
theorem dX8_againstNow_5 : decode cX8_againstNow 5 = .ok (.invokevirtual 169, 3) := by decide +kernel
theorem dX8_againstNow_8 : decode cX8_againstNow 8 = .ok (.ireturn, 1) := by decide +kernel
theorem dX8_against_0 : decode cX8_against 0 = .ok (.aload_n 0, 1) := by decide +kernel
theorem dX8_against_1 : decode cX8_against 1 = .ok (.iconst 0, 1) := by decide +kernel
theorem dX8_against_2 : decode cX8_against 2 = .ok (.putfield 43, 3) := by decide +kernel
theorem dX8_against_5 : decode cX8_against 5 = .ok (.aload_n 0, 1) := by decide +kernel
theorem dX8_against_6 : decode cX8_against 6 = .ok (.invokevirtual 248, 3) := by decide +kernel
theorem dX8_against_9 : decode cX8_against 9 = .ok (.ireturn, 1) := by decide +kernel
theorem dX8_mostNow_0 : decode cX8_mostNow 0 = .ok (.aload_n 0, 1) := by decide +kernel
theorem dX8_mostNow_1 : decode cX8_mostNow 1 = .ok (.invokevirtual 185, 3) := by decide +kernel
theorem dX8_mostNow_4 : decode cX8_mostNow 4 = .ok (.istore_n 1, 1) := by decide +kernel
theorem dX8_mostNow_5 : decode cX8_mostNow 5 = .ok (.iload_n 1, 1) := by decide +kernel
theorem dX8_mostNow_6 : decode cX8_mostNow 6 = .ok (.iconst 1, 1) := by decide +kernel
theorem dX8_mostNow_7 : decode cX8_mostNow 7 = .ok (.isub, 1) := by decide +kernel
theorem dX8_mostNow_8 : decode cX8_mostNow 8 = .ok (.iconst 2, 1) := by decide +kernel
theorem dX8_mostNow_9 : decode cX8_mostNow 9 = .ok (.idiv, 1) := by decide +kernel
theorem dX8_mostNow_10 : decode cX8_mostNow 10 = .ok (.istore_n 2, 1) := by decide +kernel
theorem dX8_mostNow_11 : decode cX8_mostNow 11 = .ok (.iload_n 1, 1) := by decide +kernel
theorem dX8_mostNow_12 : decode cX8_mostNow 12 = .ok (.iconst (-1), 1) := by decide +kernel
theorem dX8_mostNow_13 : decode cX8_mostNow 13 = .ok (.if_icmp .eq 9, 3) := by decide +kernel
theorem dX8_mostNow_16 : decode cX8_mostNow 16 = .ok (.iload_n 2, 1) := by decide +kernel
theorem dX8_mostNow_17 : decode cX8_mostNow 17 = .ok (.bipush 20, 2) := by decide +kernel
theorem dX8_mostNow_19 : decode cX8_mostNow 19 = .ok (.if_icmp .le 8, 3) := by decide +kernel
theorem dX8_mostNow_22 : decode cX8_mostNow 22 = .ok (.bipush 20, 2) := by decide +kernel
theorem dX8_mostNow_24 : decode cX8_mostNow 24 = .ok (.goto 4, 3) := by decide +kernel
theorem dX8_mostNow_27 : decode cX8_mostNow 27 = .ok (.iload_n 2, 1) := by decide +kernel
theorem dX8_mostNow_28 : decode cX8_mostNow 28 = .ok (.ireturn, 1) := by decide +kernel
theorem dX8_mostForgiven_0 : decode cX8_mostForgiven 0 = .ok (.aload_n 0, 1) := by decide +kernel
theorem dX8_mostForgiven_1 : decode cX8_mostForgiven 1 = .ok (.iconst 0, 1) := by decide +kernel
theorem dX8_mostForgiven_2 : decode cX8_mostForgiven 2 = .ok (.putfield 43, 3) := by decide +kernel
theorem dX8_mostForgiven_5 : decode cX8_mostForgiven 5 = .ok (.aload_n 0, 1) := by decide +kernel
theorem dX8_mostForgiven_6 : decode cX8_mostForgiven 6 = .ok (.invokevirtual 251, 3) := by decide +kernel
theorem dX8_mostForgiven_9 : decode cX8_mostForgiven 9 = .ok (.ireturn, 1) := by decide +kernel
theorem dX8_straightNow_0 : decode cX8_straightNow 0 = .ok (.aload_n 0, 1) := by decide +kernel
theorem dX8_straightNow_1 : decode cX8_straightNow 1 = .ok (.invokevirtual 233, 3) := by decide +kernel
theorem dX8_straightNow_4 : decode cX8_straightNow 4 = .ok (.istore_n 1, 1) := by decide +kernel
theorem dX8_straightNow_5 : decode cX8_straightNow 5 = .ok (.aload_n 0, 1) := by decide +kernel
theorem dX8_straightNow_6 : decode cX8_straightNow 6 = .ok (.getfield 64, 3) := by decide +kernel
theorem dX8_straightNow_9 : decode cX8_straightNow 9 = .ok (.iconst 1, 1) := by decide +kernel
theorem dX8_straightNow_10 : decode cX8_straightNow 10 = .ok (.isub, 1) := by decide +kernel
theorem dX8_straightNow_11 : decode cX8_straightNow 11 = .ok (.istore_n 2, 1) := by decide +kernel
theorem dX8_straightNow_12 : decode cX8_straightNow 12 = .ok (.iload_n 1, 1) := by decide +kernel
theorem dX8_straightNow_13 : decode cX8_straightNow 13 = .ok (.ifCond .ne 7, 3) := by decide +kernel
theorem dX8_straightNow_16 : decode cX8_straightNow 16 = .ok (.iconst 0, 1) := by decide +kernel
theorem dX8_straightNow_17 : decode cX8_straightNow 17 = .ok (.goto 38, 3) := by decide +kernel
theorem dX8_straightNow_20 : decode cX8_straightNow 20 = .ok (.aload_n 0, 1) := by decide +kernel
theorem dX8_straightNow_21 : decode cX8_straightNow 21 = .ok (.getfield 19, 3) := by decide +kernel
theorem dX8_straightNow_24 : decode cX8_straightNow 24 = .ok (.iload_n 2, 1) := by decide +kernel
theorem dX8_straightNow_25 : decode cX8_straightNow 25 = .ok (.iaload, 1) := by decide +kernel
theorem dX8_straightNow_26 : decode cX8_straightNow 26 = .ok (.aload_n 0, 1) := by decide +kernel
theorem dX8_straightNow_27 : decode cX8_straightNow 27 = .ok (.getfield 19, 3) := by decide +kernel
theorem dX8_straightNow_30 : decode cX8_straightNow 30 = .ok (.iconst 0, 1) := by decide +kernel
theorem dX8_straightNow_31 : decode cX8_straightNow 31 = .ok (.iaload, 1) := by decide +kernel
theorem dX8_straightNow_32 : decode cX8_straightNow 32 = .ok (.isub, 1) := by decide +kernel
theorem dX8_straightNow_33 : decode cX8_straightNow 33 = .ok (.invokestatic 58, 3) := by decide +kernel
theorem dX8_straightNow_36 : decode cX8_straightNow 36 = .ok (.aload_n 0, 1) := by decide +kernel
theorem dX8_straightNow_37 : decode cX8_straightNow 37 = .ok (.getfield 22, 3) := by decide +kernel
theorem dX8_straightNow_40 : decode cX8_straightNow 40 = .ok (.iload_n 2, 1) := by decide +kernel
theorem dX8_straightNow_41 : decode cX8_straightNow 41 = .ok (.iaload, 1) := by decide +kernel
theorem dX8_straightNow_42 : decode cX8_straightNow 42 = .ok (.aload_n 0, 1) := by decide +kernel
theorem dX8_straightNow_43 : decode cX8_straightNow 43 = .ok (.getfield 22, 3) := by decide +kernel
theorem dX8_straightNow_46 : decode cX8_straightNow 46 = .ok (.iconst 0, 1) := by decide +kernel
theorem dX8_straightNow_47 : decode cX8_straightNow 47 = .ok (.iaload, 1) := by decide +kernel
theorem dX8_straightNow_48 : decode cX8_straightNow 48 = .ok (.isub, 1) := by decide +kernel
theorem dX8_straightNow_49 : decode cX8_straightNow 49 = .ok (.invokestatic 58, 3) := by decide +kernel
theorem dX8_straightNow_52 : decode cX8_straightNow 52 = .ok (.invokestatic 71, 3) := by decide +kernel
theorem dX8_straightNow_55 : decode cX8_straightNow 55 = .ok (.istore_n 3, 1) := by decide +kernel
theorem dX8_straightNow_56 : decode cX8_straightNow 56 = .ok (.iload_n 1, 1) := by decide +kernel
theorem dX8_straightNow_57 : decode cX8_straightNow 57 = .ok (.ifCond .ne 7, 3) := by decide +kernel
theorem dX8_straightNow_60 : decode cX8_straightNow 60 = .ok (.fconst 1, 1) := by decide +kernel
theorem dX8_straightNow_61 : decode cX8_straightNow 61 = .ok (.goto 8, 3) := by decide +kernel
theorem dX8_straightNow_64 : decode cX8_straightNow 64 = .ok (.iload_n 3, 1) := by decide +kernel
theorem dX8_straightNow_65 : decode cX8_straightNow 65 = .ok (.i2f, 1) := by decide +kernel
theorem dX8_straightNow_66 : decode cX8_straightNow 66 = .ok (.iload_n 1, 1) := by decide +kernel
theorem dX8_straightNow_67 : decode cX8_straightNow 67 = .ok (.i2f, 1) := by decide +kernel
theorem dX8_straightNow_68 : decode cX8_straightNow 68 = .ok (.fdiv, 1) := by decide +kernel
theorem dX8_straightNow_69 : decode cX8_straightNow 69 = .ok (.invokestatic 254, 3) := by decide +kernel
theorem dX8_straightNow_72 : decode cX8_straightNow 72 = .ok (.ireturn, 1) := by decide +kernel
theorem dX8_straightness_0 : decode cX8_straightness 0 = .ok (.aload_n 0, 1) := by decide +kernel
theorem dX8_straightness_1 : decode cX8_straightness 1 = .ok (.iconst 0, 1) := by decide +kernel
theorem dX8_straightness_2 : decode cX8_straightness 2 = .ok (.putfield 43, 3) := by decide +kernel
theorem dX8_straightness_5 : decode cX8_straightness 5 = .ok (.aload_n 0, 1) := by decide +kernel
theorem dX8_straightness_6 : decode cX8_straightness 6 = .ok (.invokevirtual 260, 3) := by decide +kernel
theorem dX8_straightness_9 : decode cX8_straightness 9 = .ok (.ireturn, 1) := by decide +kernel
theorem dX8_doubtNow_0 : decode cX8_doubtNow 0 = .ok (.aload_n 0, 1) := by decide +kernel
theorem dX8_doubtNow_1 : decode cX8_doubtNow 1 = .ok (.invokevirtual 172, 3) := by decide +kernel
theorem dX8_doubtNow_4 : decode cX8_doubtNow 4 = .ok (.aload_n 0, 1) := by decide +kernel
theorem dX8_doubtNow_5 : decode cX8_doubtNow 5 = .ok (.iconst (-1), 1) := by decide +kernel
theorem dX8_doubtNow_6 : decode cX8_doubtNow 6 = .ok (.invokevirtual 134, 3) := by decide +kernel
theorem dX8_doubtNow_9 : decode cX8_doubtNow 9 = .ok (.istore_n 1, 1) := by decide +kernel
theorem dX8_doubtNow_10 : decode cX8_doubtNow 10 = .ok (.aload_n 0, 1) := by decide +kernel
theorem dX8_doubtNow_11 : decode cX8_doubtNow 11 = .ok (.iload_n 1, 1) := by decide +kernel
theorem dX8_doubtNow_12 : decode cX8_doubtNow 12 = .ok (.invokevirtual 134, 3) := by decide +kernel
theorem dX8_doubtNow_15 : decode cX8_doubtNow 15 = .ok (.istore_n 2, 1) := by decide +kernel
theorem dX8_doubtNow_16 : decode cX8_doubtNow 16 = .ok (.iload_n 1, 1) := by decide +kernel
theorem dX8_doubtNow_17 : decode cX8_doubtNow 17 = .ok (.iconst (-1), 1) := by decide +kernel
theorem dX8_doubtNow_18 : decode cX8_doubtNow 18 = .ok (.if_icmp .eq 8, 3) := by decide +kernel
theorem dX8_doubtNow_21 : decode cX8_doubtNow 21 = .ok (.iload_n 2, 1) := by decide +kernel
theorem dX8_doubtNow_22 : decode cX8_doubtNow 22 = .ok (.iconst (-1), 1) := by decide +kernel
theorem dX8_doubtNow_23 : decode cX8_doubtNow 23 = .ok (.if_icmp .ne 5, 3) := by decide +kernel
theorem dX8_doubtNow_26 : decode cX8_doubtNow 26 = .ok (.dconst 0, 1) := by decide +kernel
theorem dX8_doubtNow_27 : decode cX8_doubtNow 27 = .ok (.dreturn, 1) := by decide +kernel
theorem dX8_doubtNow_28 : decode cX8_doubtNow 28 = .ok (.aload_n 0, 1) := by decide +kernel
theorem dX8_doubtNow_29 : decode cX8_doubtNow 29 = .ok (.iload_n 2, 1) := by decide +kernel
theorem dX8_doubtNow_30 : decode cX8_doubtNow 30 = .ok (.invokevirtual 128, 3) := by decide +kernel
theorem dX8_doubtNow_33 : decode cX8_doubtNow 33 = .ok (.istore_n 3, 1) := by decide +kernel
theorem dX8_doubtNow_34 : decode cX8_doubtNow 34 = .ok (.iload_n 3, 1) := by decide +kernel
theorem dX8_doubtNow_35 : decode cX8_doubtNow 35 = .ok (.ifCond .ne 7, 3) := by decide +kernel
theorem dX8_doubtNow_38 : decode cX8_doubtNow 38 = .ok (.dconst 0, 1) := by decide +kernel
theorem dX8_doubtNow_39 : decode cX8_doubtNow 39 = .ok (.goto 12, 3) := by decide +kernel
theorem dX8_doubtNow_42 : decode cX8_doubtNow 42 = .ok (.aload_n 0, 1) := by decide +kernel
theorem dX8_doubtNow_43 : decode cX8_doubtNow 43 = .ok (.iload_n 1, 1) := by decide +kernel
theorem dX8_doubtNow_44 : decode cX8_doubtNow 44 = .ok (.invokevirtual 128, 3) := by decide +kernel
theorem dX8_doubtNow_47 : decode cX8_doubtNow 47 = .ok (.i2d, 1) := by decide +kernel
theorem dX8_doubtNow_48 : decode cX8_doubtNow 48 = .ok (.iload_n 3, 1) := by decide +kernel
theorem dX8_doubtNow_49 : decode cX8_doubtNow 49 = .ok (.i2d, 1) := by decide +kernel
theorem dX8_doubtNow_50 : decode cX8_doubtNow 50 = .ok (.ddiv, 1) := by decide +kernel
theorem dX8_doubtNow_51 : decode cX8_doubtNow 51 = .ok (.dreturn, 1) := by decide +kernel
theorem dX8_doubt_0 : decode cX8_doubt 0 = .ok (.aload_n 0, 1) := by decide +kernel
theorem dX8_doubt_1 : decode cX8_doubt 1 = .ok (.iconst 0, 1) := by decide +kernel
theorem dX8_doubt_2 : decode cX8_doubt 2 = .ok (.putfield 43, 3) := by decide +kernel
theorem dX8_doubt_5 : decode cX8_doubt 5 = .ok (.aload_n 0, 1) := by decide +kernel
theorem dX8_doubt_6 : decode cX8_doubt 6 = .ok (.invokevirtual 263, 3) := by decide +kernel
theorem dX8_doubt_9 : decode cX8_doubt 9 = .ok (.dreturn, 1) := by decide +kernel
theorem dX8_mix_0 : decode cX8_mix 0 = .ok (.aload_n 0, 1) := by decide +kernel
theorem dX8_mix_1 : decode cX8_mix 1 = .ok (.ldc2_w 267, 3) := by decide +kernel
theorem dX8_mix_4 : decode cX8_mix 4 = .ok (.aload_n 0, 1) := by decide +kernel
theorem dX8_mix_5 : decode cX8_mix 5 = .ok (.getfield 269, 3) := by decide +kernel
theorem dX8_mix_8 : decode cX8_mix 8 = .ok (.lmul, 1) := by decide +kernel
theorem dX8_mix_9 : decode cX8_mix 9 = .ok (.lload_n 1, 1) := by decide +kernel
theorem dX8_mix_10 : decode cX8_mix 10 = .ok (.ladd, 1) := by decide +kernel
theorem dX8_mix_11 : decode cX8_mix 11 = .ok (.putfield 269, 3) := by decide +kernel
theorem dX8_mix_14 : decode cX8_mix 14 = .ok (.return_, 1) := by decide +kernel
theorem dX8_mixPath_0 : decode cX8_mixPath 0 = .ok (.iconst 0, 1) := by decide +kernel
theorem dX8_mixPath_1 : decode cX8_mixPath 1 = .ok (.istore_n 1, 1) := by decide +kernel
theorem dX8_mixPath_2 : decode cX8_mixPath 2 = .ok (.iload_n 1, 1) := by decide +kernel
theorem dX8_mixPath_3 : decode cX8_mixPath 3 = .ok (.iconst 4, 1) := by decide +kernel
theorem dX8_mixPath_4 : decode cX8_mixPath 4 = .ok (.aload_n 0, 1) := by decide +kernel
theorem dX8_mixPath_5 : decode cX8_mixPath 5 = .ok (.getfield 7, 3) := by decide +kernel
theorem dX8_mixPath_8 : decode cX8_mixPath 8 = .ok (.iconst 5, 1) := by decide +kernel
theorem dX8_mixPath_9 : decode cX8_mixPath 9 = .ok (.iaload, 1) := by decide +kernel
theorem dX8_mixPath_10 : decode cX8_mixPath 10 = .ok (.imul, 1) := by decide +kernel
theorem dX8_mixPath_11 : decode cX8_mixPath 11 = .ok (.if_icmp .ge 24, 3) := by decide +kernel
theorem dX8_mixPath_14 : decode cX8_mixPath 14 = .ok (.aload_n 0, 1) := by decide +kernel
theorem dX8_mixPath_15 : decode cX8_mixPath 15 = .ok (.aload_n 0, 1) := by decide +kernel
theorem dX8_mixPath_16 : decode cX8_mixPath 16 = .ok (.iload_n 1, 1) := by decide +kernel
theorem dX8_mixPath_17 : decode cX8_mixPath 17 = .ok (.iconst 4, 1) := by decide +kernel
theorem dX8_mixPath_18 : decode cX8_mixPath 18 = .ok (.idiv, 1) := by decide +kernel
theorem dX8_mixPath_19 : decode cX8_mixPath 19 = .ok (.iload_n 1, 1) := by decide +kernel
theorem dX8_mixPath_20 : decode cX8_mixPath 20 = .ok (.iconst 4, 1) := by decide +kernel
theorem dX8_mixPath_21 : decode cX8_mixPath 21 = .ok (.irem, 1) := by decide +kernel
theorem dX8_mixPath_22 : decode cX8_mixPath 22 = .ok (.invokevirtual 203, 3) := by decide +kernel
theorem dX8_mixPath_25 : decode cX8_mixPath 25 = .ok (.i2l, 1) := by decide +kernel
theorem dX8_mixPath_26 : decode cX8_mixPath 26 = .ok (.invokevirtual 273, 3) := by decide +kernel
theorem dX8_mixPath_29 : decode cX8_mixPath 29 = .ok (.iinc 1 1, 3) := by decide +kernel
theorem dX8_mixPath_32 : decode cX8_mixPath 32 = .ok (.goto (-30), 3) := by decide +kernel
theorem dX8_mixPath_35 : decode cX8_mixPath 35 = .ok (.aload_n 0, 1) := by decide +kernel
theorem dX8_mixPath_36 : decode cX8_mixPath 36 = .ok (.invokevirtual 227, 3) := by decide +kernel
theorem dX8_mixPath_39 : decode cX8_mixPath 39 = .ok (.istore_n 1, 1) := by decide +kernel
theorem dX8_mixPath_40 : decode cX8_mixPath 40 = .ok (.iconst 0, 1) := by decide +kernel
theorem dX8_mixPath_41 : decode cX8_mixPath 41 = .ok (.istore_n 2, 1) := by decide +kernel
theorem dX8_mixPath_42 : decode cX8_mixPath 42 = .ok (.iload_n 2, 1) := by decide +kernel
theorem dX8_mixPath_43 : decode cX8_mixPath 43 = .ok (.iconst 4, 1) := by decide +kernel
theorem dX8_mixPath_44 : decode cX8_mixPath 44 = .ok (.iload_n 1, 1) := by decide +kernel
theorem dX8_mixPath_45 : decode cX8_mixPath 45 = .ok (.imul, 1) := by decide +kernel
theorem dX8_mixPath_46 : decode cX8_mixPath 46 = .ok (.if_icmp .ge 24, 3) := by decide +kernel
theorem dX8_mixPath_49 : decode cX8_mixPath 49 = .ok (.aload_n 0, 1) := by decide +kernel
theorem dX8_mixPath_50 : decode cX8_mixPath 50 = .ok (.aload_n 0, 1) := by decide +kernel
theorem dX8_mixPath_51 : decode cX8_mixPath 51 = .ok (.iload_n 2, 1) := by decide +kernel
theorem dX8_mixPath_52 : decode cX8_mixPath 52 = .ok (.iconst 4, 1) := by decide +kernel
theorem dX8_mixPath_53 : decode cX8_mixPath 53 = .ok (.idiv, 1) := by decide +kernel
theorem dX8_mixPath_54 : decode cX8_mixPath 54 = .ok (.iload_n 2, 1) := by decide +kernel
theorem dX8_mixPath_55 : decode cX8_mixPath 55 = .ok (.iconst 4, 1) := by decide +kernel
theorem dX8_mixPath_56 : decode cX8_mixPath 56 = .ok (.irem, 1) := by decide +kernel
theorem dX8_mixPath_57 : decode cX8_mixPath 57 = .ok (.invokevirtual 206, 3) := by decide +kernel
theorem dX8_mixPath_60 : decode cX8_mixPath 60 = .ok (.i2l, 1) := by decide +kernel
theorem dX8_mixPath_61 : decode cX8_mixPath 61 = .ok (.invokevirtual 273, 3) := by decide +kernel
theorem dX8_mixPath_64 : decode cX8_mixPath 64 = .ok (.iinc 2 1, 3) := by decide +kernel
theorem dX8_mixPath_67 : decode cX8_mixPath 67 = .ok (.goto (-25), 3) := by decide +kernel
theorem dX8_mixPath_70 : decode cX8_mixPath 70 = .ok (.aload_n 0, 1) := by decide +kernel
theorem dX8_mixPath_71 : decode cX8_mixPath 71 = .ok (.invokevirtual 230, 3) := by decide +kernel
theorem dX8_mixPath_74 : decode cX8_mixPath 74 = .ok (.istore_n 2, 1) := by decide +kernel
theorem dX8_mixPath_75 : decode cX8_mixPath 75 = .ok (.iconst 0, 1) := by decide +kernel
theorem dX8_mixPath_76 : decode cX8_mixPath 76 = .ok (.istore_n 3, 1) := by decide +kernel
theorem dX8_mixPath_77 : decode cX8_mixPath 77 = .ok (.iload_n 3, 1) := by decide +kernel
theorem dX8_mixPath_78 : decode cX8_mixPath 78 = .ok (.iload_n 2, 1) := by decide +kernel
theorem dX8_mixPath_79 : decode cX8_mixPath 79 = .ok (.if_icmp .ge 19, 3) := by decide +kernel
theorem dX8_mixPath_82 : decode cX8_mixPath 82 = .ok (.aload_n 0, 1) := by decide +kernel
theorem dX8_mixPath_83 : decode cX8_mixPath 83 = .ok (.aload_n 0, 1) := by decide +kernel
theorem dX8_mixPath_84 : decode cX8_mixPath 84 = .ok (.iload_n 3, 1) := by decide +kernel
theorem dX8_mixPath_85 : decode cX8_mixPath 85 = .ok (.invokevirtual 209, 3) := by decide +kernel
theorem dX8_mixPath_88 : decode cX8_mixPath 88 = .ok (.i2l, 1) := by decide +kernel
theorem dX8_mixPath_89 : decode cX8_mixPath 89 = .ok (.invokevirtual 273, 3) := by decide +kernel
theorem dX8_mixPath_92 : decode cX8_mixPath 92 = .ok (.iinc 3 1, 3) := by decide +kernel
theorem dX8_mixPath_95 : decode cX8_mixPath 95 = .ok (.goto (-18), 3) := by decide +kernel
theorem dX8_mixPath_98 : decode cX8_mixPath 98 = .ok (.return_, 1) := by decide +kernel
theorem dX8_mixCommand_0 : decode cX8_mixCommand 0 = .ok (.iconst 0, 1) := by decide +kernel
theorem dX8_mixCommand_1 : decode cX8_mixCommand 1 = .ok (.istore_n 2, 1) := by decide +kernel
theorem dX8_mixCommand_2 : decode cX8_mixCommand 2 = .ok (.iload_n 2, 1) := by decide +kernel
theorem dX8_mixCommand_3 : decode cX8_mixCommand 3 = .ok (.aload_n 0, 1) := by decide +kernel
theorem dX8_mixCommand_4 : decode cX8_mixCommand 4 = .ok (.iload_n 1, 1) := by decide +kernel
theorem dX8_mixCommand_5 : decode cX8_mixCommand 5 = .ok (.invokevirtual 116, 3) := by decide +kernel
theorem dX8_mixCommand_8 : decode cX8_mixCommand 8 = .ok (.if_icmp .ge 20, 3) := by decide +kernel
theorem dX8_mixCommand_11 : decode cX8_mixCommand 11 = .ok (.aload_n 0, 1) := by decide +kernel
theorem dX8_mixCommand_12 : decode cX8_mixCommand 12 = .ok (.aload_n 0, 1) := by decide +kernel
theorem dX8_mixCommand_13 : decode cX8_mixCommand 13 = .ok (.iload_n 1, 1) := by decide +kernel
theorem dX8_mixCommand_14 : decode cX8_mixCommand 14 = .ok (.iload_n 2, 1) := by decide +kernel
theorem dX8_mixCommand_15 : decode cX8_mixCommand 15 = .ok (.invokevirtual 119, 3) := by decide +kernel
theorem dX8_mixCommand_18 : decode cX8_mixCommand 18 = .ok (.i2l, 1) := by decide +kernel
theorem dX8_mixCommand_19 : decode cX8_mixCommand 19 = .ok (.invokevirtual 273, 3) := by decide +kernel
theorem dX8_mixCommand_22 : decode cX8_mixCommand 22 = .ok (.iinc 2 1, 3) := by decide +kernel
theorem dX8_mixCommand_25 : decode cX8_mixCommand 25 = .ok (.goto (-23), 3) := by decide +kernel
theorem dX8_mixCommand_28 : decode cX8_mixCommand 28 = .ok (.aload_n 0, 1) := by decide +kernel
theorem dX8_mixCommand_29 : decode cX8_mixCommand 29 = .ok (.aload_n 0, 1) := by decide +kernel
theorem dX8_mixCommand_30 : decode cX8_mixCommand 30 = .ok (.iload_n 1, 1) := by decide +kernel
theorem dX8_mixCommand_31 : decode cX8_mixCommand 31 = .ok (.invokevirtual 212, 3) := by decide +kernel
theorem dX8_mixCommand_34 : decode cX8_mixCommand 34 = .ok (.i2l, 1) := by decide +kernel
theorem dX8_mixCommand_35 : decode cX8_mixCommand 35 = .ok (.invokevirtual 273, 3) := by decide +kernel
theorem dX8_mixCommand_38 : decode cX8_mixCommand 38 = .ok (.aload_n 0, 1) := by decide +kernel
theorem dX8_mixCommand_39 : decode cX8_mixCommand 39 = .ok (.aload_n 0, 1) := by decide +kernel
theorem dX8_mixCommand_40 : decode cX8_mixCommand 40 = .ok (.iload_n 1, 1) := by decide +kernel
theorem dX8_mixCommand_41 : decode cX8_mixCommand 41 = .ok (.iconst 0, 1) := by decide +kernel
theorem dX8_mixCommand_42 : decode cX8_mixCommand 42 = .ok (.invokevirtual 131, 3) := by decide +kernel
theorem dX8_mixCommand_45 : decode cX8_mixCommand 45 = .ok (.i2l, 1) := by decide +kernel
theorem dX8_mixCommand_46 : decode cX8_mixCommand 46 = .ok (.invokevirtual 273, 3) := by decide +kernel
theorem dX8_mixCommand_49 : decode cX8_mixCommand 49 = .ok (.return_, 1) := by decide +kernel
theorem dX8_digest_0 : decode cX8_digest 0 = .ok (.aload_n 0, 1) := by decide +kernel
theorem dX8_digest_1 : decode cX8_digest 1 = .ok (.iconst 0, 1) := by decide +kernel
theorem dX8_digest_2 : decode cX8_digest 2 = .ok (.putfield 43, 3) := by decide +kernel
theorem dX8_digest_5 : decode cX8_digest 5 = .ok (.aload_n 0, 1) := by decide +kernel
theorem dX8_digest_6 : decode cX8_digest 6 = .ok (.ldc2_w 277, 3) := by decide +kernel
theorem dX8_digest_9 : decode cX8_digest 9 = .ok (.putfield 269, 3) := by decide +kernel
theorem dX8_digest_12 : decode cX8_digest 12 = .ok (.iconst 0, 1) := by decide +kernel
theorem dX8_digest_13 : decode cX8_digest 13 = .ok (.istore_n 1, 1) := by decide +kernel
theorem dX8_digest_14 : decode cX8_digest 14 = .ok (.iload_n 1, 1) := by decide +kernel
theorem dX8_digest_15 : decode cX8_digest 15 = .ok (.bipush 9, 2) := by decide +kernel
theorem dX8_digest_17 : decode cX8_digest 17 = .ok (.if_icmp .ge 19, 3) := by decide +kernel
theorem dX8_digest_20 : decode cX8_digest 20 = .ok (.aload_n 0, 1) := by decide +kernel
theorem dX8_digest_21 : decode cX8_digest 21 = .ok (.aload_n 0, 1) := by decide +kernel
theorem dX8_digest_22 : decode cX8_digest 22 = .ok (.iload_n 1, 1) := by decide +kernel
theorem dX8_digest_23 : decode cX8_digest 23 = .ok (.invokevirtual 242, 3) := by decide +kernel
theorem dX8_digest_26 : decode cX8_digest 26 = .ok (.i2l, 1) := by decide +kernel
theorem dX8_digest_27 : decode cX8_digest 27 = .ok (.invokevirtual 273, 3) := by decide +kernel
theorem dX8_digest_30 : decode cX8_digest 30 = .ok (.iinc 1 1, 3) := by decide +kernel
theorem dX8_digest_33 : decode cX8_digest 33 = .ok (.goto (-19), 3) := by decide +kernel
theorem dX8_digest_36 : decode cX8_digest 36 = .ok (.iconst 0, 1) := by decide +kernel
theorem dX8_digest_37 : decode cX8_digest 37 = .ok (.istore_n 1, 1) := by decide +kernel
theorem dX8_digest_38 : decode cX8_digest 38 = .ok (.iload_n 1, 1) := by decide +kernel
theorem dX8_digest_39 : decode cX8_digest 39 = .ok (.iconst 5, 1) := by decide +kernel
theorem dX8_digest_40 : decode cX8_digest 40 = .ok (.if_icmp .ge 20, 3) := by decide +kernel
theorem dX8_digest_43 : decode cX8_digest 43 = .ok (.aload_n 0, 1) := by decide +kernel
theorem dX8_digest_44 : decode cX8_digest 44 = .ok (.aload_n 0, 1) := by decide +kernel
theorem dX8_digest_45 : decode cX8_digest 45 = .ok (.getfield 7, 3) := by decide +kernel
theorem dX8_digest_48 : decode cX8_digest 48 = .ok (.iload_n 1, 1) := by decide +kernel
theorem dX8_digest_49 : decode cX8_digest 49 = .ok (.iaload, 1) := by decide +kernel
theorem dX8_digest_50 : decode cX8_digest 50 = .ok (.i2l, 1) := by decide +kernel
theorem dX8_digest_51 : decode cX8_digest 51 = .ok (.invokevirtual 273, 3) := by decide +kernel
theorem dX8_digest_54 : decode cX8_digest 54 = .ok (.iinc 1 1, 3) := by decide +kernel
theorem dX8_digest_57 : decode cX8_digest 57 = .ok (.goto (-19), 3) := by decide +kernel
theorem dX8_digest_60 : decode cX8_digest 60 = .ok (.aload_n 0, 1) := by decide +kernel
theorem dX8_digest_61 : decode cX8_digest 61 = .ok (.invokevirtual 279, 3) := by decide +kernel
theorem dX8_digest_64 : decode cX8_digest 64 = .ok (.iconst 0, 1) := by decide +kernel
theorem dX8_digest_65 : decode cX8_digest 65 = .ok (.istore_n 1, 1) := by decide +kernel
theorem dX8_digest_66 : decode cX8_digest 66 = .ok (.iload_n 1, 1) := by decide +kernel
theorem dX8_digest_67 : decode cX8_digest 67 = .ok (.aload_n 0, 1) := by decide +kernel
theorem dX8_digest_68 : decode cX8_digest 68 = .ok (.getfield 7, 3) := by decide +kernel
theorem dX8_digest_71 : decode cX8_digest 71 = .ok (.bipush 6, 2) := by decide +kernel
theorem dX8_digest_73 : decode cX8_digest 73 = .ok (.iaload, 1) := by decide +kernel
theorem dX8_digest_74 : decode cX8_digest 74 = .ok (.if_icmp .ge 14, 3) := by decide +kernel
theorem dX8_digest_77 : decode cX8_digest 77 = .ok (.aload_n 0, 1) := by decide +kernel
theorem dX8_digest_78 : decode cX8_digest 78 = .ok (.iload_n 1, 1) := by decide +kernel
theorem dX8_digest_79 : decode cX8_digest 79 = .ok (.invokevirtual 282, 3) := by decide +kernel
theorem dX8_digest_82 : decode cX8_digest 82 = .ok (.iinc 1 1, 3) := by decide +kernel
theorem dX8_digest_85 : decode cX8_digest 85 = .ok (.goto (-19), 3) := by decide +kernel
theorem dX8_digest_88 : decode cX8_digest 88 = .ok (.iconst 0, 1) := by decide +kernel
theorem dX8_digest_89 : decode cX8_digest 89 = .ok (.istore_n 1, 1) := by decide +kernel
theorem dX8_digest_90 : decode cX8_digest 90 = .ok (.iload_n 1, 1) := by decide +kernel
theorem dX8_digest_91 : decode cX8_digest 91 = .ok (.iconst 5, 1) := by decide +kernel
theorem dX8_digest_92 : decode cX8_digest 92 = .ok (.if_icmp .ge 19, 3) := by decide +kernel
theorem dX8_digest_95 : decode cX8_digest 95 = .ok (.aload_n 0, 1) := by decide +kernel
theorem dX8_digest_96 : decode cX8_digest 96 = .ok (.aload_n 0, 1) := by decide +kernel
theorem dX8_digest_97 : decode cX8_digest 97 = .ok (.iload_n 1, 1) := by decide +kernel
theorem dX8_digest_98 : decode cX8_digest 98 = .ok (.invokevirtual 224, 3) := by decide +kernel
theorem dX8_digest_101 : decode cX8_digest 101 = .ok (.i2l, 1) := by decide +kernel
theorem dX8_digest_102 : decode cX8_digest 102 = .ok (.invokevirtual 273, 3) := by decide +kernel
theorem dX8_digest_105 : decode cX8_digest 105 = .ok (.iinc 1 1, 3) := by decide +kernel
theorem dX8_digest_108 : decode cX8_digest 108 = .ok (.goto (-18), 3) := by decide +kernel
theorem dX8_digest_111 : decode cX8_digest 111 = .ok (.aload_n 0, 1) := by decide +kernel
theorem dX8_digest_112 : decode cX8_digest 112 = .ok (.aload_n 0, 1) := by decide +kernel
theorem dX8_digest_113 : decode cX8_digest 113 = .ok (.bipush 31, 2) := by decide +kernel
theorem dX8_digest_115 : decode cX8_digest 115 = .ok (.iconst 0, 1) := by decide +kernel
theorem dX8_digest_116 : decode cX8_digest 116 = .ok (.invokevirtual 245, 3) := by decide +kernel
theorem dX8_digest_119 : decode cX8_digest 119 = .ok (.i2l, 1) := by decide +kernel
theorem dX8_digest_120 : decode cX8_digest 120 = .ok (.invokevirtual 273, 3) := by decide +kernel
theorem dX8_digest_123 : decode cX8_digest 123 = .ok (.aload_n 0, 1) := by decide +kernel
theorem dX8_digest_124 : decode cX8_digest 124 = .ok (.aload_n 0, 1) := by decide +kernel
theorem dX8_digest_125 : decode cX8_digest 125 = .ok (.invokevirtual 248, 3) := by decide +kernel
theorem dX8_digest_128 : decode cX8_digest 128 = .ok (.i2l, 1) := by decide +kernel
theorem dX8_digest_129 : decode cX8_digest 129 = .ok (.invokevirtual 273, 3) := by decide +kernel
theorem dX8_digest_132 : decode cX8_digest 132 = .ok (.aload_n 0, 1) := by decide +kernel
theorem dX8_digest_133 : decode cX8_digest 133 = .ok (.aload_n 0, 1) := by decide +kernel
theorem dX8_digest_134 : decode cX8_digest 134 = .ok (.invokevirtual 251, 3) := by decide +kernel
theorem dX8_digest_137 : decode cX8_digest 137 = .ok (.i2l, 1) := by decide +kernel
theorem dX8_digest_138 : decode cX8_digest 138 = .ok (.invokevirtual 273, 3) := by decide +kernel
theorem dX8_digest_141 : decode cX8_digest 141 = .ok (.aload_n 0, 1) := by decide +kernel
theorem dX8_digest_142 : decode cX8_digest 142 = .ok (.aload_n 0, 1) := by decide +kernel
theorem dX8_digest_143 : decode cX8_digest 143 = .ok (.invokevirtual 260, 3) := by decide +kernel
theorem dX8_digest_146 : decode cX8_digest 146 = .ok (.i2l, 1) := by decide +kernel
theorem dX8_digest_147 : decode cX8_digest 147 = .ok (.invokevirtual 273, 3) := by decide +kernel
theorem dX8_digest_150 : decode cX8_digest 150 = .ok (.aload_n 0, 1) := by decide +kernel
theorem dX8_digest_151 : decode cX8_digest 151 = .ok (.aload_n 0, 1) := by decide +kernel
theorem dX8_digest_152 : decode cX8_digest 152 = .ok (.invokevirtual 263, 3) := by decide +kernel
theorem dX8_digest_155 : decode cX8_digest 155 = .ok (.invokestatic 285, 3) := by decide +kernel
theorem dX8_digest_158 : decode cX8_digest 158 = .ok (.invokevirtual 273, 3) := by decide +kernel
theorem dX8_digest_161 : decode cX8_digest 161 = .ok (.aload_n 0, 1) := by decide +kernel
theorem dX8_digest_162 : decode cX8_digest 162 = .ok (.aload_n 0, 1) := by decide +kernel
theorem dX8_digest_163 : decode cX8_digest 163 = .ok (.getfield 197, 3) := by decide +kernel
theorem dX8_digest_166 : decode cX8_digest 166 = .ok (.i2l, 1) := by decide +kernel
theorem dX8_digest_167 : decode cX8_digest 167 = .ok (.invokevirtual 273, 3) := by decide +kernel
theorem dX8_digest_170 : decode cX8_digest 170 = .ok (.iconst 0, 1) := by decide +kernel
theorem dX8_digest_171 : decode cX8_digest 171 = .ok (.istore_n 1, 1) := by decide +kernel
theorem dX8_digest_172 : decode cX8_digest 172 = .ok (.iload_n 1, 1) := by decide +kernel
theorem dX8_digest_173 : decode cX8_digest 173 = .ok (.aload_n 0, 1) := by decide +kernel
theorem dX8_digest_174 : decode cX8_digest 174 = .ok (.getfield 197, 3) := by decide +kernel
theorem dX8_digest_177 : decode cX8_digest 177 = .ok (.if_icmp .ge 20, 3) := by decide +kernel
theorem dX8_digest_180 : decode cX8_digest 180 = .ok (.aload_n 0, 1) := by decide +kernel
theorem dX8_digest_181 : decode cX8_digest 181 = .ok (.aload_n 0, 1) := by decide +kernel
theorem dX8_digest_182 : decode cX8_digest 182 = .ok (.getfield 16, 3) := by decide +kernel
theorem dX8_digest_185 : decode cX8_digest 185 = .ok (.iload_n 1, 1) := by decide +kernel
theorem dX8_digest_186 : decode cX8_digest 186 = .ok (.iaload, 1) := by decide +kernel
theorem dX8_digest_187 : decode cX8_digest 187 = .ok (.i2l, 1) := by decide +kernel
theorem dX8_digest_188 : decode cX8_digest 188 = .ok (.invokevirtual 273, 3) := by decide +kernel
theorem dX8_digest_191 : decode cX8_digest 191 = .ok (.iinc 1 1, 3) := by decide +kernel
theorem dX8_digest_194 : decode cX8_digest 194 = .ok (.goto (-22), 3) := by decide +kernel
theorem dX8_digest_197 : decode cX8_digest 197 = .ok (.aload_n 0, 1) := by decide +kernel
theorem dX8_digest_198 : decode cX8_digest 198 = .ok (.getfield 269, 3) := by decide +kernel
theorem dX8_digest_201 : decode cX8_digest 201 = .ok (.lreturn, 1) := by decide +kernel
theorem dJxe99ae_isNaN_b9ae7_0 : decode cJxe99ae_isNaN_b9ae7 0 = .ok (.dload_n 0, 1) := by decide +kernel
theorem dJxe99ae_isNaN_b9ae7_1 : decode cJxe99ae_isNaN_b9ae7 1 = .ok (.dload_n 0, 1) := by decide +kernel
theorem dJxe99ae_isNaN_b9ae7_2 : decode cJxe99ae_isNaN_b9ae7 2 = .ok (.dcmp .l, 1) := by decide +kernel
theorem dJxe99ae_isNaN_b9ae7_3 : decode cJxe99ae_isNaN_b9ae7 3 = .ok (.ifCond .eq 7, 3) := by decide +kernel
theorem dJxe99ae_isNaN_b9ae7_6 : decode cJxe99ae_isNaN_b9ae7 6 = .ok (.iconst 1, 1) := by decide +kernel
theorem dJxe99ae_isNaN_b9ae7_7 : decode cJxe99ae_isNaN_b9ae7 7 = .ok (.goto 4, 3) := by decide +kernel
theorem dJxe99ae_isNaN_b9ae7_10 : decode cJxe99ae_isNaN_b9ae7 10 = .ok (.iconst 0, 1) := by decide +kernel
theorem dJxe99ae_isNaN_b9ae7_11 : decode cJxe99ae_isNaN_b9ae7 11 = .ok (.ireturn, 1) := by decide +kernel
theorem dJxe99ae_doubleToLongBits_ccdee_0 : decode cJxe99ae_doubleToLongBits_ccdee 0 = .ok (.dload_n 0, 1) := by decide +kernel
theorem dJxe99ae_doubleToLongBits_ccdee_1 : decode cJxe99ae_doubleToLongBits_ccdee 1 = .ok (.invokestatic 122, 3) := by decide +kernel
theorem dJxe99ae_doubleToLongBits_ccdee_4 : decode cJxe99ae_doubleToLongBits_ccdee 4 = .ok (.ifCond .ne 8, 3) := by decide +kernel
theorem dJxe99ae_doubleToLongBits_ccdee_7 : decode cJxe99ae_doubleToLongBits_ccdee 7 = .ok (.dload_n 0, 1) := by decide +kernel
theorem dJxe99ae_doubleToLongBits_ccdee_8 : decode cJxe99ae_doubleToLongBits_ccdee 8 = .ok (.invokestatic 134, 3) := by decide +kernel
theorem dJxe99ae_doubleToLongBits_ccdee_11 : decode cJxe99ae_doubleToLongBits_ccdee 11 = .ok (.lreturn, 1) := by decide +kernel
theorem dJxe99ae_doubleToLongBits_ccdee_12 : decode cJxe99ae_doubleToLongBits_ccdee 12 = .ok (.ldc2_w 137, 3) := by decide +kernel
theorem dJxe99ae_doubleToLongBits_ccdee_15 : decode cJxe99ae_doubleToLongBits_ccdee 15 = .ok (.lreturn, 1) := by decide +kernel
theorem dJxf58ca_isNaN_12338_0 : decode cJxf58ca_isNaN_12338 0 = .ok (.fload_n 0, 1) := by decide +kernel
theorem dJxf58ca_isNaN_12338_1 : decode cJxf58ca_isNaN_12338 1 = .ok (.fload_n 0, 1) := by decide +kernel
theorem dJxf58ca_isNaN_12338_2 : decode cJxf58ca_isNaN_12338 2 = .ok (.fcmp .l, 1) := by decide +kernel
theorem dJxf58ca_isNaN_12338_3 : decode cJxf58ca_isNaN_12338 3 = .ok (.ifCond .eq 7, 3) := by decide +kernel
theorem dJxf58ca_isNaN_12338_6 : decode cJxf58ca_isNaN_12338 6 = .ok (.iconst 1, 1) := by decide +kernel
theorem dJxf58ca_isNaN_12338_7 : decode cJxf58ca_isNaN_12338 7 = .ok (.goto 4, 3) := by decide +kernel
theorem dJxf58ca_isNaN_12338_10 : decode cJxf58ca_isNaN_12338 10 = .ok (.iconst 0, 1) := by decide +kernel
theorem dJxf58ca_isNaN_12338_11 : decode cJxf58ca_isNaN_12338 11 = .ok (.ireturn, 1) := by decide +kernel
theorem dJxf58ca_floatToIntBits_5c35a_0 : decode cJxf58ca_floatToIntBits_5c35a 0 = .ok (.fload_n 0, 1) := by decide +kernel
theorem dJxf58ca_floatToIntBits_5c35a_1 : decode cJxf58ca_floatToIntBits_5c35a 1 = .ok (.invokestatic 59, 3) := by decide +kernel
theorem dJxf58ca_floatToIntBits_5c35a_4 : decode cJxf58ca_floatToIntBits_5c35a 4 = .ok (.ifCond .ne 8, 3) := by decide +kernel
theorem dJxf58ca_floatToIntBits_5c35a_7 : decode cJxf58ca_floatToIntBits_5c35a 7 = .ok (.fload_n 0, 1) := by decide +kernel
theorem dJxf58ca_floatToIntBits_5c35a_8 : decode cJxf58ca_floatToIntBits_5c35a 8 = .ok (.invokestatic 74, 3) := by decide +kernel
theorem dJxf58ca_floatToIntBits_5c35a_11 : decode cJxf58ca_floatToIntBits_5c35a 11 = .ok (.ireturn, 1) := by decide +kernel
theorem dJxf58ca_floatToIntBits_5c35a_12 : decode cJxf58ca_floatToIntBits_5c35a 12 = .ok (.ldc 77, 2) := by decide +kernel
theorem dJxf58ca_floatToIntBits_5c35a_14 : decode cJxf58ca_floatToIntBits_5c35a 14 = .ok (.ireturn, 1) := by decide +kernel
theorem dJ6_signum_0f7a4_0 : decode cJ6_signum_0f7a4 0 = .ok (.iload_n 0, 1) := by decide +kernel
theorem dJ6_signum_0f7a4_1 : decode cJ6_signum_0f7a4 1 = .ok (.bipush 31, 2) := by decide +kernel
theorem dJ6_signum_0f7a4_3 : decode cJ6_signum_0f7a4 3 = .ok (.ishr, 1) := by decide +kernel
theorem dJ6_signum_0f7a4_4 : decode cJ6_signum_0f7a4 4 = .ok (.iload_n 0, 1) := by decide +kernel
theorem dJ6_signum_0f7a4_5 : decode cJ6_signum_0f7a4 5 = .ok (.ineg, 1) := by decide +kernel
theorem dJ6_signum_0f7a4_6 : decode cJ6_signum_0f7a4 6 = .ok (.bipush 31, 2) := by decide +kernel
theorem dJ6_signum_0f7a4_8 : decode cJ6_signum_0f7a4 8 = .ok (.iushr, 1) := by decide +kernel
theorem dJ6_signum_0f7a4_9 : decode cJ6_signum_0f7a4 9 = .ok (.ior, 1) := by decide +kernel
theorem dJ6_signum_0f7a4_10 : decode cJ6_signum_0f7a4 10 = .ok (.ireturn, 1) := by decide +kernel
theorem dJ9_abs_0f7a4_0 : decode cJ9_abs_0f7a4 0 = .ok (.iload_n 0, 1) := by decide +kernel
theorem dJ9_abs_0f7a4_1 : decode cJ9_abs_0f7a4 1 = .ok (.ifCond .ge 8, 3) := by decide +kernel
theorem dJ9_abs_0f7a4_4 : decode cJ9_abs_0f7a4 4 = .ok (.iload_n 0, 1) := by decide +kernel
theorem dJ9_abs_0f7a4_5 : decode cJ9_abs_0f7a4 5 = .ok (.ineg, 1) := by decide +kernel
theorem dJ9_abs_0f7a4_6 : decode cJ9_abs_0f7a4 6 = .ok (.goto 4, 3) := by decide +kernel
theorem dJ9_abs_0f7a4_9 : decode cJ9_abs_0f7a4 9 = .ok (.iload_n 0, 1) := by decide +kernel
theorem dJ9_abs_0f7a4_10 : decode cJ9_abs_0f7a4 10 = .ok (.ireturn, 1) := by decide +kernel
theorem dJ9_max_7cf53_0 : decode cJ9_max_7cf53 0 = .ok (.iload_n 0, 1) := by decide +kernel
theorem dJ9_max_7cf53_1 : decode cJ9_max_7cf53 1 = .ok (.iload_n 1, 1) := by decide +kernel
theorem dJ9_max_7cf53_2 : decode cJ9_max_7cf53 2 = .ok (.if_icmp .lt 7, 3) := by decide +kernel
theorem dJ9_max_7cf53_5 : decode cJ9_max_7cf53 5 = .ok (.iload_n 0, 1) := by decide +kernel
theorem dJ9_max_7cf53_6 : decode cJ9_max_7cf53 6 = .ok (.goto 4, 3) := by decide +kernel
theorem dJ9_max_7cf53_9 : decode cJ9_max_7cf53 9 = .ok (.iload_n 1, 1) := by decide +kernel
theorem dJ9_max_7cf53_10 : decode cJ9_max_7cf53 10 = .ok (.ireturn, 1) := by decide +kernel
theorem dJ9_min_7cf53_0 : decode cJ9_min_7cf53 0 = .ok (.iload_n 0, 1) := by decide +kernel
theorem dJ9_min_7cf53_1 : decode cJ9_min_7cf53 1 = .ok (.iload_n 1, 1) := by decide +kernel
theorem dJ9_min_7cf53_2 : decode cJ9_min_7cf53 2 = .ok (.if_icmp .gt 7, 3) := by decide +kernel
theorem dJ9_min_7cf53_5 : decode cJ9_min_7cf53 5 = .ok (.iload_n 0, 1) := by decide +kernel
theorem dJ9_min_7cf53_6 : decode cJ9_min_7cf53 6 = .ok (.goto 4, 3) := by decide +kernel
theorem dJ9_min_7cf53_9 : decode cJ9_min_7cf53 9 = .ok (.iload_n 1, 1) := by decide +kernel
theorem dJ9_min_7cf53_10 : decode cJ9_min_7cf53 10 = .ok (.ireturn, 1) := by decide +kernel
theorem dL_point_0 : decode cL_point 0 = .ok (.aload_n 3, 1) := by decide +kernel
theorem dL_point_1 : decode cL_point 1 = .ok (.iconst 0, 1) := by decide +kernel
theorem dL_point_2 : decode cL_point 2 = .ok (.aload_n 0, 1) := by decide +kernel
theorem dL_point_3 : decode cL_point 3 = .ok (.iload_n 1, 1) := by decide +kernel
theorem dL_point_4 : decode cL_point 4 = .ok (.iload_n 2, 1) := by decide +kernel
theorem dL_point_5 : decode cL_point 5 = .ok (.invokevirtual 7, 3) := by decide +kernel
theorem dL_point_8 : decode cL_point 8 = .ok (.i2l, 1) := by decide +kernel
theorem dL_point_9 : decode cL_point 9 = .ok (.lastore, 1) := by decide +kernel
theorem dL_point_10 : decode cL_point 10 = .ok (.goto 11, 3) := by decide +kernel
theorem dL_point_13 : decode cL_point 13 = .ok (.astore 4, 2) := by decide +kernel
theorem dL_point_15 : decode cL_point 15 = .ok (.iconst 1, 1) := by decide +kernel
theorem dL_point_16 : decode cL_point 16 = .ok (.ireturn, 1) := by decide +kernel
theorem dL_point_17 : decode cL_point 17 = .ok (.astore 4, 2) := by decide +kernel
theorem dL_point_19 : decode cL_point 19 = .ok (.iconst 2, 1) := by decide +kernel
theorem dL_point_20 : decode cL_point 20 = .ok (.ireturn, 1) := by decide +kernel
theorem dL_point_21 : decode cL_point 21 = .ok (.iconst 0, 1) := by decide +kernel
theorem dL_point_22 : decode cL_point 22 = .ok (.ireturn, 1) := by decide +kernel
theorem dL_go_0 : decode cL_go 0 = .ok (.aload_n 3, 1) := by decide +kernel
theorem dL_go_1 : decode cL_go 1 = .ok (.iconst 0, 1) := by decide +kernel
theorem dL_go_2 : decode cL_go 2 = .ok (.aload_n 0, 1) := by decide +kernel
theorem dL_go_3 : decode cL_go 3 = .ok (.iload_n 1, 1) := by decide +kernel
theorem dL_go_4 : decode cL_go 4 = .ok (.iload_n 2, 1) := by decide +kernel
theorem dL_go_5 : decode cL_go 5 = .ok (.invokevirtual 17, 3) := by decide +kernel
theorem dL_go_8 : decode cL_go 8 = .ok (.i2l, 1) := by decide +kernel
theorem dL_go_9 : decode cL_go 9 = .ok (.lastore, 1) := by decide +kernel
theorem dL_go_10 : decode cL_go 10 = .ok (.goto 11, 3) := by decide +kernel
theorem dL_go_13 : decode cL_go 13 = .ok (.astore 4, 2) := by decide +kernel
theorem dL_go_15 : decode cL_go 15 = .ok (.iconst 1, 1) := by decide +kernel
theorem dL_go_16 : decode cL_go 16 = .ok (.ireturn, 1) := by decide +kernel
theorem dL_go_17 : decode cL_go 17 = .ok (.astore 4, 2) := by decide +kernel
theorem dL_go_19 : decode cL_go 19 = .ok (.iconst 2, 1) := by decide +kernel
theorem dL_go_20 : decode cL_go 20 = .ok (.ireturn, 1) := by decide +kernel
theorem dL_go_21 : decode cL_go 21 = .ok (.iconst 0, 1) := by decide +kernel
theorem dL_go_22 : decode cL_go 22 = .ok (.ireturn, 1) := by decide +kernel
theorem dL_back_0 : decode cL_back 0 = .ok (.aload_n 2, 1) := by decide +kernel
theorem dL_back_1 : decode cL_back 1 = .ok (.iconst 0, 1) := by decide +kernel
theorem dL_back_2 : decode cL_back 2 = .ok (.aload_n 0, 1) := by decide +kernel
theorem dL_back_3 : decode cL_back 3 = .ok (.iload_n 1, 1) := by decide +kernel
theorem dL_back_4 : decode cL_back 4 = .ok (.invokevirtual 20, 3) := by decide +kernel
theorem dL_back_7 : decode cL_back 7 = .ok (.i2l, 1) := by decide +kernel
theorem dL_back_8 : decode cL_back 8 = .ok (.lastore, 1) := by decide +kernel
theorem dL_back_9 : decode cL_back 9 = .ok (.goto 6, 3) := by decide +kernel
theorem dL_back_12 : decode cL_back 12 = .ok (.astore_n 3, 1) := by decide +kernel
theorem dL_back_13 : decode cL_back 13 = .ok (.iconst 1, 1) := by decide +kernel
theorem dL_back_14 : decode cL_back 14 = .ok (.ireturn, 1) := by decide +kernel
theorem dL_back_15 : decode cL_back 15 = .ok (.iconst 0, 1) := by decide +kernel
theorem dL_back_16 : decode cL_back 16 = .ok (.ireturn, 1) := by decide +kernel
theorem dL_turn_0 : decode cL_turn 0 = .ok (.aload_n 2, 1) := by decide +kernel
theorem dL_turn_1 : decode cL_turn 1 = .ok (.iconst 0, 1) := by decide +kernel
theorem dL_turn_2 : decode cL_turn 2 = .ok (.aload_n 0, 1) := by decide +kernel
theorem dL_turn_3 : decode cL_turn 3 = .ok (.iload_n 1, 1) := by decide +kernel
theorem dL_turn_4 : decode cL_turn 4 = .ok (.invokevirtual 24, 3) := by decide +kernel
theorem dL_turn_7 : decode cL_turn 7 = .ok (.i2l, 1) := by decide +kernel
theorem dL_turn_8 : decode cL_turn 8 = .ok (.lastore, 1) := by decide +kernel
theorem dL_turn_9 : decode cL_turn 9 = .ok (.goto 9, 3) := by decide +kernel
theorem dL_turn_12 : decode cL_turn 12 = .ok (.astore_n 3, 1) := by decide +kernel
theorem dL_turn_13 : decode cL_turn 13 = .ok (.iconst 1, 1) := by decide +kernel
theorem dL_turn_14 : decode cL_turn 14 = .ok (.ireturn, 1) := by decide +kernel
theorem dL_turn_15 : decode cL_turn 15 = .ok (.astore_n 3, 1) := by decide +kernel
theorem dL_turn_16 : decode cL_turn 16 = .ok (.iconst 2, 1) := by decide +kernel
theorem dL_turn_17 : decode cL_turn 17 = .ok (.ireturn, 1) := by decide +kernel
theorem dL_turn_18 : decode cL_turn 18 = .ok (.iconst 0, 1) := by decide +kernel
theorem dL_turn_19 : decode cL_turn 19 = .ok (.ireturn, 1) := by decide +kernel
theorem dL_learn_0 : decode cL_learn 0 = .ok (.aload_n 1, 1) := by decide +kernel
theorem dL_learn_1 : decode cL_learn 1 = .ok (.iconst 0, 1) := by decide +kernel
theorem dL_learn_2 : decode cL_learn 2 = .ok (.aload_n 0, 1) := by decide +kernel
theorem dL_learn_3 : decode cL_learn 3 = .ok (.invokevirtual 27, 3) := by decide +kernel
theorem dL_learn_6 : decode cL_learn 6 = .ok (.i2l, 1) := by decide +kernel
theorem dL_learn_7 : decode cL_learn 7 = .ok (.lastore, 1) := by decide +kernel
theorem dL_learn_8 : decode cL_learn 8 = .ok (.goto 6, 3) := by decide +kernel
theorem dL_learn_11 : decode cL_learn 11 = .ok (.astore_n 2, 1) := by decide +kernel
theorem dL_learn_12 : decode cL_learn 12 = .ok (.iconst 1, 1) := by decide +kernel
theorem dL_learn_13 : decode cL_learn 13 = .ok (.ireturn, 1) := by decide +kernel
theorem dL_learn_14 : decode cL_learn 14 = .ok (.iconst 0, 1) := by decide +kernel
theorem dL_learn_15 : decode cL_learn 15 = .ok (.ireturn, 1) := by decide +kernel
theorem dL_read_0 : decode cL_read 0 = .ok (.aload_n 1, 1) := by decide +kernel
theorem dL_read_1 : decode cL_read 1 = .ok (.iconst 0, 1) := by decide +kernel
theorem dL_read_2 : decode cL_read 2 = .ok (.aload_n 0, 1) := by decide +kernel
theorem dL_read_3 : decode cL_read 3 = .ok (.invokevirtual 31, 3) := by decide +kernel
theorem dL_read_6 : decode cL_read 6 = .ok (.i2l, 1) := by decide +kernel
theorem dL_read_7 : decode cL_read 7 = .ok (.lastore, 1) := by decide +kernel
theorem dL_read_8 : decode cL_read 8 = .ok (.goto 9, 3) := by decide +kernel
theorem dL_read_11 : decode cL_read 11 = .ok (.astore_n 2, 1) := by decide +kernel
theorem dL_read_12 : decode cL_read 12 = .ok (.iconst 1, 1) := by decide +kernel
theorem dL_read_13 : decode cL_read 13 = .ok (.ireturn, 1) := by decide +kernel
theorem dL_read_14 : decode cL_read 14 = .ok (.astore_n 2, 1) := by decide +kernel
theorem dL_read_15 : decode cL_read 15 = .ok (.iconst 2, 1) := by decide +kernel
theorem dL_read_16 : decode cL_read 16 = .ok (.ireturn, 1) := by decide +kernel
theorem dL_read_17 : decode cL_read 17 = .ok (.iconst 0, 1) := by decide +kernel
theorem dL_read_18 : decode cL_read 18 = .ok (.ireturn, 1) := by decide +kernel
theorem dL_forget_0 : decode cL_forget 0 = .ok (.aload_n 2, 1) := by decide +kernel
theorem dL_forget_1 : decode cL_forget 1 = .ok (.iconst 0, 1) := by decide +kernel
theorem dL_forget_2 : decode cL_forget 2 = .ok (.aload_n 0, 1) := by decide +kernel
theorem dL_forget_3 : decode cL_forget 3 = .ok (.iload_n 1, 1) := by decide +kernel
theorem dL_forget_4 : decode cL_forget 4 = .ok (.invokevirtual 34, 3) := by decide +kernel
theorem dL_forget_7 : decode cL_forget 7 = .ok (.i2l, 1) := by decide +kernel
theorem dL_forget_8 : decode cL_forget 8 = .ok (.lastore, 1) := by decide +kernel
theorem dL_forget_9 : decode cL_forget 9 = .ok (.goto 6, 3) := by decide +kernel
theorem dL_forget_12 : decode cL_forget 12 = .ok (.astore_n 3, 1) := by decide +kernel
theorem dL_forget_13 : decode cL_forget 13 = .ok (.iconst 1, 1) := by decide +kernel
theorem dL_forget_14 : decode cL_forget 14 = .ok (.ireturn, 1) := by decide +kernel
theorem dL_forget_15 : decode cL_forget 15 = .ok (.iconst 0, 1) := by decide +kernel
theorem dL_forget_16 : decode cL_forget 16 = .ok (.ireturn, 1) := by decide +kernel
theorem dL_set_0 : decode cL_set 0 = .ok (.aload_n 3, 1) := by decide +kernel
theorem dL_set_1 : decode cL_set 1 = .ok (.iconst 0, 1) := by decide +kernel
theorem dL_set_2 : decode cL_set 2 = .ok (.aload_n 0, 1) := by decide +kernel
theorem dL_set_3 : decode cL_set 3 = .ok (.iload_n 1, 1) := by decide +kernel
theorem dL_set_4 : decode cL_set 4 = .ok (.iload_n 2, 1) := by decide +kernel
theorem dL_set_5 : decode cL_set 5 = .ok (.invokevirtual 39, 3) := by decide +kernel
theorem dL_set_8 : decode cL_set 8 = .ok (.i2l, 1) := by decide +kernel
theorem dL_set_9 : decode cL_set 9 = .ok (.lastore, 1) := by decide +kernel
theorem dL_set_10 : decode cL_set 10 = .ok (.goto 15, 3) := by decide +kernel
theorem dL_set_13 : decode cL_set 13 = .ok (.astore 4, 2) := by decide +kernel
theorem dL_set_15 : decode cL_set 15 = .ok (.iconst 1, 1) := by decide +kernel
theorem dL_set_16 : decode cL_set 16 = .ok (.ireturn, 1) := by decide +kernel
theorem dL_set_17 : decode cL_set 17 = .ok (.astore 4, 2) := by decide +kernel
theorem dL_set_19 : decode cL_set 19 = .ok (.iconst 2, 1) := by decide +kernel
theorem dL_set_20 : decode cL_set 20 = .ok (.ireturn, 1) := by decide +kernel
theorem dL_set_21 : decode cL_set 21 = .ok (.astore 4, 2) := by decide +kernel
theorem dL_set_23 : decode cL_set 23 = .ok (.iconst 3, 1) := by decide +kernel
theorem dL_set_24 : decode cL_set 24 = .ok (.ireturn, 1) := by decide +kernel
theorem dL_set_25 : decode cL_set 25 = .ok (.iconst 0, 1) := by decide +kernel
theorem dL_set_26 : decode cL_set 26 = .ok (.ireturn, 1) := by decide +kernel
theorem dL_append_0 : decode cL_append 0 = .ok (.aload_n 2, 1) := by decide +kernel
theorem dL_append_1 : decode cL_append 1 = .ok (.iconst 0, 1) := by decide +kernel
theorem dL_append_2 : decode cL_append 2 = .ok (.aload_n 0, 1) := by decide +kernel
theorem dL_append_3 : decode cL_append 3 = .ok (.iload_n 1, 1) := by decide +kernel
theorem dL_append_4 : decode cL_append 4 = .ok (.invokevirtual 42, 3) := by decide +kernel
theorem dL_append_7 : decode cL_append 7 = .ok (.i2l, 1) := by decide +kernel
theorem dL_append_8 : decode cL_append 8 = .ok (.lastore, 1) := by decide +kernel
theorem dL_append_9 : decode cL_append 9 = .ok (.goto 9, 3) := by decide +kernel
theorem dL_append_12 : decode cL_append 12 = .ok (.astore_n 3, 1) := by decide +kernel
theorem dL_append_13 : decode cL_append 13 = .ok (.iconst 1, 1) := by decide +kernel
theorem dL_append_14 : decode cL_append 14 = .ok (.ireturn, 1) := by decide +kernel
theorem dL_append_15 : decode cL_append 15 = .ok (.astore_n 3, 1) := by decide +kernel
theorem dL_append_16 : decode cL_append 16 = .ok (.iconst 2, 1) := by decide +kernel
theorem dL_append_17 : decode cL_append 17 = .ok (.ireturn, 1) := by decide +kernel
theorem dL_append_18 : decode cL_append 18 = .ok (.iconst 0, 1) := by decide +kernel
theorem dL_append_19 : decode cL_append 19 = .ok (.ireturn, 1) := by decide +kernel
theorem dL_undo_0 : decode cL_undo 0 = .ok (.aload_n 1, 1) := by decide +kernel
theorem dL_undo_1 : decode cL_undo 1 = .ok (.iconst 0, 1) := by decide +kernel
theorem dL_undo_2 : decode cL_undo 2 = .ok (.aload_n 0, 1) := by decide +kernel
theorem dL_undo_3 : decode cL_undo 3 = .ok (.invokevirtual 45, 3) := by decide +kernel
theorem dL_undo_6 : decode cL_undo 6 = .ok (.i2l, 1) := by decide +kernel
theorem dL_undo_7 : decode cL_undo 7 = .ok (.lastore, 1) := by decide +kernel
theorem dL_undo_8 : decode cL_undo 8 = .ok (.goto 6, 3) := by decide +kernel
theorem dL_undo_11 : decode cL_undo 11 = .ok (.astore_n 2, 1) := by decide +kernel
theorem dL_undo_12 : decode cL_undo 12 = .ok (.iconst 1, 1) := by decide +kernel
theorem dL_undo_13 : decode cL_undo 13 = .ok (.ireturn, 1) := by decide +kernel
theorem dL_undo_14 : decode cL_undo 14 = .ok (.iconst 0, 1) := by decide +kernel
theorem dL_undo_15 : decode cL_undo 15 = .ok (.ireturn, 1) := by decide +kernel
theorem dL_pointOf_0 : decode cL_pointOf 0 = .ok (.aload_n 3, 1) := by decide +kernel
theorem dL_pointOf_1 : decode cL_pointOf 1 = .ok (.iconst 0, 1) := by decide +kernel
theorem dL_pointOf_2 : decode cL_pointOf 2 = .ok (.aload_n 0, 1) := by decide +kernel
theorem dL_pointOf_3 : decode cL_pointOf 3 = .ok (.iload_n 1, 1) := by decide +kernel
theorem dL_pointOf_4 : decode cL_pointOf 4 = .ok (.iload_n 2, 1) := by decide +kernel
theorem dL_pointOf_5 : decode cL_pointOf 5 = .ok (.invokevirtual 48, 3) := by decide +kernel
theorem dL_pointOf_8 : decode cL_pointOf 8 = .ok (.i2l, 1) := by decide +kernel
theorem dL_pointOf_9 : decode cL_pointOf 9 = .ok (.lastore, 1) := by decide +kernel
theorem dL_pointOf_10 : decode cL_pointOf 10 = .ok (.goto 11, 3) := by decide +kernel
theorem dL_pointOf_13 : decode cL_pointOf 13 = .ok (.astore 4, 2) := by decide +kernel
theorem dL_pointOf_15 : decode cL_pointOf 15 = .ok (.iconst 1, 1) := by decide +kernel
theorem dL_pointOf_16 : decode cL_pointOf 16 = .ok (.ireturn, 1) := by decide +kernel
theorem dL_pointOf_17 : decode cL_pointOf 17 = .ok (.astore 4, 2) := by decide +kernel
theorem dL_pointOf_19 : decode cL_pointOf 19 = .ok (.iconst 2, 1) := by decide +kernel
theorem dL_pointOf_20 : decode cL_pointOf 20 = .ok (.ireturn, 1) := by decide +kernel
theorem dL_pointOf_21 : decode cL_pointOf 21 = .ok (.iconst 0, 1) := by decide +kernel
theorem dL_pointOf_22 : decode cL_pointOf 22 = .ok (.ireturn, 1) := by decide +kernel
theorem dL_run_0 : decode cL_run 0 = .ok (.aload_n 3, 1) := by decide +kernel
theorem dL_run_1 : decode cL_run 1 = .ok (.iconst 0, 1) := by decide +kernel
theorem dL_run_2 : decode cL_run 2 = .ok (.aload_n 0, 1) := by decide +kernel
theorem dL_run_3 : decode cL_run 3 = .ok (.iload_n 1, 1) := by decide +kernel
theorem dL_run_4 : decode cL_run 4 = .ok (.iload_n 2, 1) := by decide +kernel
theorem dL_run_5 : decode cL_run 5 = .ok (.invokevirtual 51, 3) := by decide +kernel
theorem dL_run_8 : decode cL_run 8 = .ok (.i2l, 1) := by decide +kernel
theorem dL_run_9 : decode cL_run 9 = .ok (.lastore, 1) := by decide +kernel
theorem dL_run_10 : decode cL_run 10 = .ok (.goto 7, 3) := by decide +kernel
theorem dL_run_13 : decode cL_run 13 = .ok (.astore 4, 2) := by decide +kernel
theorem dL_run_15 : decode cL_run 15 = .ok (.iconst 1, 1) := by decide +kernel
theorem dL_run_16 : decode cL_run 16 = .ok (.ireturn, 1) := by decide +kernel
theorem dL_run_17 : decode cL_run 17 = .ok (.iconst 0, 1) := by decide +kernel
theorem dL_run_18 : decode cL_run 18 = .ok (.ireturn, 1) := by decide +kernel
theorem dL_stroke_0 : decode cL_stroke 0 = .ok (.aload_n 2, 1) := by decide +kernel
theorem dL_stroke_1 : decode cL_stroke 1 = .ok (.iconst 0, 1) := by decide +kernel
theorem dL_stroke_2 : decode cL_stroke 2 = .ok (.aload_n 0, 1) := by decide +kernel
theorem dL_stroke_3 : decode cL_stroke 3 = .ok (.iload_n 1, 1) := by decide +kernel
theorem dL_stroke_4 : decode cL_stroke 4 = .ok (.invokevirtual 54, 3) := by decide +kernel
theorem dL_stroke_7 : decode cL_stroke 7 = .ok (.i2l, 1) := by decide +kernel
theorem dL_stroke_8 : decode cL_stroke 8 = .ok (.lastore, 1) := by decide +kernel
theorem dL_stroke_9 : decode cL_stroke 9 = .ok (.goto 6, 3) := by decide +kernel
theorem dL_stroke_12 : decode cL_stroke 12 = .ok (.astore_n 3, 1) := by decide +kernel
theorem dL_stroke_13 : decode cL_stroke 13 = .ok (.iconst 1, 1) := by decide +kernel
theorem dL_stroke_14 : decode cL_stroke 14 = .ok (.ireturn, 1) := by decide +kernel
theorem dL_stroke_15 : decode cL_stroke 15 = .ok (.iconst 0, 1) := by decide +kernel
theorem dL_stroke_16 : decode cL_stroke 16 = .ok (.ireturn, 1) := by decide +kernel
theorem dL_strokeOf_0 : decode cL_strokeOf 0 = .ok (.aload_n 3, 1) := by decide +kernel
theorem dL_strokeOf_1 : decode cL_strokeOf 1 = .ok (.iconst 0, 1) := by decide +kernel
theorem dL_strokeOf_2 : decode cL_strokeOf 2 = .ok (.aload_n 0, 1) := by decide +kernel
theorem dL_strokeOf_3 : decode cL_strokeOf 3 = .ok (.iload_n 1, 1) := by decide +kernel
theorem dL_strokeOf_4 : decode cL_strokeOf 4 = .ok (.iload_n 2, 1) := by decide +kernel
theorem dL_strokeOf_5 : decode cL_strokeOf 5 = .ok (.invokevirtual 57, 3) := by decide +kernel
theorem dL_strokeOf_8 : decode cL_strokeOf 8 = .ok (.i2l, 1) := by decide +kernel
theorem dL_strokeOf_9 : decode cL_strokeOf 9 = .ok (.lastore, 1) := by decide +kernel
theorem dL_strokeOf_10 : decode cL_strokeOf 10 = .ok (.goto 11, 3) := by decide +kernel
theorem dL_strokeOf_13 : decode cL_strokeOf 13 = .ok (.astore 4, 2) := by decide +kernel
theorem dL_strokeOf_15 : decode cL_strokeOf 15 = .ok (.iconst 1, 1) := by decide +kernel
theorem dL_strokeOf_16 : decode cL_strokeOf 16 = .ok (.ireturn, 1) := by decide +kernel
theorem dL_strokeOf_17 : decode cL_strokeOf 17 = .ok (.astore 4, 2) := by decide +kernel
theorem dL_strokeOf_19 : decode cL_strokeOf 19 = .ok (.iconst 2, 1) := by decide +kernel
theorem dL_strokeOf_20 : decode cL_strokeOf 20 = .ok (.ireturn, 1) := by decide +kernel
theorem dL_strokeOf_21 : decode cL_strokeOf 21 = .ok (.iconst 0, 1) := by decide +kernel
theorem dL_strokeOf_22 : decode cL_strokeOf 22 = .ok (.ireturn, 1) := by decide +kernel
theorem dL_distance_0 : decode cL_distance 0 = .ok (.aload_n 3, 1) := by decide +kernel
theorem dL_distance_1 : decode cL_distance 1 = .ok (.iconst 0, 1) := by decide +kernel
theorem dL_distance_2 : decode cL_distance 2 = .ok (.aload_n 0, 1) := by decide +kernel
theorem dL_distance_3 : decode cL_distance 3 = .ok (.iload_n 1, 1) := by decide +kernel
theorem dL_distance_4 : decode cL_distance 4 = .ok (.iload_n 2, 1) := by decide +kernel
theorem dL_distance_5 : decode cL_distance 5 = .ok (.invokevirtual 60, 3) := by decide +kernel
theorem dL_distance_8 : decode cL_distance 8 = .ok (.i2l, 1) := by decide +kernel
theorem dL_distance_9 : decode cL_distance 9 = .ok (.lastore, 1) := by decide +kernel
theorem dL_distance_10 : decode cL_distance 10 = .ok (.goto 7, 3) := by decide +kernel
theorem dL_distance_13 : decode cL_distance 13 = .ok (.astore 4, 2) := by decide +kernel
theorem dL_distance_15 : decode cL_distance 15 = .ok (.iconst 1, 1) := by decide +kernel
theorem dL_distance_16 : decode cL_distance 16 = .ok (.ireturn, 1) := by decide +kernel
theorem dL_distance_17 : decode cL_distance 17 = .ok (.iconst 0, 1) := by decide +kernel
theorem dL_distance_18 : decode cL_distance 18 = .ok (.ireturn, 1) := by decide +kernel
theorem dL_reading_0 : decode cL_reading 0 = .ok (.aload_n 2, 1) := by decide +kernel
theorem dL_reading_1 : decode cL_reading 1 = .ok (.iconst 0, 1) := by decide +kernel
theorem dL_reading_2 : decode cL_reading 2 = .ok (.aload_n 0, 1) := by decide +kernel
theorem dL_reading_3 : decode cL_reading 3 = .ok (.iload_n 1, 1) := by decide +kernel
theorem dL_reading_4 : decode cL_reading 4 = .ok (.invokevirtual 63, 3) := by decide +kernel
theorem dL_reading_7 : decode cL_reading 7 = .ok (.i2l, 1) := by decide +kernel
theorem dL_reading_8 : decode cL_reading 8 = .ok (.lastore, 1) := by decide +kernel
theorem dL_reading_9 : decode cL_reading 9 = .ok (.goto 6, 3) := by decide +kernel
theorem dL_reading_12 : decode cL_reading 12 = .ok (.astore_n 3, 1) := by decide +kernel
theorem dL_reading_13 : decode cL_reading 13 = .ok (.iconst 1, 1) := by decide +kernel
theorem dL_reading_14 : decode cL_reading 14 = .ok (.ireturn, 1) := by decide +kernel
theorem dL_reading_15 : decode cL_reading 15 = .ok (.iconst 0, 1) := by decide +kernel
theorem dL_reading_16 : decode cL_reading 16 = .ok (.ireturn, 1) := by decide +kernel
theorem dL_count_0 : decode cL_count 0 = .ok (.aload_n 2, 1) := by decide +kernel
theorem dL_count_1 : decode cL_count 1 = .ok (.iconst 0, 1) := by decide +kernel
theorem dL_count_2 : decode cL_count 2 = .ok (.aload_n 0, 1) := by decide +kernel
theorem dL_count_3 : decode cL_count 3 = .ok (.iload_n 1, 1) := by decide +kernel
theorem dL_count_4 : decode cL_count 4 = .ok (.invokevirtual 66, 3) := by decide +kernel
theorem dL_count_7 : decode cL_count 7 = .ok (.i2l, 1) := by decide +kernel
theorem dL_count_8 : decode cL_count 8 = .ok (.lastore, 1) := by decide +kernel
theorem dL_count_9 : decode cL_count 9 = .ok (.goto 6, 3) := by decide +kernel
theorem dL_count_12 : decode cL_count 12 = .ok (.astore_n 3, 1) := by decide +kernel
theorem dL_count_13 : decode cL_count 13 = .ok (.iconst 1, 1) := by decide +kernel
theorem dL_count_14 : decode cL_count 14 = .ok (.ireturn, 1) := by decide +kernel
theorem dL_count_15 : decode cL_count 15 = .ok (.iconst 0, 1) := by decide +kernel
theorem dL_count_16 : decode cL_count 16 = .ok (.ireturn, 1) := by decide +kernel
theorem dL_setting_0 : decode cL_setting 0 = .ok (.aload_n 2, 1) := by decide +kernel
theorem dL_setting_1 : decode cL_setting 1 = .ok (.iconst 0, 1) := by decide +kernel
theorem dL_setting_2 : decode cL_setting 2 = .ok (.aload_n 0, 1) := by decide +kernel
theorem dL_setting_3 : decode cL_setting 3 = .ok (.iload_n 1, 1) := by decide +kernel
theorem dL_setting_4 : decode cL_setting 4 = .ok (.invokevirtual 69, 3) := by decide +kernel
theorem dL_setting_7 : decode cL_setting 7 = .ok (.i2l, 1) := by decide +kernel
theorem dL_setting_8 : decode cL_setting 8 = .ok (.lastore, 1) := by decide +kernel
theorem dL_setting_9 : decode cL_setting 9 = .ok (.goto 6, 3) := by decide +kernel
theorem dL_setting_12 : decode cL_setting 12 = .ok (.astore_n 3, 1) := by decide +kernel
theorem dL_setting_13 : decode cL_setting 13 = .ok (.iconst 1, 1) := by decide +kernel
theorem dL_setting_14 : decode cL_setting 14 = .ok (.ireturn, 1) := by decide +kernel
theorem dL_setting_15 : decode cL_setting 15 = .ok (.iconst 0, 1) := by decide +kernel
theorem dL_setting_16 : decode cL_setting 16 = .ok (.ireturn, 1) := by decide +kernel
theorem dL_ifPoint_0 : decode cL_ifPoint 0 = .ok (.aload_n 3, 1) := by decide +kernel
theorem dL_ifPoint_1 : decode cL_ifPoint 1 = .ok (.iconst 0, 1) := by decide +kernel
theorem dL_ifPoint_2 : decode cL_ifPoint 2 = .ok (.aload_n 0, 1) := by decide +kernel
theorem dL_ifPoint_3 : decode cL_ifPoint 3 = .ok (.iload_n 1, 1) := by decide +kernel
theorem dL_ifPoint_4 : decode cL_ifPoint 4 = .ok (.iload_n 2, 1) := by decide +kernel
theorem dL_ifPoint_5 : decode cL_ifPoint 5 = .ok (.invokevirtual 72, 3) := by decide +kernel
theorem dL_ifPoint_8 : decode cL_ifPoint 8 = .ok (.i2l, 1) := by decide +kernel
theorem dL_ifPoint_9 : decode cL_ifPoint 9 = .ok (.lastore, 1) := by decide +kernel
theorem dL_ifPoint_10 : decode cL_ifPoint 10 = .ok (.goto 7, 3) := by decide +kernel
theorem dL_ifPoint_13 : decode cL_ifPoint 13 = .ok (.astore 4, 2) := by decide +kernel
theorem dL_ifPoint_15 : decode cL_ifPoint 15 = .ok (.iconst 1, 1) := by decide +kernel
theorem dL_ifPoint_16 : decode cL_ifPoint 16 = .ok (.ireturn, 1) := by decide +kernel
theorem dL_ifPoint_17 : decode cL_ifPoint 17 = .ok (.iconst 0, 1) := by decide +kernel
theorem dL_ifPoint_18 : decode cL_ifPoint 18 = .ok (.ireturn, 1) := by decide +kernel
theorem dL_law_0 : decode cL_law 0 = .ok (.new 8, 3) := by decide +kernel
theorem dL_law_3 : decode cL_law 3 = .ok (.dup, 1) := by decide +kernel
theorem dL_law_4 : decode cL_law 4 = .ok (.invokespecial 75, 3) := by decide +kernel
theorem dL_law_7 : decode cL_law 7 = .ok (.astore_n 1, 1) := by decide +kernel
theorem dL_law_8 : decode cL_law 8 = .ok (.new 76, 3) := by decide +kernel
theorem dL_law_11 : decode cL_law 11 = .ok (.dup, 1) := by decide +kernel
theorem dL_law_12 : decode cL_law 12 = .ok (.invokespecial 78, 3) := by decide +kernel
theorem dL_law_15 : decode cL_law 15 = .ok (.astore_n 2, 1) := by decide +kernel
theorem dL_law_16 : decode cL_law 16 = .ok (.iconst 1, 1) := by decide +kernel
theorem dL_law_17 : decode cL_law 17 = .ok (.newarray .long, 2) := by decide +kernel
theorem dL_law_19 : decode cL_law 19 = .ok (.astore_n 3, 1) := by decide +kernel
theorem dL_law_20 : decode cL_law 20 = .ok (.iconst 0, 1) := by decide +kernel
theorem dL_law_21 : decode cL_law 21 = .ok (.istore 4, 2) := by decide +kernel
theorem dL_law_23 : decode cL_law 23 = .ok (.iload 4, 2) := by decide +kernel
theorem dL_law_25 : decode cL_law 25 = .ok (.aload_n 0, 1) := by decide +kernel
theorem dL_law_26 : decode cL_law 26 = .ok (.arraylength, 1) := by decide +kernel
theorem dL_law_27 : decode cL_law 27 = .ok (.iconst 3, 1) := by decide +kernel
theorem dL_law_28 : decode cL_law 28 = .ok (.isub, 1) := by decide +kernel
theorem dL_law_29 : decode cL_law 29 = .ok (.if_icmp .gt 1394, 3) := by decide +kernel
theorem dL_law_32 : decode cL_law 32 = .ok (.aload_n 0, 1) := by decide +kernel
theorem dL_law_33 : decode cL_law 33 = .ok (.iload 4, 2) := by decide +kernel
theorem dL_law_35 : decode cL_law 35 = .ok (.iaload, 1) := by decide +kernel
theorem dL_law_36 : decode cL_law 36 = .ok (.bipush 31, 2) := by decide +kernel
theorem dL_law_38 : decode cL_law 38 = .ok (.iand, 1) := by decide +kernel
theorem dL_law_39 : decode cL_law 39 = .ok (.tableswitch 1378 0 26 #[121, 189, 257, 313, 326, 382, 426, 470, 526, 594, 650, 663, 676, 720, 788, 856, 912, 980, 1048, 1104, 1160, 1216, 1284, 1297, 1310, 1323, 1364], 121) := by decide +kernel
theorem dL_law_160 : decode cL_law 160 = .ok (.aload_n 1, 1) := by decide +kernel
theorem dL_law_161 : decode cL_law 161 = .ok (.aload_n 0, 1) := by decide +kernel
theorem dL_law_162 : decode cL_law 162 = .ok (.iload 4, 2) := by decide +kernel
theorem dL_law_164 : decode cL_law 164 = .ok (.iconst 1, 1) := by decide +kernel
theorem dL_law_165 : decode cL_law 165 = .ok (.iadd, 1) := by decide +kernel
theorem dL_law_166 : decode cL_law 166 = .ok (.iaload, 1) := by decide +kernel
theorem dL_law_167 : decode cL_law 167 = .ok (.aload_n 0, 1) := by decide +kernel
theorem dL_law_168 : decode cL_law 168 = .ok (.iload 4, 2) := by decide +kernel
theorem dL_law_170 : decode cL_law 170 = .ok (.iconst 2, 1) := by decide +kernel
theorem dL_law_171 : decode cL_law 171 = .ok (.iadd, 1) := by decide +kernel
theorem dL_law_172 : decode cL_law 172 = .ok (.iaload, 1) := by decide +kernel
theorem dL_law_173 : decode cL_law 173 = .ok (.aload_n 3, 1) := by decide +kernel
theorem dL_law_174 : decode cL_law 174 = .ok (.invokestatic 79, 3) := by decide +kernel
theorem dL_law_177 : decode cL_law 177 = .ok (.istore 5, 2) := by decide +kernel
theorem dL_law_179 : decode cL_law 179 = .ok (.aload_n 2, 1) := by decide +kernel
theorem dL_law_180 : decode cL_law 180 = .ok (.aload_n 0, 1) := by decide +kernel
theorem dL_law_181 : decode cL_law 181 = .ok (.iload 4, 2) := by decide +kernel
theorem dL_law_183 : decode cL_law 183 = .ok (.iconst 1, 1) := by decide +kernel
theorem dL_law_184 : decode cL_law 184 = .ok (.iadd, 1) := by decide +kernel
theorem dL_law_185 : decode cL_law 185 = .ok (.iaload, 1) := by decide +kernel
theorem dL_law_186 : decode cL_law 186 = .ok (.aload_n 0, 1) := by decide +kernel
theorem dL_law_187 : decode cL_law 187 = .ok (.iload 4, 2) := by decide +kernel
theorem dL_law_189 : decode cL_law 189 = .ok (.iconst 2, 1) := by decide +kernel
theorem dL_law_190 : decode cL_law 190 = .ok (.iadd, 1) := by decide +kernel
theorem dL_law_191 : decode cL_law 191 = .ok (.iaload, 1) := by decide +kernel
theorem dL_law_192 : decode cL_law 192 = .ok (.invokevirtual 84, 3) := by decide +kernel
theorem dL_law_195 : decode cL_law 195 = .ok (.istore 6, 2) := by decide +kernel
theorem dL_law_197 : decode cL_law 197 = .ok (.aload_n 2, 1) := by decide +kernel
theorem dL_law_198 : decode cL_law 198 = .ok (.invokevirtual 85, 3) := by decide +kernel
theorem dL_law_201 : decode cL_law 201 = .ok (.iload 5, 2) := by decide +kernel
theorem dL_law_203 : decode cL_law 203 = .ok (.if_icmp .eq 5, 3) := by decide +kernel
theorem dL_law_206 : decode cL_law 206 = .ok (.iconst 0, 1) := by decide +kernel
theorem dL_law_207 : decode cL_law 207 = .ok (.ireturn, 1) := by decide +kernel
theorem dL_law_208 : decode cL_law 208 = .ok (.iload 5, 2) := by decide +kernel
theorem dL_law_210 : decode cL_law 210 = .ok (.ifCond .ne 15, 3) := by decide +kernel
theorem dL_law_213 : decode cL_law 213 = .ok (.aload_n 3, 1) := by decide +kernel
theorem dL_law_214 : decode cL_law 214 = .ok (.iconst 0, 1) := by decide +kernel
theorem dL_law_215 : decode cL_law 215 = .ok (.laload, 1) := by decide +kernel
theorem dL_law_216 : decode cL_law 216 = .ok (.iload 6, 2) := by decide +kernel
theorem dL_law_218 : decode cL_law 218 = .ok (.i2l, 1) := by decide +kernel
theorem dL_law_219 : decode cL_law 219 = .ok (.lcmp, 1) := by decide +kernel
theorem dL_law_220 : decode cL_law 220 = .ok (.ifCond .eq 5, 3) := by decide +kernel
theorem dL_law_223 : decode cL_law 223 = .ok (.iconst 0, 1) := by decide +kernel
theorem dL_law_224 : decode cL_law 224 = .ok (.ireturn, 1) := by decide +kernel
theorem dL_law_225 : decode cL_law 225 = .ok (.goto 1192, 3) := by decide +kernel
theorem dL_law_228 : decode cL_law 228 = .ok (.aload_n 1, 1) := by decide +kernel
theorem dL_law_229 : decode cL_law 229 = .ok (.aload_n 0, 1) := by decide +kernel
theorem dL_law_230 : decode cL_law 230 = .ok (.iload 4, 2) := by decide +kernel
theorem dL_law_232 : decode cL_law 232 = .ok (.iconst 1, 1) := by decide +kernel
theorem dL_law_233 : decode cL_law 233 = .ok (.iadd, 1) := by decide +kernel
theorem dL_law_234 : decode cL_law 234 = .ok (.iaload, 1) := by decide +kernel
theorem dL_law_235 : decode cL_law 235 = .ok (.aload_n 0, 1) := by decide +kernel
theorem dL_law_236 : decode cL_law 236 = .ok (.iload 4, 2) := by decide +kernel
theorem dL_law_238 : decode cL_law 238 = .ok (.iconst 2, 1) := by decide +kernel
theorem dL_law_239 : decode cL_law 239 = .ok (.iadd, 1) := by decide +kernel
theorem dL_law_240 : decode cL_law 240 = .ok (.iaload, 1) := by decide +kernel
theorem dL_law_241 : decode cL_law 241 = .ok (.aload_n 3, 1) := by decide +kernel
theorem dL_law_242 : decode cL_law 242 = .ok (.invokestatic 88, 3) := by decide +kernel
theorem dL_law_245 : decode cL_law 245 = .ok (.istore 5, 2) := by decide +kernel
theorem dL_law_247 : decode cL_law 247 = .ok (.aload_n 2, 1) := by decide +kernel
theorem dL_law_248 : decode cL_law 248 = .ok (.aload_n 0, 1) := by decide +kernel
theorem dL_law_249 : decode cL_law 249 = .ok (.iload 4, 2) := by decide +kernel
theorem dL_law_251 : decode cL_law 251 = .ok (.iconst 1, 1) := by decide +kernel
theorem dL_law_252 : decode cL_law 252 = .ok (.iadd, 1) := by decide +kernel
theorem dL_law_253 : decode cL_law 253 = .ok (.iaload, 1) := by decide +kernel
theorem dL_law_254 : decode cL_law 254 = .ok (.aload_n 0, 1) := by decide +kernel
theorem dL_law_255 : decode cL_law 255 = .ok (.iload 4, 2) := by decide +kernel
theorem dL_law_257 : decode cL_law 257 = .ok (.iconst 2, 1) := by decide +kernel
theorem dL_law_258 : decode cL_law 258 = .ok (.iadd, 1) := by decide +kernel
theorem dL_law_259 : decode cL_law 259 = .ok (.iaload, 1) := by decide +kernel
theorem dL_law_260 : decode cL_law 260 = .ok (.invokevirtual 90, 3) := by decide +kernel
theorem dL_law_263 : decode cL_law 263 = .ok (.istore 6, 2) := by decide +kernel
theorem dL_law_265 : decode cL_law 265 = .ok (.aload_n 2, 1) := by decide +kernel
theorem dL_law_266 : decode cL_law 266 = .ok (.invokevirtual 85, 3) := by decide +kernel
theorem dL_law_269 : decode cL_law 269 = .ok (.iload 5, 2) := by decide +kernel
theorem dL_law_271 : decode cL_law 271 = .ok (.if_icmp .eq 5, 3) := by decide +kernel
theorem dL_law_274 : decode cL_law 274 = .ok (.iconst 0, 1) := by decide +kernel
theorem dL_law_275 : decode cL_law 275 = .ok (.ireturn, 1) := by decide +kernel
theorem dL_law_276 : decode cL_law 276 = .ok (.iload 5, 2) := by decide +kernel
theorem dL_law_278 : decode cL_law 278 = .ok (.ifCond .ne 15, 3) := by decide +kernel
theorem dL_law_281 : decode cL_law 281 = .ok (.aload_n 3, 1) := by decide +kernel
theorem dL_law_282 : decode cL_law 282 = .ok (.iconst 0, 1) := by decide +kernel
theorem dL_law_283 : decode cL_law 283 = .ok (.laload, 1) := by decide +kernel
theorem dL_law_284 : decode cL_law 284 = .ok (.iload 6, 2) := by decide +kernel
theorem dL_law_286 : decode cL_law 286 = .ok (.i2l, 1) := by decide +kernel
theorem dL_law_287 : decode cL_law 287 = .ok (.lcmp, 1) := by decide +kernel
theorem dL_law_288 : decode cL_law 288 = .ok (.ifCond .eq 5, 3) := by decide +kernel
theorem dL_law_291 : decode cL_law 291 = .ok (.iconst 0, 1) := by decide +kernel
theorem dL_law_292 : decode cL_law 292 = .ok (.ireturn, 1) := by decide +kernel
theorem dL_law_293 : decode cL_law 293 = .ok (.goto 1124, 3) := by decide +kernel
theorem dL_law_296 : decode cL_law 296 = .ok (.aload_n 1, 1) := by decide +kernel
theorem dL_law_297 : decode cL_law 297 = .ok (.aload_n 0, 1) := by decide +kernel
theorem dL_law_298 : decode cL_law 298 = .ok (.iload 4, 2) := by decide +kernel
theorem dL_law_300 : decode cL_law 300 = .ok (.iconst 1, 1) := by decide +kernel
theorem dL_law_301 : decode cL_law 301 = .ok (.iadd, 1) := by decide +kernel
theorem dL_law_302 : decode cL_law 302 = .ok (.iaload, 1) := by decide +kernel
theorem dL_law_303 : decode cL_law 303 = .ok (.aload_n 3, 1) := by decide +kernel
theorem dL_law_304 : decode cL_law 304 = .ok (.invokestatic 91, 3) := by decide +kernel
theorem dL_law_307 : decode cL_law 307 = .ok (.istore 5, 2) := by decide +kernel
theorem dL_law_309 : decode cL_law 309 = .ok (.aload_n 2, 1) := by decide +kernel
theorem dL_law_310 : decode cL_law 310 = .ok (.aload_n 0, 1) := by decide +kernel
theorem dL_law_311 : decode cL_law 311 = .ok (.iload 4, 2) := by decide +kernel
theorem dL_law_313 : decode cL_law 313 = .ok (.iconst 1, 1) := by decide +kernel
theorem dL_law_314 : decode cL_law 314 = .ok (.iadd, 1) := by decide +kernel
theorem dL_law_315 : decode cL_law 315 = .ok (.iaload, 1) := by decide +kernel
theorem dL_law_316 : decode cL_law 316 = .ok (.invokevirtual 94, 3) := by decide +kernel
theorem dL_law_319 : decode cL_law 319 = .ok (.istore 6, 2) := by decide +kernel
theorem dL_law_321 : decode cL_law 321 = .ok (.aload_n 2, 1) := by decide +kernel
theorem dL_law_322 : decode cL_law 322 = .ok (.invokevirtual 85, 3) := by decide +kernel
theorem dL_law_325 : decode cL_law 325 = .ok (.iload 5, 2) := by decide +kernel
theorem dL_law_327 : decode cL_law 327 = .ok (.if_icmp .eq 5, 3) := by decide +kernel
theorem dL_law_330 : decode cL_law 330 = .ok (.iconst 0, 1) := by decide +kernel
theorem dL_law_331 : decode cL_law 331 = .ok (.ireturn, 1) := by decide +kernel
theorem dL_law_332 : decode cL_law 332 = .ok (.iload 5, 2) := by decide +kernel
theorem dL_law_334 : decode cL_law 334 = .ok (.ifCond .ne 15, 3) := by decide +kernel
theorem dL_law_337 : decode cL_law 337 = .ok (.aload_n 3, 1) := by decide +kernel
theorem dL_law_338 : decode cL_law 338 = .ok (.iconst 0, 1) := by decide +kernel
theorem dL_law_339 : decode cL_law 339 = .ok (.laload, 1) := by decide +kernel
theorem dL_law_340 : decode cL_law 340 = .ok (.iload 6, 2) := by decide +kernel
theorem dL_law_342 : decode cL_law 342 = .ok (.i2l, 1) := by decide +kernel
theorem dL_law_343 : decode cL_law 343 = .ok (.lcmp, 1) := by decide +kernel
theorem dL_law_344 : decode cL_law 344 = .ok (.ifCond .eq 5, 3) := by decide +kernel
theorem dL_law_347 : decode cL_law 347 = .ok (.iconst 0, 1) := by decide +kernel
theorem dL_law_348 : decode cL_law 348 = .ok (.ireturn, 1) := by decide +kernel
theorem dL_law_349 : decode cL_law 349 = .ok (.goto 1068, 3) := by decide +kernel
theorem dL_law_352 : decode cL_law 352 = .ok (.aload_n 1, 1) := by decide +kernel
theorem dL_law_353 : decode cL_law 353 = .ok (.invokevirtual 95, 3) := by decide +kernel
theorem dL_law_356 : decode cL_law 356 = .ok (.aload_n 2, 1) := by decide +kernel
theorem dL_law_357 : decode cL_law 357 = .ok (.invokevirtual 98, 3) := by decide +kernel
theorem dL_law_360 : decode cL_law 360 = .ok (.if_icmp .eq 1057, 3) := by decide +kernel
theorem dL_law_363 : decode cL_law 363 = .ok (.iconst 0, 1) := by decide +kernel
theorem dL_law_364 : decode cL_law 364 = .ok (.ireturn, 1) := by decide +kernel
theorem dL_law_365 : decode cL_law 365 = .ok (.aload_n 1, 1) := by decide +kernel
theorem dL_law_366 : decode cL_law 366 = .ok (.aload_n 0, 1) := by decide +kernel
theorem dL_law_367 : decode cL_law 367 = .ok (.iload 4, 2) := by decide +kernel
theorem dL_law_369 : decode cL_law 369 = .ok (.iconst 1, 1) := by decide +kernel
theorem dL_law_370 : decode cL_law 370 = .ok (.iadd, 1) := by decide +kernel
theorem dL_law_371 : decode cL_law 371 = .ok (.iaload, 1) := by decide +kernel
theorem dL_law_372 : decode cL_law 372 = .ok (.aload_n 3, 1) := by decide +kernel
theorem dL_law_373 : decode cL_law 373 = .ok (.invokestatic 99, 3) := by decide +kernel
theorem dL_law_376 : decode cL_law 376 = .ok (.istore 5, 2) := by decide +kernel
theorem dL_law_378 : decode cL_law 378 = .ok (.aload_n 2, 1) := by decide +kernel
theorem dL_law_379 : decode cL_law 379 = .ok (.aload_n 0, 1) := by decide +kernel
theorem dL_law_380 : decode cL_law 380 = .ok (.iload 4, 2) := by decide +kernel
theorem dL_law_382 : decode cL_law 382 = .ok (.iconst 1, 1) := by decide +kernel
theorem dL_law_383 : decode cL_law 383 = .ok (.iadd, 1) := by decide +kernel
theorem dL_law_384 : decode cL_law 384 = .ok (.iaload, 1) := by decide +kernel
theorem dL_law_385 : decode cL_law 385 = .ok (.invokevirtual 101, 3) := by decide +kernel
theorem dL_law_388 : decode cL_law 388 = .ok (.istore 6, 2) := by decide +kernel
theorem dL_law_390 : decode cL_law 390 = .ok (.aload_n 2, 1) := by decide +kernel
theorem dL_law_391 : decode cL_law 391 = .ok (.invokevirtual 85, 3) := by decide +kernel
theorem dL_law_394 : decode cL_law 394 = .ok (.iload 5, 2) := by decide +kernel
theorem dL_law_396 : decode cL_law 396 = .ok (.if_icmp .eq 5, 3) := by decide +kernel
theorem dL_law_399 : decode cL_law 399 = .ok (.iconst 0, 1) := by decide +kernel
theorem dL_law_400 : decode cL_law 400 = .ok (.ireturn, 1) := by decide +kernel
theorem dL_law_401 : decode cL_law 401 = .ok (.iload 5, 2) := by decide +kernel
theorem dL_law_403 : decode cL_law 403 = .ok (.ifCond .ne 15, 3) := by decide +kernel
theorem dL_law_406 : decode cL_law 406 = .ok (.aload_n 3, 1) := by decide +kernel
theorem dL_law_407 : decode cL_law 407 = .ok (.iconst 0, 1) := by decide +kernel
theorem dL_law_408 : decode cL_law 408 = .ok (.laload, 1) := by decide +kernel
theorem dL_law_409 : decode cL_law 409 = .ok (.iload 6, 2) := by decide +kernel
theorem dL_law_411 : decode cL_law 411 = .ok (.i2l, 1) := by decide +kernel
theorem dL_law_412 : decode cL_law 412 = .ok (.lcmp, 1) := by decide +kernel
theorem dL_law_413 : decode cL_law 413 = .ok (.ifCond .eq 5, 3) := by decide +kernel
theorem dL_law_416 : decode cL_law 416 = .ok (.iconst 0, 1) := by decide +kernel
theorem dL_law_417 : decode cL_law 417 = .ok (.ireturn, 1) := by decide +kernel
theorem dL_law_418 : decode cL_law 418 = .ok (.goto 999, 3) := by decide +kernel
theorem dL_law_421 : decode cL_law 421 = .ok (.aload_n 1, 1) := by decide +kernel
theorem dL_law_422 : decode cL_law 422 = .ok (.aload_n 3, 1) := by decide +kernel
theorem dL_law_423 : decode cL_law 423 = .ok (.invokestatic 102, 3) := by decide +kernel
theorem dL_law_426 : decode cL_law 426 = .ok (.istore 5, 2) := by decide +kernel
theorem dL_law_428 : decode cL_law 428 = .ok (.aload_n 2, 1) := by decide +kernel
theorem dL_law_429 : decode cL_law 429 = .ok (.invokevirtual 105, 3) := by decide +kernel
theorem dL_law_432 : decode cL_law 432 = .ok (.istore 6, 2) := by decide +kernel
theorem dL_law_434 : decode cL_law 434 = .ok (.aload_n 2, 1) := by decide +kernel
theorem dL_law_435 : decode cL_law 435 = .ok (.invokevirtual 85, 3) := by decide +kernel
theorem dL_law_438 : decode cL_law 438 = .ok (.iload 5, 2) := by decide +kernel
theorem dL_law_440 : decode cL_law 440 = .ok (.if_icmp .eq 5, 3) := by decide +kernel
theorem dL_law_443 : decode cL_law 443 = .ok (.iconst 0, 1) := by decide +kernel
theorem dL_law_444 : decode cL_law 444 = .ok (.ireturn, 1) := by decide +kernel
theorem dL_law_445 : decode cL_law 445 = .ok (.iload 5, 2) := by decide +kernel
theorem dL_law_447 : decode cL_law 447 = .ok (.ifCond .ne 15, 3) := by decide +kernel
theorem dL_law_450 : decode cL_law 450 = .ok (.aload_n 3, 1) := by decide +kernel
theorem dL_law_451 : decode cL_law 451 = .ok (.iconst 0, 1) := by decide +kernel
theorem dL_law_452 : decode cL_law 452 = .ok (.laload, 1) := by decide +kernel
theorem dL_law_453 : decode cL_law 453 = .ok (.iload 6, 2) := by decide +kernel
theorem dL_law_455 : decode cL_law 455 = .ok (.i2l, 1) := by decide +kernel
theorem dL_law_456 : decode cL_law 456 = .ok (.lcmp, 1) := by decide +kernel
theorem dL_law_457 : decode cL_law 457 = .ok (.ifCond .eq 5, 3) := by decide +kernel
theorem dL_law_460 : decode cL_law 460 = .ok (.iconst 0, 1) := by decide +kernel
theorem dL_law_461 : decode cL_law 461 = .ok (.ireturn, 1) := by decide +kernel
theorem dL_law_462 : decode cL_law 462 = .ok (.goto 955, 3) := by decide +kernel
theorem dL_law_465 : decode cL_law 465 = .ok (.aload_n 1, 1) := by decide +kernel
theorem dL_law_466 : decode cL_law 466 = .ok (.aload_n 3, 1) := by decide +kernel
theorem dL_law_467 : decode cL_law 467 = .ok (.invokestatic 106, 3) := by decide +kernel
theorem dL_law_470 : decode cL_law 470 = .ok (.istore 5, 2) := by decide +kernel
theorem dL_law_472 : decode cL_law 472 = .ok (.aload_n 2, 1) := by decide +kernel
theorem dL_law_473 : decode cL_law 473 = .ok (.invokevirtual 108, 3) := by decide +kernel
theorem dL_law_476 : decode cL_law 476 = .ok (.istore 6, 2) := by decide +kernel
theorem dL_law_478 : decode cL_law 478 = .ok (.aload_n 2, 1) := by decide +kernel
theorem dL_law_479 : decode cL_law 479 = .ok (.invokevirtual 85, 3) := by decide +kernel
theorem dL_law_482 : decode cL_law 482 = .ok (.iload 5, 2) := by decide +kernel
theorem dL_law_484 : decode cL_law 484 = .ok (.if_icmp .eq 5, 3) := by decide +kernel
theorem dL_law_487 : decode cL_law 487 = .ok (.iconst 0, 1) := by decide +kernel
theorem dL_law_488 : decode cL_law 488 = .ok (.ireturn, 1) := by decide +kernel
theorem dL_law_489 : decode cL_law 489 = .ok (.iload 5, 2) := by decide +kernel
theorem dL_law_491 : decode cL_law 491 = .ok (.ifCond .ne 15, 3) := by decide +kernel
theorem dL_law_494 : decode cL_law 494 = .ok (.aload_n 3, 1) := by decide +kernel
theorem dL_law_495 : decode cL_law 495 = .ok (.iconst 0, 1) := by decide +kernel
theorem dL_law_496 : decode cL_law 496 = .ok (.laload, 1) := by decide +kernel
theorem dL_law_497 : decode cL_law 497 = .ok (.iload 6, 2) := by decide +kernel
theorem dL_law_499 : decode cL_law 499 = .ok (.i2l, 1) := by decide +kernel
theorem dL_law_500 : decode cL_law 500 = .ok (.lcmp, 1) := by decide +kernel
theorem dL_law_501 : decode cL_law 501 = .ok (.ifCond .eq 5, 3) := by decide +kernel
theorem dL_law_504 : decode cL_law 504 = .ok (.iconst 0, 1) := by decide +kernel
theorem dL_law_505 : decode cL_law 505 = .ok (.ireturn, 1) := by decide +kernel
theorem dL_law_506 : decode cL_law 506 = .ok (.goto 911, 3) := by decide +kernel
theorem dL_law_509 : decode cL_law 509 = .ok (.aload_n 1, 1) := by decide +kernel
theorem dL_law_510 : decode cL_law 510 = .ok (.aload_n 0, 1) := by decide +kernel
theorem dL_law_511 : decode cL_law 511 = .ok (.iload 4, 2) := by decide +kernel
theorem dL_law_513 : decode cL_law 513 = .ok (.iconst 1, 1) := by decide +kernel
theorem dL_law_514 : decode cL_law 514 = .ok (.iadd, 1) := by decide +kernel
theorem dL_law_515 : decode cL_law 515 = .ok (.iaload, 1) := by decide +kernel
theorem dL_law_516 : decode cL_law 516 = .ok (.aload_n 3, 1) := by decide +kernel
theorem dL_law_517 : decode cL_law 517 = .ok (.invokestatic 109, 3) := by decide +kernel
theorem dL_law_520 : decode cL_law 520 = .ok (.istore 5, 2) := by decide +kernel
theorem dL_law_522 : decode cL_law 522 = .ok (.aload_n 2, 1) := by decide +kernel
theorem dL_law_523 : decode cL_law 523 = .ok (.aload_n 0, 1) := by decide +kernel
theorem dL_law_524 : decode cL_law 524 = .ok (.iload 4, 2) := by decide +kernel
theorem dL_law_526 : decode cL_law 526 = .ok (.iconst 1, 1) := by decide +kernel
theorem dL_law_527 : decode cL_law 527 = .ok (.iadd, 1) := by decide +kernel
theorem dL_law_528 : decode cL_law 528 = .ok (.iaload, 1) := by decide +kernel
theorem dL_law_529 : decode cL_law 529 = .ok (.invokevirtual 111, 3) := by decide +kernel
theorem dL_law_532 : decode cL_law 532 = .ok (.istore 6, 2) := by decide +kernel
theorem dL_law_534 : decode cL_law 534 = .ok (.aload_n 2, 1) := by decide +kernel
theorem dL_law_535 : decode cL_law 535 = .ok (.invokevirtual 85, 3) := by decide +kernel
theorem dL_law_538 : decode cL_law 538 = .ok (.iload 5, 2) := by decide +kernel
theorem dL_law_540 : decode cL_law 540 = .ok (.if_icmp .eq 5, 3) := by decide +kernel
theorem dL_law_543 : decode cL_law 543 = .ok (.iconst 0, 1) := by decide +kernel
theorem dL_law_544 : decode cL_law 544 = .ok (.ireturn, 1) := by decide +kernel
theorem dL_law_545 : decode cL_law 545 = .ok (.iload 5, 2) := by decide +kernel
theorem dL_law_547 : decode cL_law 547 = .ok (.ifCond .ne 15, 3) := by decide +kernel
theorem dL_law_550 : decode cL_law 550 = .ok (.aload_n 3, 1) := by decide +kernel
theorem dL_law_551 : decode cL_law 551 = .ok (.iconst 0, 1) := by decide +kernel
theorem dL_law_552 : decode cL_law 552 = .ok (.laload, 1) := by decide +kernel
theorem dL_law_553 : decode cL_law 553 = .ok (.iload 6, 2) := by decide +kernel
theorem dL_law_555 : decode cL_law 555 = .ok (.i2l, 1) := by decide +kernel
theorem dL_law_556 : decode cL_law 556 = .ok (.lcmp, 1) := by decide +kernel
theorem dL_law_557 : decode cL_law 557 = .ok (.ifCond .eq 5, 3) := by decide +kernel
theorem dL_law_560 : decode cL_law 560 = .ok (.iconst 0, 1) := by decide +kernel
theorem dL_law_561 : decode cL_law 561 = .ok (.ireturn, 1) := by decide +kernel
theorem dL_law_562 : decode cL_law 562 = .ok (.goto 855, 3) := by decide +kernel
theorem dL_law_565 : decode cL_law 565 = .ok (.aload_n 1, 1) := by decide +kernel
theorem dL_law_566 : decode cL_law 566 = .ok (.aload_n 0, 1) := by decide +kernel
theorem dL_law_567 : decode cL_law 567 = .ok (.iload 4, 2) := by decide +kernel
theorem dL_law_569 : decode cL_law 569 = .ok (.iconst 1, 1) := by decide +kernel
theorem dL_law_570 : decode cL_law 570 = .ok (.iadd, 1) := by decide +kernel
theorem dL_law_571 : decode cL_law 571 = .ok (.iaload, 1) := by decide +kernel
theorem dL_law_572 : decode cL_law 572 = .ok (.aload_n 0, 1) := by decide +kernel
theorem dL_law_573 : decode cL_law 573 = .ok (.iload 4, 2) := by decide +kernel
theorem dL_law_575 : decode cL_law 575 = .ok (.iconst 2, 1) := by decide +kernel
theorem dL_law_576 : decode cL_law 576 = .ok (.iadd, 1) := by decide +kernel
theorem dL_law_577 : decode cL_law 577 = .ok (.iaload, 1) := by decide +kernel
theorem dL_law_578 : decode cL_law 578 = .ok (.aload_n 3, 1) := by decide +kernel
theorem dL_law_579 : decode cL_law 579 = .ok (.invokestatic 112, 3) := by decide +kernel
theorem dL_law_582 : decode cL_law 582 = .ok (.istore 5, 2) := by decide +kernel
theorem dL_law_584 : decode cL_law 584 = .ok (.aload_n 2, 1) := by decide +kernel
theorem dL_law_585 : decode cL_law 585 = .ok (.aload_n 0, 1) := by decide +kernel
theorem dL_law_586 : decode cL_law 586 = .ok (.iload 4, 2) := by decide +kernel
theorem dL_law_588 : decode cL_law 588 = .ok (.iconst 1, 1) := by decide +kernel
theorem dL_law_589 : decode cL_law 589 = .ok (.iadd, 1) := by decide +kernel
theorem dL_law_590 : decode cL_law 590 = .ok (.iaload, 1) := by decide +kernel
theorem dL_law_591 : decode cL_law 591 = .ok (.aload_n 0, 1) := by decide +kernel
theorem dL_law_592 : decode cL_law 592 = .ok (.iload 4, 2) := by decide +kernel
theorem dL_law_594 : decode cL_law 594 = .ok (.iconst 2, 1) := by decide +kernel
theorem dL_law_595 : decode cL_law 595 = .ok (.iadd, 1) := by decide +kernel
theorem dL_law_596 : decode cL_law 596 = .ok (.iaload, 1) := by decide +kernel
theorem dL_law_597 : decode cL_law 597 = .ok (.invokevirtual 114, 3) := by decide +kernel
theorem dL_law_600 : decode cL_law 600 = .ok (.istore 6, 2) := by decide +kernel
theorem dL_law_602 : decode cL_law 602 = .ok (.aload_n 2, 1) := by decide +kernel
theorem dL_law_603 : decode cL_law 603 = .ok (.invokevirtual 85, 3) := by decide +kernel
theorem dL_law_606 : decode cL_law 606 = .ok (.iload 5, 2) := by decide +kernel
theorem dL_law_608 : decode cL_law 608 = .ok (.if_icmp .eq 5, 3) := by decide +kernel
theorem dL_law_611 : decode cL_law 611 = .ok (.iconst 0, 1) := by decide +kernel
theorem dL_law_612 : decode cL_law 612 = .ok (.ireturn, 1) := by decide +kernel
theorem dL_law_613 : decode cL_law 613 = .ok (.iload 5, 2) := by decide +kernel
theorem dL_law_615 : decode cL_law 615 = .ok (.ifCond .ne 15, 3) := by decide +kernel
theorem dL_law_618 : decode cL_law 618 = .ok (.aload_n 3, 1) := by decide +kernel
theorem dL_law_619 : decode cL_law 619 = .ok (.iconst 0, 1) := by decide +kernel
theorem dL_law_620 : decode cL_law 620 = .ok (.laload, 1) := by decide +kernel
theorem dL_law_621 : decode cL_law 621 = .ok (.iload 6, 2) := by decide +kernel
theorem dL_law_623 : decode cL_law 623 = .ok (.i2l, 1) := by decide +kernel
theorem dL_law_624 : decode cL_law 624 = .ok (.lcmp, 1) := by decide +kernel
theorem dL_law_625 : decode cL_law 625 = .ok (.ifCond .eq 5, 3) := by decide +kernel
theorem dL_law_628 : decode cL_law 628 = .ok (.iconst 0, 1) := by decide +kernel
theorem dL_law_629 : decode cL_law 629 = .ok (.ireturn, 1) := by decide +kernel
theorem dL_law_630 : decode cL_law 630 = .ok (.goto 787, 3) := by decide +kernel
theorem dL_law_633 : decode cL_law 633 = .ok (.aload_n 1, 1) := by decide +kernel
theorem dL_law_634 : decode cL_law 634 = .ok (.aload_n 0, 1) := by decide +kernel
theorem dL_law_635 : decode cL_law 635 = .ok (.iload 4, 2) := by decide +kernel
theorem dL_law_637 : decode cL_law 637 = .ok (.iconst 1, 1) := by decide +kernel
theorem dL_law_638 : decode cL_law 638 = .ok (.iadd, 1) := by decide +kernel
theorem dL_law_639 : decode cL_law 639 = .ok (.iaload, 1) := by decide +kernel
theorem dL_law_640 : decode cL_law 640 = .ok (.aload_n 3, 1) := by decide +kernel
theorem dL_law_641 : decode cL_law 641 = .ok (.invokestatic 115, 3) := by decide +kernel
theorem dL_law_644 : decode cL_law 644 = .ok (.istore 5, 2) := by decide +kernel
theorem dL_law_646 : decode cL_law 646 = .ok (.aload_n 2, 1) := by decide +kernel
theorem dL_law_647 : decode cL_law 647 = .ok (.aload_n 0, 1) := by decide +kernel
theorem dL_law_648 : decode cL_law 648 = .ok (.iload 4, 2) := by decide +kernel
theorem dL_law_650 : decode cL_law 650 = .ok (.iconst 1, 1) := by decide +kernel
theorem dL_law_651 : decode cL_law 651 = .ok (.iadd, 1) := by decide +kernel
theorem dL_law_652 : decode cL_law 652 = .ok (.iaload, 1) := by decide +kernel
theorem dL_law_653 : decode cL_law 653 = .ok (.invokevirtual 117, 3) := by decide +kernel
theorem dL_law_656 : decode cL_law 656 = .ok (.istore 6, 2) := by decide +kernel
theorem dL_law_658 : decode cL_law 658 = .ok (.aload_n 2, 1) := by decide +kernel
theorem dL_law_659 : decode cL_law 659 = .ok (.invokevirtual 85, 3) := by decide +kernel
theorem dL_law_662 : decode cL_law 662 = .ok (.iload 5, 2) := by decide +kernel
theorem dL_law_664 : decode cL_law 664 = .ok (.if_icmp .eq 5, 3) := by decide +kernel
theorem dL_law_667 : decode cL_law 667 = .ok (.iconst 0, 1) := by decide +kernel
theorem dL_law_668 : decode cL_law 668 = .ok (.ireturn, 1) := by decide +kernel
theorem dL_law_669 : decode cL_law 669 = .ok (.iload 5, 2) := by decide +kernel
theorem dL_law_671 : decode cL_law 671 = .ok (.ifCond .ne 15, 3) := by decide +kernel
theorem dL_law_674 : decode cL_law 674 = .ok (.aload_n 3, 1) := by decide +kernel
theorem dL_law_675 : decode cL_law 675 = .ok (.iconst 0, 1) := by decide +kernel
theorem dL_law_676 : decode cL_law 676 = .ok (.laload, 1) := by decide +kernel
theorem dL_law_677 : decode cL_law 677 = .ok (.iload 6, 2) := by decide +kernel
theorem dL_law_679 : decode cL_law 679 = .ok (.i2l, 1) := by decide +kernel
theorem dL_law_680 : decode cL_law 680 = .ok (.lcmp, 1) := by decide +kernel
theorem dL_law_681 : decode cL_law 681 = .ok (.ifCond .eq 5, 3) := by decide +kernel
theorem dL_law_684 : decode cL_law 684 = .ok (.iconst 0, 1) := by decide +kernel
theorem dL_law_685 : decode cL_law 685 = .ok (.ireturn, 1) := by decide +kernel
theorem dL_law_686 : decode cL_law 686 = .ok (.goto 731, 3) := by decide +kernel
theorem dL_law_689 : decode cL_law 689 = .ok (.aload_n 1, 1) := by decide +kernel
theorem dL_law_690 : decode cL_law 690 = .ok (.invokevirtual 118, 3) := by decide +kernel
theorem dL_law_693 : decode cL_law 693 = .ok (.aload_n 2, 1) := by decide +kernel
theorem dL_law_694 : decode cL_law 694 = .ok (.invokevirtual 121, 3) := by decide +kernel
theorem dL_law_697 : decode cL_law 697 = .ok (.if_icmp .eq 720, 3) := by decide +kernel
theorem dL_law_700 : decode cL_law 700 = .ok (.iconst 0, 1) := by decide +kernel
theorem dL_law_701 : decode cL_law 701 = .ok (.ireturn, 1) := by decide +kernel
theorem dL_law_702 : decode cL_law 702 = .ok (.aload_n 1, 1) := by decide +kernel
theorem dL_law_703 : decode cL_law 703 = .ok (.invokevirtual 122, 3) := by decide +kernel
theorem dL_law_706 : decode cL_law 706 = .ok (.aload_n 2, 1) := by decide +kernel
theorem dL_law_707 : decode cL_law 707 = .ok (.invokevirtual 125, 3) := by decide +kernel
theorem dL_law_710 : decode cL_law 710 = .ok (.if_icmp .eq 707, 3) := by decide +kernel
theorem dL_law_713 : decode cL_law 713 = .ok (.iconst 0, 1) := by decide +kernel
theorem dL_law_714 : decode cL_law 714 = .ok (.ireturn, 1) := by decide +kernel
theorem dL_law_715 : decode cL_law 715 = .ok (.aload_n 1, 1) := by decide +kernel
theorem dL_law_716 : decode cL_law 716 = .ok (.aload_n 3, 1) := by decide +kernel
theorem dL_law_717 : decode cL_law 717 = .ok (.invokestatic 126, 3) := by decide +kernel
theorem dL_law_720 : decode cL_law 720 = .ok (.istore 5, 2) := by decide +kernel
theorem dL_law_722 : decode cL_law 722 = .ok (.aload_n 2, 1) := by decide +kernel
theorem dL_law_723 : decode cL_law 723 = .ok (.invokevirtual 128, 3) := by decide +kernel
theorem dL_law_726 : decode cL_law 726 = .ok (.istore 6, 2) := by decide +kernel
theorem dL_law_728 : decode cL_law 728 = .ok (.aload_n 2, 1) := by decide +kernel
theorem dL_law_729 : decode cL_law 729 = .ok (.invokevirtual 85, 3) := by decide +kernel
theorem dL_law_732 : decode cL_law 732 = .ok (.iload 5, 2) := by decide +kernel
theorem dL_law_734 : decode cL_law 734 = .ok (.if_icmp .eq 5, 3) := by decide +kernel
theorem dL_law_737 : decode cL_law 737 = .ok (.iconst 0, 1) := by decide +kernel
theorem dL_law_738 : decode cL_law 738 = .ok (.ireturn, 1) := by decide +kernel
theorem dL_law_739 : decode cL_law 739 = .ok (.iload 5, 2) := by decide +kernel
theorem dL_law_741 : decode cL_law 741 = .ok (.ifCond .ne 15, 3) := by decide +kernel
theorem dL_law_744 : decode cL_law 744 = .ok (.aload_n 3, 1) := by decide +kernel
theorem dL_law_745 : decode cL_law 745 = .ok (.iconst 0, 1) := by decide +kernel
theorem dL_law_746 : decode cL_law 746 = .ok (.laload, 1) := by decide +kernel
theorem dL_law_747 : decode cL_law 747 = .ok (.iload 6, 2) := by decide +kernel
theorem dL_law_749 : decode cL_law 749 = .ok (.i2l, 1) := by decide +kernel
theorem dL_law_750 : decode cL_law 750 = .ok (.lcmp, 1) := by decide +kernel
theorem dL_law_751 : decode cL_law 751 = .ok (.ifCond .eq 5, 3) := by decide +kernel
theorem dL_law_754 : decode cL_law 754 = .ok (.iconst 0, 1) := by decide +kernel
theorem dL_law_755 : decode cL_law 755 = .ok (.ireturn, 1) := by decide +kernel
theorem dL_law_756 : decode cL_law 756 = .ok (.goto 661, 3) := by decide +kernel
theorem dL_law_759 : decode cL_law 759 = .ok (.aload_n 1, 1) := by decide +kernel
theorem dL_law_760 : decode cL_law 760 = .ok (.aload_n 0, 1) := by decide +kernel
theorem dL_law_761 : decode cL_law 761 = .ok (.iload 4, 2) := by decide +kernel
theorem dL_law_763 : decode cL_law 763 = .ok (.iconst 1, 1) := by decide +kernel
theorem dL_law_764 : decode cL_law 764 = .ok (.iadd, 1) := by decide +kernel
theorem dL_law_765 : decode cL_law 765 = .ok (.iaload, 1) := by decide +kernel
theorem dL_law_766 : decode cL_law 766 = .ok (.aload_n 0, 1) := by decide +kernel
theorem dL_law_767 : decode cL_law 767 = .ok (.iload 4, 2) := by decide +kernel
theorem dL_law_769 : decode cL_law 769 = .ok (.iconst 2, 1) := by decide +kernel
theorem dL_law_770 : decode cL_law 770 = .ok (.iadd, 1) := by decide +kernel
theorem dL_law_771 : decode cL_law 771 = .ok (.iaload, 1) := by decide +kernel
theorem dL_law_772 : decode cL_law 772 = .ok (.aload_n 3, 1) := by decide +kernel
theorem dL_law_773 : decode cL_law 773 = .ok (.invokestatic 129, 3) := by decide +kernel
theorem dL_law_776 : decode cL_law 776 = .ok (.istore 5, 2) := by decide +kernel
theorem dL_law_778 : decode cL_law 778 = .ok (.aload_n 2, 1) := by decide +kernel
theorem dL_law_779 : decode cL_law 779 = .ok (.aload_n 0, 1) := by decide +kernel
theorem dL_law_780 : decode cL_law 780 = .ok (.iload 4, 2) := by decide +kernel
theorem dL_law_782 : decode cL_law 782 = .ok (.iconst 1, 1) := by decide +kernel
theorem dL_law_783 : decode cL_law 783 = .ok (.iadd, 1) := by decide +kernel
theorem dL_law_784 : decode cL_law 784 = .ok (.iaload, 1) := by decide +kernel
theorem dL_law_785 : decode cL_law 785 = .ok (.aload_n 0, 1) := by decide +kernel
theorem dL_law_786 : decode cL_law 786 = .ok (.iload 4, 2) := by decide +kernel
theorem dL_law_788 : decode cL_law 788 = .ok (.iconst 2, 1) := by decide +kernel
theorem dL_law_789 : decode cL_law 789 = .ok (.iadd, 1) := by decide +kernel
theorem dL_law_790 : decode cL_law 790 = .ok (.iaload, 1) := by decide +kernel
theorem dL_law_791 : decode cL_law 791 = .ok (.invokevirtual 131, 3) := by decide +kernel
theorem dL_law_794 : decode cL_law 794 = .ok (.istore 6, 2) := by decide +kernel
theorem dL_law_796 : decode cL_law 796 = .ok (.aload_n 2, 1) := by decide +kernel
theorem dL_law_797 : decode cL_law 797 = .ok (.invokevirtual 85, 3) := by decide +kernel
theorem dL_law_800 : decode cL_law 800 = .ok (.iload 5, 2) := by decide +kernel
theorem dL_law_802 : decode cL_law 802 = .ok (.if_icmp .eq 5, 3) := by decide +kernel
theorem dL_law_805 : decode cL_law 805 = .ok (.iconst 0, 1) := by decide +kernel
theorem dL_law_806 : decode cL_law 806 = .ok (.ireturn, 1) := by decide +kernel
theorem dL_law_807 : decode cL_law 807 = .ok (.iload 5, 2) := by decide +kernel
theorem dL_law_809 : decode cL_law 809 = .ok (.ifCond .ne 15, 3) := by decide +kernel
theorem dL_law_812 : decode cL_law 812 = .ok (.aload_n 3, 1) := by decide +kernel
theorem dL_law_813 : decode cL_law 813 = .ok (.iconst 0, 1) := by decide +kernel
theorem dL_law_814 : decode cL_law 814 = .ok (.laload, 1) := by decide +kernel
theorem dL_law_815 : decode cL_law 815 = .ok (.iload 6, 2) := by decide +kernel
theorem dL_law_817 : decode cL_law 817 = .ok (.i2l, 1) := by decide +kernel
theorem dL_law_818 : decode cL_law 818 = .ok (.lcmp, 1) := by decide +kernel
theorem dL_law_819 : decode cL_law 819 = .ok (.ifCond .eq 5, 3) := by decide +kernel
theorem dL_law_822 : decode cL_law 822 = .ok (.iconst 0, 1) := by decide +kernel
theorem dL_law_823 : decode cL_law 823 = .ok (.ireturn, 1) := by decide +kernel
theorem dL_law_824 : decode cL_law 824 = .ok (.goto 593, 3) := by decide +kernel
theorem dL_law_827 : decode cL_law 827 = .ok (.aload_n 1, 1) := by decide +kernel
theorem dL_law_828 : decode cL_law 828 = .ok (.aload_n 0, 1) := by decide +kernel
theorem dL_law_829 : decode cL_law 829 = .ok (.iload 4, 2) := by decide +kernel
theorem dL_law_831 : decode cL_law 831 = .ok (.iconst 1, 1) := by decide +kernel
theorem dL_law_832 : decode cL_law 832 = .ok (.iadd, 1) := by decide +kernel
theorem dL_law_833 : decode cL_law 833 = .ok (.iaload, 1) := by decide +kernel
theorem dL_law_834 : decode cL_law 834 = .ok (.aload_n 0, 1) := by decide +kernel
theorem dL_law_835 : decode cL_law 835 = .ok (.iload 4, 2) := by decide +kernel
theorem dL_law_837 : decode cL_law 837 = .ok (.iconst 2, 1) := by decide +kernel
theorem dL_law_838 : decode cL_law 838 = .ok (.iadd, 1) := by decide +kernel
theorem dL_law_839 : decode cL_law 839 = .ok (.iaload, 1) := by decide +kernel
theorem dL_law_840 : decode cL_law 840 = .ok (.aload_n 3, 1) := by decide +kernel
theorem dL_law_841 : decode cL_law 841 = .ok (.invokestatic 132, 3) := by decide +kernel
theorem dL_law_844 : decode cL_law 844 = .ok (.istore 5, 2) := by decide +kernel
theorem dL_law_846 : decode cL_law 846 = .ok (.aload_n 2, 1) := by decide +kernel
theorem dL_law_847 : decode cL_law 847 = .ok (.aload_n 0, 1) := by decide +kernel
theorem dL_law_848 : decode cL_law 848 = .ok (.iload 4, 2) := by decide +kernel
theorem dL_law_850 : decode cL_law 850 = .ok (.iconst 1, 1) := by decide +kernel
theorem dL_law_851 : decode cL_law 851 = .ok (.iadd, 1) := by decide +kernel
theorem dL_law_852 : decode cL_law 852 = .ok (.iaload, 1) := by decide +kernel
theorem dL_law_853 : decode cL_law 853 = .ok (.aload_n 0, 1) := by decide +kernel
theorem dL_law_854 : decode cL_law 854 = .ok (.iload 4, 2) := by decide +kernel
theorem dL_law_856 : decode cL_law 856 = .ok (.iconst 2, 1) := by decide +kernel
theorem dL_law_857 : decode cL_law 857 = .ok (.iadd, 1) := by decide +kernel
theorem dL_law_858 : decode cL_law 858 = .ok (.iaload, 1) := by decide +kernel
theorem dL_law_859 : decode cL_law 859 = .ok (.invokevirtual 134, 3) := by decide +kernel
theorem dL_law_862 : decode cL_law 862 = .ok (.istore 6, 2) := by decide +kernel
theorem dL_law_864 : decode cL_law 864 = .ok (.aload_n 2, 1) := by decide +kernel
theorem dL_law_865 : decode cL_law 865 = .ok (.invokevirtual 85, 3) := by decide +kernel
theorem dL_law_868 : decode cL_law 868 = .ok (.iload 5, 2) := by decide +kernel
theorem dL_law_870 : decode cL_law 870 = .ok (.if_icmp .eq 5, 3) := by decide +kernel
theorem dL_law_873 : decode cL_law 873 = .ok (.iconst 0, 1) := by decide +kernel
theorem dL_law_874 : decode cL_law 874 = .ok (.ireturn, 1) := by decide +kernel
theorem dL_law_875 : decode cL_law 875 = .ok (.iload 5, 2) := by decide +kernel
theorem dL_law_877 : decode cL_law 877 = .ok (.ifCond .ne 15, 3) := by decide +kernel
theorem dL_law_880 : decode cL_law 880 = .ok (.aload_n 3, 1) := by decide +kernel
theorem dL_law_881 : decode cL_law 881 = .ok (.iconst 0, 1) := by decide +kernel
theorem dL_law_882 : decode cL_law 882 = .ok (.laload, 1) := by decide +kernel
theorem dL_law_883 : decode cL_law 883 = .ok (.iload 6, 2) := by decide +kernel
theorem dL_law_885 : decode cL_law 885 = .ok (.i2l, 1) := by decide +kernel
theorem dL_law_886 : decode cL_law 886 = .ok (.lcmp, 1) := by decide +kernel
theorem dL_law_887 : decode cL_law 887 = .ok (.ifCond .eq 5, 3) := by decide +kernel
theorem dL_law_890 : decode cL_law 890 = .ok (.iconst 0, 1) := by decide +kernel
theorem dL_law_891 : decode cL_law 891 = .ok (.ireturn, 1) := by decide +kernel
theorem dL_law_892 : decode cL_law 892 = .ok (.goto 525, 3) := by decide +kernel
theorem dL_law_895 : decode cL_law 895 = .ok (.aload_n 1, 1) := by decide +kernel
theorem dL_law_896 : decode cL_law 896 = .ok (.aload_n 0, 1) := by decide +kernel
theorem dL_law_897 : decode cL_law 897 = .ok (.iload 4, 2) := by decide +kernel
theorem dL_law_899 : decode cL_law 899 = .ok (.iconst 1, 1) := by decide +kernel
theorem dL_law_900 : decode cL_law 900 = .ok (.iadd, 1) := by decide +kernel
theorem dL_law_901 : decode cL_law 901 = .ok (.iaload, 1) := by decide +kernel
theorem dL_law_902 : decode cL_law 902 = .ok (.aload_n 3, 1) := by decide +kernel
theorem dL_law_903 : decode cL_law 903 = .ok (.invokestatic 135, 3) := by decide +kernel
theorem dL_law_906 : decode cL_law 906 = .ok (.istore 5, 2) := by decide +kernel
theorem dL_law_908 : decode cL_law 908 = .ok (.aload_n 2, 1) := by decide +kernel
theorem dL_law_909 : decode cL_law 909 = .ok (.aload_n 0, 1) := by decide +kernel
theorem dL_law_910 : decode cL_law 910 = .ok (.iload 4, 2) := by decide +kernel
theorem dL_law_912 : decode cL_law 912 = .ok (.iconst 1, 1) := by decide +kernel
theorem dL_law_913 : decode cL_law 913 = .ok (.iadd, 1) := by decide +kernel
theorem dL_law_914 : decode cL_law 914 = .ok (.iaload, 1) := by decide +kernel
theorem dL_law_915 : decode cL_law 915 = .ok (.invokevirtual 137, 3) := by decide +kernel
theorem dL_law_918 : decode cL_law 918 = .ok (.istore 6, 2) := by decide +kernel
theorem dL_law_920 : decode cL_law 920 = .ok (.aload_n 2, 1) := by decide +kernel
theorem dL_law_921 : decode cL_law 921 = .ok (.invokevirtual 85, 3) := by decide +kernel
theorem dL_law_924 : decode cL_law 924 = .ok (.iload 5, 2) := by decide +kernel
theorem dL_law_926 : decode cL_law 926 = .ok (.if_icmp .eq 5, 3) := by decide +kernel
theorem dL_law_929 : decode cL_law 929 = .ok (.iconst 0, 1) := by decide +kernel
theorem dL_law_930 : decode cL_law 930 = .ok (.ireturn, 1) := by decide +kernel
theorem dL_law_931 : decode cL_law 931 = .ok (.iload 5, 2) := by decide +kernel
theorem dL_law_933 : decode cL_law 933 = .ok (.ifCond .ne 15, 3) := by decide +kernel
theorem dL_law_936 : decode cL_law 936 = .ok (.aload_n 3, 1) := by decide +kernel
theorem dL_law_937 : decode cL_law 937 = .ok (.iconst 0, 1) := by decide +kernel
theorem dL_law_938 : decode cL_law 938 = .ok (.laload, 1) := by decide +kernel
theorem dL_law_939 : decode cL_law 939 = .ok (.iload 6, 2) := by decide +kernel
theorem dL_law_941 : decode cL_law 941 = .ok (.i2l, 1) := by decide +kernel
theorem dL_law_942 : decode cL_law 942 = .ok (.lcmp, 1) := by decide +kernel
theorem dL_law_943 : decode cL_law 943 = .ok (.ifCond .eq 5, 3) := by decide +kernel
theorem dL_law_946 : decode cL_law 946 = .ok (.iconst 0, 1) := by decide +kernel
theorem dL_law_947 : decode cL_law 947 = .ok (.ireturn, 1) := by decide +kernel
theorem dL_law_948 : decode cL_law 948 = .ok (.goto 469, 3) := by decide +kernel
theorem dL_law_951 : decode cL_law 951 = .ok (.aload_n 1, 1) := by decide +kernel
theorem dL_law_952 : decode cL_law 952 = .ok (.aload_n 0, 1) := by decide +kernel
theorem dL_law_953 : decode cL_law 953 = .ok (.iload 4, 2) := by decide +kernel
theorem dL_law_955 : decode cL_law 955 = .ok (.iconst 1, 1) := by decide +kernel
theorem dL_law_956 : decode cL_law 956 = .ok (.iadd, 1) := by decide +kernel
theorem dL_law_957 : decode cL_law 957 = .ok (.iaload, 1) := by decide +kernel
theorem dL_law_958 : decode cL_law 958 = .ok (.aload_n 0, 1) := by decide +kernel
theorem dL_law_959 : decode cL_law 959 = .ok (.iload 4, 2) := by decide +kernel
theorem dL_law_961 : decode cL_law 961 = .ok (.iconst 2, 1) := by decide +kernel
theorem dL_law_962 : decode cL_law 962 = .ok (.iadd, 1) := by decide +kernel
theorem dL_law_963 : decode cL_law 963 = .ok (.iaload, 1) := by decide +kernel
theorem dL_law_964 : decode cL_law 964 = .ok (.aload_n 3, 1) := by decide +kernel
theorem dL_law_965 : decode cL_law 965 = .ok (.invokestatic 138, 3) := by decide +kernel
theorem dL_law_968 : decode cL_law 968 = .ok (.istore 5, 2) := by decide +kernel
theorem dL_law_970 : decode cL_law 970 = .ok (.aload_n 2, 1) := by decide +kernel
theorem dL_law_971 : decode cL_law 971 = .ok (.aload_n 0, 1) := by decide +kernel
theorem dL_law_972 : decode cL_law 972 = .ok (.iload 4, 2) := by decide +kernel
theorem dL_law_974 : decode cL_law 974 = .ok (.iconst 1, 1) := by decide +kernel
theorem dL_law_975 : decode cL_law 975 = .ok (.iadd, 1) := by decide +kernel
theorem dL_law_976 : decode cL_law 976 = .ok (.iaload, 1) := by decide +kernel
theorem dL_law_977 : decode cL_law 977 = .ok (.aload_n 0, 1) := by decide +kernel
theorem dL_law_978 : decode cL_law 978 = .ok (.iload 4, 2) := by decide +kernel
theorem dL_law_980 : decode cL_law 980 = .ok (.iconst 2, 1) := by decide +kernel
theorem dL_law_981 : decode cL_law 981 = .ok (.iadd, 1) := by decide +kernel
theorem dL_law_982 : decode cL_law 982 = .ok (.iaload, 1) := by decide +kernel
theorem dL_law_983 : decode cL_law 983 = .ok (.invokevirtual 140, 3) := by decide +kernel
theorem dL_law_986 : decode cL_law 986 = .ok (.istore 6, 2) := by decide +kernel
theorem dL_law_988 : decode cL_law 988 = .ok (.aload_n 2, 1) := by decide +kernel
theorem dL_law_989 : decode cL_law 989 = .ok (.invokevirtual 85, 3) := by decide +kernel
theorem dL_law_992 : decode cL_law 992 = .ok (.iload 5, 2) := by decide +kernel
theorem dL_law_994 : decode cL_law 994 = .ok (.if_icmp .eq 5, 3) := by decide +kernel
theorem dL_law_997 : decode cL_law 997 = .ok (.iconst 0, 1) := by decide +kernel
theorem dL_law_998 : decode cL_law 998 = .ok (.ireturn, 1) := by decide +kernel
theorem dL_law_999 : decode cL_law 999 = .ok (.iload 5, 2) := by decide +kernel
theorem dL_law_1001 : decode cL_law 1001 = .ok (.ifCond .ne 15, 3) := by decide +kernel
theorem dL_law_1004 : decode cL_law 1004 = .ok (.aload_n 3, 1) := by decide +kernel
theorem dL_law_1005 : decode cL_law 1005 = .ok (.iconst 0, 1) := by decide +kernel
theorem dL_law_1006 : decode cL_law 1006 = .ok (.laload, 1) := by decide +kernel
theorem dL_law_1007 : decode cL_law 1007 = .ok (.iload 6, 2) := by decide +kernel
theorem dL_law_1009 : decode cL_law 1009 = .ok (.i2l, 1) := by decide +kernel
theorem dL_law_1010 : decode cL_law 1010 = .ok (.lcmp, 1) := by decide +kernel
theorem dL_law_1011 : decode cL_law 1011 = .ok (.ifCond .eq 5, 3) := by decide +kernel
theorem dL_law_1014 : decode cL_law 1014 = .ok (.iconst 0, 1) := by decide +kernel
theorem dL_law_1015 : decode cL_law 1015 = .ok (.ireturn, 1) := by decide +kernel
theorem dL_law_1016 : decode cL_law 1016 = .ok (.goto 401, 3) := by decide +kernel
theorem dL_law_1019 : decode cL_law 1019 = .ok (.aload_n 1, 1) := by decide +kernel
theorem dL_law_1020 : decode cL_law 1020 = .ok (.aload_n 0, 1) := by decide +kernel
theorem dL_law_1021 : decode cL_law 1021 = .ok (.iload 4, 2) := by decide +kernel
theorem dL_law_1023 : decode cL_law 1023 = .ok (.iconst 1, 1) := by decide +kernel
theorem dL_law_1024 : decode cL_law 1024 = .ok (.iadd, 1) := by decide +kernel
theorem dL_law_1025 : decode cL_law 1025 = .ok (.iaload, 1) := by decide +kernel
theorem dL_law_1026 : decode cL_law 1026 = .ok (.aload_n 0, 1) := by decide +kernel
theorem dL_law_1027 : decode cL_law 1027 = .ok (.iload 4, 2) := by decide +kernel
theorem dL_law_1029 : decode cL_law 1029 = .ok (.iconst 2, 1) := by decide +kernel
theorem dL_law_1030 : decode cL_law 1030 = .ok (.iadd, 1) := by decide +kernel
theorem dL_law_1031 : decode cL_law 1031 = .ok (.iaload, 1) := by decide +kernel
theorem dL_law_1032 : decode cL_law 1032 = .ok (.aload_n 3, 1) := by decide +kernel
theorem dL_law_1033 : decode cL_law 1033 = .ok (.invokestatic 141, 3) := by decide +kernel
theorem dL_law_1036 : decode cL_law 1036 = .ok (.istore 5, 2) := by decide +kernel
theorem dL_law_1038 : decode cL_law 1038 = .ok (.aload_n 2, 1) := by decide +kernel
theorem dL_law_1039 : decode cL_law 1039 = .ok (.aload_n 0, 1) := by decide +kernel
theorem dL_law_1040 : decode cL_law 1040 = .ok (.iload 4, 2) := by decide +kernel
theorem dL_law_1042 : decode cL_law 1042 = .ok (.iconst 1, 1) := by decide +kernel
theorem dL_law_1043 : decode cL_law 1043 = .ok (.iadd, 1) := by decide +kernel
theorem dL_law_1044 : decode cL_law 1044 = .ok (.iaload, 1) := by decide +kernel
theorem dL_law_1045 : decode cL_law 1045 = .ok (.aload_n 0, 1) := by decide +kernel
theorem dL_law_1046 : decode cL_law 1046 = .ok (.iload 4, 2) := by decide +kernel
theorem dL_law_1048 : decode cL_law 1048 = .ok (.iconst 2, 1) := by decide +kernel
theorem dL_law_1049 : decode cL_law 1049 = .ok (.iadd, 1) := by decide +kernel
theorem dL_law_1050 : decode cL_law 1050 = .ok (.iaload, 1) := by decide +kernel
theorem dL_law_1051 : decode cL_law 1051 = .ok (.invokevirtual 143, 3) := by decide +kernel
theorem dL_law_1054 : decode cL_law 1054 = .ok (.istore 6, 2) := by decide +kernel
theorem dL_law_1056 : decode cL_law 1056 = .ok (.aload_n 2, 1) := by decide +kernel
theorem dL_law_1057 : decode cL_law 1057 = .ok (.invokevirtual 85, 3) := by decide +kernel
theorem dL_law_1060 : decode cL_law 1060 = .ok (.iload 5, 2) := by decide +kernel
theorem dL_law_1062 : decode cL_law 1062 = .ok (.if_icmp .eq 5, 3) := by decide +kernel
theorem dL_law_1065 : decode cL_law 1065 = .ok (.iconst 0, 1) := by decide +kernel
theorem dL_law_1066 : decode cL_law 1066 = .ok (.ireturn, 1) := by decide +kernel
theorem dL_law_1067 : decode cL_law 1067 = .ok (.iload 5, 2) := by decide +kernel
theorem dL_law_1069 : decode cL_law 1069 = .ok (.ifCond .ne 15, 3) := by decide +kernel
theorem dL_law_1072 : decode cL_law 1072 = .ok (.aload_n 3, 1) := by decide +kernel
theorem dL_law_1073 : decode cL_law 1073 = .ok (.iconst 0, 1) := by decide +kernel
theorem dL_law_1074 : decode cL_law 1074 = .ok (.laload, 1) := by decide +kernel
theorem dL_law_1075 : decode cL_law 1075 = .ok (.iload 6, 2) := by decide +kernel
theorem dL_law_1077 : decode cL_law 1077 = .ok (.i2l, 1) := by decide +kernel
theorem dL_law_1078 : decode cL_law 1078 = .ok (.lcmp, 1) := by decide +kernel
theorem dL_law_1079 : decode cL_law 1079 = .ok (.ifCond .eq 5, 3) := by decide +kernel
theorem dL_law_1082 : decode cL_law 1082 = .ok (.iconst 0, 1) := by decide +kernel
theorem dL_law_1083 : decode cL_law 1083 = .ok (.ireturn, 1) := by decide +kernel
theorem dL_law_1084 : decode cL_law 1084 = .ok (.goto 333, 3) := by decide +kernel
theorem dL_law_1087 : decode cL_law 1087 = .ok (.aload_n 1, 1) := by decide +kernel
theorem dL_law_1088 : decode cL_law 1088 = .ok (.aload_n 0, 1) := by decide +kernel
theorem dL_law_1089 : decode cL_law 1089 = .ok (.iload 4, 2) := by decide +kernel
theorem dL_law_1091 : decode cL_law 1091 = .ok (.iconst 1, 1) := by decide +kernel
theorem dL_law_1092 : decode cL_law 1092 = .ok (.iadd, 1) := by decide +kernel
theorem dL_law_1093 : decode cL_law 1093 = .ok (.iaload, 1) := by decide +kernel
theorem dL_law_1094 : decode cL_law 1094 = .ok (.aload_n 3, 1) := by decide +kernel
theorem dL_law_1095 : decode cL_law 1095 = .ok (.invokestatic 144, 3) := by decide +kernel
theorem dL_law_1098 : decode cL_law 1098 = .ok (.istore 5, 2) := by decide +kernel
theorem dL_law_1100 : decode cL_law 1100 = .ok (.aload_n 2, 1) := by decide +kernel
theorem dL_law_1101 : decode cL_law 1101 = .ok (.aload_n 0, 1) := by decide +kernel
theorem dL_law_1102 : decode cL_law 1102 = .ok (.iload 4, 2) := by decide +kernel
theorem dL_law_1104 : decode cL_law 1104 = .ok (.iconst 1, 1) := by decide +kernel
theorem dL_law_1105 : decode cL_law 1105 = .ok (.iadd, 1) := by decide +kernel
theorem dL_law_1106 : decode cL_law 1106 = .ok (.iaload, 1) := by decide +kernel
theorem dL_law_1107 : decode cL_law 1107 = .ok (.invokevirtual 146, 3) := by decide +kernel
theorem dL_law_1110 : decode cL_law 1110 = .ok (.istore 6, 2) := by decide +kernel
theorem dL_law_1112 : decode cL_law 1112 = .ok (.aload_n 2, 1) := by decide +kernel
theorem dL_law_1113 : decode cL_law 1113 = .ok (.invokevirtual 85, 3) := by decide +kernel
theorem dL_law_1116 : decode cL_law 1116 = .ok (.iload 5, 2) := by decide +kernel
theorem dL_law_1118 : decode cL_law 1118 = .ok (.if_icmp .eq 5, 3) := by decide +kernel
theorem dL_law_1121 : decode cL_law 1121 = .ok (.iconst 0, 1) := by decide +kernel
theorem dL_law_1122 : decode cL_law 1122 = .ok (.ireturn, 1) := by decide +kernel
theorem dL_law_1123 : decode cL_law 1123 = .ok (.iload 5, 2) := by decide +kernel
theorem dL_law_1125 : decode cL_law 1125 = .ok (.ifCond .ne 15, 3) := by decide +kernel
theorem dL_law_1128 : decode cL_law 1128 = .ok (.aload_n 3, 1) := by decide +kernel
theorem dL_law_1129 : decode cL_law 1129 = .ok (.iconst 0, 1) := by decide +kernel
theorem dL_law_1130 : decode cL_law 1130 = .ok (.laload, 1) := by decide +kernel
theorem dL_law_1131 : decode cL_law 1131 = .ok (.iload 6, 2) := by decide +kernel
theorem dL_law_1133 : decode cL_law 1133 = .ok (.i2l, 1) := by decide +kernel
theorem dL_law_1134 : decode cL_law 1134 = .ok (.lcmp, 1) := by decide +kernel
theorem dL_law_1135 : decode cL_law 1135 = .ok (.ifCond .eq 5, 3) := by decide +kernel
theorem dL_law_1138 : decode cL_law 1138 = .ok (.iconst 0, 1) := by decide +kernel
theorem dL_law_1139 : decode cL_law 1139 = .ok (.ireturn, 1) := by decide +kernel
theorem dL_law_1140 : decode cL_law 1140 = .ok (.goto 277, 3) := by decide +kernel
theorem dL_law_1143 : decode cL_law 1143 = .ok (.aload_n 1, 1) := by decide +kernel
theorem dL_law_1144 : decode cL_law 1144 = .ok (.aload_n 0, 1) := by decide +kernel
theorem dL_law_1145 : decode cL_law 1145 = .ok (.iload 4, 2) := by decide +kernel
theorem dL_law_1147 : decode cL_law 1147 = .ok (.iconst 1, 1) := by decide +kernel
theorem dL_law_1148 : decode cL_law 1148 = .ok (.iadd, 1) := by decide +kernel
theorem dL_law_1149 : decode cL_law 1149 = .ok (.iaload, 1) := by decide +kernel
theorem dL_law_1150 : decode cL_law 1150 = .ok (.aload_n 3, 1) := by decide +kernel
theorem dL_law_1151 : decode cL_law 1151 = .ok (.invokestatic 147, 3) := by decide +kernel
theorem dL_law_1154 : decode cL_law 1154 = .ok (.istore 5, 2) := by decide +kernel
theorem dL_law_1156 : decode cL_law 1156 = .ok (.aload_n 2, 1) := by decide +kernel
theorem dL_law_1157 : decode cL_law 1157 = .ok (.aload_n 0, 1) := by decide +kernel
theorem dL_law_1158 : decode cL_law 1158 = .ok (.iload 4, 2) := by decide +kernel
theorem dL_law_1160 : decode cL_law 1160 = .ok (.iconst 1, 1) := by decide +kernel
theorem dL_law_1161 : decode cL_law 1161 = .ok (.iadd, 1) := by decide +kernel
theorem dL_law_1162 : decode cL_law 1162 = .ok (.iaload, 1) := by decide +kernel
theorem dL_law_1163 : decode cL_law 1163 = .ok (.invokevirtual 149, 3) := by decide +kernel
theorem dL_law_1166 : decode cL_law 1166 = .ok (.istore 6, 2) := by decide +kernel
theorem dL_law_1168 : decode cL_law 1168 = .ok (.aload_n 2, 1) := by decide +kernel
theorem dL_law_1169 : decode cL_law 1169 = .ok (.invokevirtual 85, 3) := by decide +kernel
theorem dL_law_1172 : decode cL_law 1172 = .ok (.iload 5, 2) := by decide +kernel
theorem dL_law_1174 : decode cL_law 1174 = .ok (.if_icmp .eq 5, 3) := by decide +kernel
theorem dL_law_1177 : decode cL_law 1177 = .ok (.iconst 0, 1) := by decide +kernel
theorem dL_law_1178 : decode cL_law 1178 = .ok (.ireturn, 1) := by decide +kernel
theorem dL_law_1179 : decode cL_law 1179 = .ok (.iload 5, 2) := by decide +kernel
theorem dL_law_1181 : decode cL_law 1181 = .ok (.ifCond .ne 15, 3) := by decide +kernel
theorem dL_law_1184 : decode cL_law 1184 = .ok (.aload_n 3, 1) := by decide +kernel
theorem dL_law_1185 : decode cL_law 1185 = .ok (.iconst 0, 1) := by decide +kernel
theorem dL_law_1186 : decode cL_law 1186 = .ok (.laload, 1) := by decide +kernel
theorem dL_law_1187 : decode cL_law 1187 = .ok (.iload 6, 2) := by decide +kernel
theorem dL_law_1189 : decode cL_law 1189 = .ok (.i2l, 1) := by decide +kernel
theorem dL_law_1190 : decode cL_law 1190 = .ok (.lcmp, 1) := by decide +kernel
theorem dL_law_1191 : decode cL_law 1191 = .ok (.ifCond .eq 5, 3) := by decide +kernel
theorem dL_law_1194 : decode cL_law 1194 = .ok (.iconst 0, 1) := by decide +kernel
theorem dL_law_1195 : decode cL_law 1195 = .ok (.ireturn, 1) := by decide +kernel
theorem dL_law_1196 : decode cL_law 1196 = .ok (.goto 221, 3) := by decide +kernel
theorem dL_law_1199 : decode cL_law 1199 = .ok (.aload_n 1, 1) := by decide +kernel
theorem dL_law_1200 : decode cL_law 1200 = .ok (.aload_n 0, 1) := by decide +kernel
theorem dL_law_1201 : decode cL_law 1201 = .ok (.iload 4, 2) := by decide +kernel
theorem dL_law_1203 : decode cL_law 1203 = .ok (.iconst 1, 1) := by decide +kernel
theorem dL_law_1204 : decode cL_law 1204 = .ok (.iadd, 1) := by decide +kernel
theorem dL_law_1205 : decode cL_law 1205 = .ok (.iaload, 1) := by decide +kernel
theorem dL_law_1206 : decode cL_law 1206 = .ok (.aload_n 3, 1) := by decide +kernel
theorem dL_law_1207 : decode cL_law 1207 = .ok (.invokestatic 150, 3) := by decide +kernel
theorem dL_law_1210 : decode cL_law 1210 = .ok (.istore 5, 2) := by decide +kernel
theorem dL_law_1212 : decode cL_law 1212 = .ok (.aload_n 2, 1) := by decide +kernel
theorem dL_law_1213 : decode cL_law 1213 = .ok (.aload_n 0, 1) := by decide +kernel
theorem dL_law_1214 : decode cL_law 1214 = .ok (.iload 4, 2) := by decide +kernel
theorem dL_law_1216 : decode cL_law 1216 = .ok (.iconst 1, 1) := by decide +kernel
theorem dL_law_1217 : decode cL_law 1217 = .ok (.iadd, 1) := by decide +kernel
theorem dL_law_1218 : decode cL_law 1218 = .ok (.iaload, 1) := by decide +kernel
theorem dL_law_1219 : decode cL_law 1219 = .ok (.invokevirtual 152, 3) := by decide +kernel
theorem dL_law_1222 : decode cL_law 1222 = .ok (.istore 6, 2) := by decide +kernel
theorem dL_law_1224 : decode cL_law 1224 = .ok (.aload_n 2, 1) := by decide +kernel
theorem dL_law_1225 : decode cL_law 1225 = .ok (.invokevirtual 85, 3) := by decide +kernel
theorem dL_law_1228 : decode cL_law 1228 = .ok (.iload 5, 2) := by decide +kernel
theorem dL_law_1230 : decode cL_law 1230 = .ok (.if_icmp .eq 5, 3) := by decide +kernel
theorem dL_law_1233 : decode cL_law 1233 = .ok (.iconst 0, 1) := by decide +kernel
theorem dL_law_1234 : decode cL_law 1234 = .ok (.ireturn, 1) := by decide +kernel
theorem dL_law_1235 : decode cL_law 1235 = .ok (.iload 5, 2) := by decide +kernel
theorem dL_law_1237 : decode cL_law 1237 = .ok (.ifCond .ne 15, 3) := by decide +kernel
theorem dL_law_1240 : decode cL_law 1240 = .ok (.aload_n 3, 1) := by decide +kernel
theorem dL_law_1241 : decode cL_law 1241 = .ok (.iconst 0, 1) := by decide +kernel
theorem dL_law_1242 : decode cL_law 1242 = .ok (.laload, 1) := by decide +kernel
theorem dL_law_1243 : decode cL_law 1243 = .ok (.iload 6, 2) := by decide +kernel
theorem dL_law_1245 : decode cL_law 1245 = .ok (.i2l, 1) := by decide +kernel
theorem dL_law_1246 : decode cL_law 1246 = .ok (.lcmp, 1) := by decide +kernel
theorem dL_law_1247 : decode cL_law 1247 = .ok (.ifCond .eq 5, 3) := by decide +kernel
theorem dL_law_1250 : decode cL_law 1250 = .ok (.iconst 0, 1) := by decide +kernel
theorem dL_law_1251 : decode cL_law 1251 = .ok (.ireturn, 1) := by decide +kernel
theorem dL_law_1252 : decode cL_law 1252 = .ok (.goto 165, 3) := by decide +kernel
theorem dL_law_1255 : decode cL_law 1255 = .ok (.aload_n 1, 1) := by decide +kernel
theorem dL_law_1256 : decode cL_law 1256 = .ok (.aload_n 0, 1) := by decide +kernel
theorem dL_law_1257 : decode cL_law 1257 = .ok (.iload 4, 2) := by decide +kernel
theorem dL_law_1259 : decode cL_law 1259 = .ok (.iconst 1, 1) := by decide +kernel
theorem dL_law_1260 : decode cL_law 1260 = .ok (.iadd, 1) := by decide +kernel
theorem dL_law_1261 : decode cL_law 1261 = .ok (.iaload, 1) := by decide +kernel
theorem dL_law_1262 : decode cL_law 1262 = .ok (.aload_n 0, 1) := by decide +kernel
theorem dL_law_1263 : decode cL_law 1263 = .ok (.iload 4, 2) := by decide +kernel
theorem dL_law_1265 : decode cL_law 1265 = .ok (.iconst 2, 1) := by decide +kernel
theorem dL_law_1266 : decode cL_law 1266 = .ok (.iadd, 1) := by decide +kernel
theorem dL_law_1267 : decode cL_law 1267 = .ok (.iaload, 1) := by decide +kernel
theorem dL_law_1268 : decode cL_law 1268 = .ok (.aload_n 3, 1) := by decide +kernel
theorem dL_law_1269 : decode cL_law 1269 = .ok (.invokestatic 153, 3) := by decide +kernel
theorem dL_law_1272 : decode cL_law 1272 = .ok (.istore 5, 2) := by decide +kernel
theorem dL_law_1274 : decode cL_law 1274 = .ok (.aload_n 2, 1) := by decide +kernel
theorem dL_law_1275 : decode cL_law 1275 = .ok (.aload_n 0, 1) := by decide +kernel
theorem dL_law_1276 : decode cL_law 1276 = .ok (.iload 4, 2) := by decide +kernel
theorem dL_law_1278 : decode cL_law 1278 = .ok (.iconst 1, 1) := by decide +kernel
theorem dL_law_1279 : decode cL_law 1279 = .ok (.iadd, 1) := by decide +kernel
theorem dL_law_1280 : decode cL_law 1280 = .ok (.iaload, 1) := by decide +kernel
theorem dL_law_1281 : decode cL_law 1281 = .ok (.aload_n 0, 1) := by decide +kernel
theorem dL_law_1282 : decode cL_law 1282 = .ok (.iload 4, 2) := by decide +kernel
theorem dL_law_1284 : decode cL_law 1284 = .ok (.iconst 2, 1) := by decide +kernel
theorem dL_law_1285 : decode cL_law 1285 = .ok (.iadd, 1) := by decide +kernel
theorem dL_law_1286 : decode cL_law 1286 = .ok (.iaload, 1) := by decide +kernel
theorem dL_law_1287 : decode cL_law 1287 = .ok (.invokevirtual 155, 3) := by decide +kernel
theorem dL_law_1290 : decode cL_law 1290 = .ok (.istore 6, 2) := by decide +kernel
theorem dL_law_1292 : decode cL_law 1292 = .ok (.aload_n 2, 1) := by decide +kernel
theorem dL_law_1293 : decode cL_law 1293 = .ok (.invokevirtual 85, 3) := by decide +kernel
theorem dL_law_1296 : decode cL_law 1296 = .ok (.iload 5, 2) := by decide +kernel
theorem dL_law_1298 : decode cL_law 1298 = .ok (.if_icmp .eq 5, 3) := by decide +kernel
theorem dL_law_1301 : decode cL_law 1301 = .ok (.iconst 0, 1) := by decide +kernel
theorem dL_law_1302 : decode cL_law 1302 = .ok (.ireturn, 1) := by decide +kernel
theorem dL_law_1303 : decode cL_law 1303 = .ok (.iload 5, 2) := by decide +kernel
theorem dL_law_1305 : decode cL_law 1305 = .ok (.ifCond .ne 15, 3) := by decide +kernel
theorem dL_law_1308 : decode cL_law 1308 = .ok (.aload_n 3, 1) := by decide +kernel
theorem dL_law_1309 : decode cL_law 1309 = .ok (.iconst 0, 1) := by decide +kernel
theorem dL_law_1310 : decode cL_law 1310 = .ok (.laload, 1) := by decide +kernel
theorem dL_law_1311 : decode cL_law 1311 = .ok (.iload 6, 2) := by decide +kernel
theorem dL_law_1313 : decode cL_law 1313 = .ok (.i2l, 1) := by decide +kernel
theorem dL_law_1314 : decode cL_law 1314 = .ok (.lcmp, 1) := by decide +kernel
theorem dL_law_1315 : decode cL_law 1315 = .ok (.ifCond .eq 5, 3) := by decide +kernel
theorem dL_law_1318 : decode cL_law 1318 = .ok (.iconst 0, 1) := by decide +kernel
theorem dL_law_1319 : decode cL_law 1319 = .ok (.ireturn, 1) := by decide +kernel
theorem dL_law_1320 : decode cL_law 1320 = .ok (.goto 97, 3) := by decide +kernel
theorem dL_law_1323 : decode cL_law 1323 = .ok (.aload_n 1, 1) := by decide +kernel
theorem dL_law_1324 : decode cL_law 1324 = .ok (.invokevirtual 156, 3) := by decide +kernel
theorem dL_law_1327 : decode cL_law 1327 = .ok (.aload_n 2, 1) := by decide +kernel
theorem dL_law_1328 : decode cL_law 1328 = .ok (.invokevirtual 159, 3) := by decide +kernel
theorem dL_law_1331 : decode cL_law 1331 = .ok (.if_icmp .eq 86, 3) := by decide +kernel
theorem dL_law_1334 : decode cL_law 1334 = .ok (.iconst 0, 1) := by decide +kernel
theorem dL_law_1335 : decode cL_law 1335 = .ok (.ireturn, 1) := by decide +kernel
theorem dL_law_1336 : decode cL_law 1336 = .ok (.aload_n 1, 1) := by decide +kernel
theorem dL_law_1337 : decode cL_law 1337 = .ok (.invokevirtual 160, 3) := by decide +kernel
theorem dL_law_1340 : decode cL_law 1340 = .ok (.aload_n 2, 1) := by decide +kernel
theorem dL_law_1341 : decode cL_law 1341 = .ok (.invokevirtual 163, 3) := by decide +kernel
theorem dL_law_1344 : decode cL_law 1344 = .ok (.if_icmp .eq 73, 3) := by decide +kernel
theorem dL_law_1347 : decode cL_law 1347 = .ok (.iconst 0, 1) := by decide +kernel
theorem dL_law_1348 : decode cL_law 1348 = .ok (.ireturn, 1) := by decide +kernel
theorem dL_law_1349 : decode cL_law 1349 = .ok (.aload_n 1, 1) := by decide +kernel
theorem dL_law_1350 : decode cL_law 1350 = .ok (.invokevirtual 164, 3) := by decide +kernel
theorem dL_law_1353 : decode cL_law 1353 = .ok (.aload_n 2, 1) := by decide +kernel
theorem dL_law_1354 : decode cL_law 1354 = .ok (.invokevirtual 167, 3) := by decide +kernel
theorem dL_law_1357 : decode cL_law 1357 = .ok (.if_icmp .eq 60, 3) := by decide +kernel
theorem dL_law_1360 : decode cL_law 1360 = .ok (.iconst 0, 1) := by decide +kernel
theorem dL_law_1361 : decode cL_law 1361 = .ok (.ireturn, 1) := by decide +kernel
theorem dL_law_1362 : decode cL_law 1362 = .ok (.aload_n 1, 1) := by decide +kernel
theorem dL_law_1363 : decode cL_law 1363 = .ok (.invokevirtual 168, 3) := by decide +kernel
theorem dL_law_1366 : decode cL_law 1366 = .ok (.dstore 5, 2) := by decide +kernel
theorem dL_law_1368 : decode cL_law 1368 = .ok (.aload_n 2, 1) := by decide +kernel
theorem dL_law_1369 : decode cL_law 1369 = .ok (.invokevirtual 172, 3) := by decide +kernel
theorem dL_law_1372 : decode cL_law 1372 = .ok (.dstore 7, 2) := by decide +kernel
theorem dL_law_1374 : decode cL_law 1374 = .ok (.dload 5, 2) := by decide +kernel
theorem dL_law_1376 : decode cL_law 1376 = .ok (.dload 7, 2) := by decide +kernel
theorem dL_law_1378 : decode cL_law 1378 = .ok (.dcmp .l, 1) := by decide +kernel
theorem dL_law_1379 : decode cL_law 1379 = .ok (.ifCond .eq 21, 3) := by decide +kernel
theorem dL_law_1382 : decode cL_law 1382 = .ok (.dload 5, 2) := by decide +kernel
theorem dL_law_1384 : decode cL_law 1384 = .ok (.dload 5, 2) := by decide +kernel
theorem dL_law_1386 : decode cL_law 1386 = .ok (.dcmp .l, 1) := by decide +kernel
theorem dL_law_1387 : decode cL_law 1387 = .ok (.ifCond .eq 11, 3) := by decide +kernel
theorem dL_law_1390 : decode cL_law 1390 = .ok (.dload 7, 2) := by decide +kernel
theorem dL_law_1392 : decode cL_law 1392 = .ok (.dload 7, 2) := by decide +kernel
theorem dL_law_1394 : decode cL_law 1394 = .ok (.dcmp .l, 1) := by decide +kernel
theorem dL_law_1395 : decode cL_law 1395 = .ok (.ifCond .ne 5, 3) := by decide +kernel
theorem dL_law_1398 : decode cL_law 1398 = .ok (.iconst 0, 1) := by decide +kernel
theorem dL_law_1399 : decode cL_law 1399 = .ok (.ireturn, 1) := by decide +kernel
theorem dL_law_1400 : decode cL_law 1400 = .ok (.goto 17, 3) := by decide +kernel
theorem dL_law_1403 : decode cL_law 1403 = .ok (.aload_n 1, 1) := by decide +kernel
theorem dL_law_1404 : decode cL_law 1404 = .ok (.invokevirtual 173, 3) := by decide +kernel
theorem dL_law_1407 : decode cL_law 1407 = .ok (.aload_n 2, 1) := by decide +kernel
theorem dL_law_1408 : decode cL_law 1408 = .ok (.invokevirtual 177, 3) := by decide +kernel
theorem dL_law_1411 : decode cL_law 1411 = .ok (.lcmp, 1) := by decide +kernel
theorem dL_law_1412 : decode cL_law 1412 = .ok (.ifCond .eq 5, 3) := by decide +kernel
theorem dL_law_1415 : decode cL_law 1415 = .ok (.iconst 0, 1) := by decide +kernel
theorem dL_law_1416 : decode cL_law 1416 = .ok (.ireturn, 1) := by decide +kernel
theorem dL_law_1417 : decode cL_law 1417 = .ok (.iinc 4 3, 3) := by decide +kernel
theorem dL_law_1420 : decode cL_law 1420 = .ok (.goto (-1397), 3) := by decide +kernel
theorem dL_law_1423 : decode cL_law 1423 = .ok (.iconst 1, 1) := by decide +kernel
theorem dL_law_1424 : decode cL_law 1424 = .ok (.ireturn, 1) := by decide +kernel
