theorem dX0_init_0 : decode cX0_init 0 = .ok (.aload_n 0, 1) := by decide +kernel
theorem dX0_init_1 : decode cX0_init 1 = .ok (.invokespecial 3, 3) := by decide +kernel
theorem dX0_init_4 : decode cX0_init 4 = .ok (.aload_n 0, 1) := by decide +kernel
theorem dX0_init_5 : decode cX0_init 5 = .ok (.bipush 10, 2) := by decide +kernel
theorem dX0_init_7 : decode cX0_init 7 = .ok (.anewarray 9, 3) := by decide +kernel
theorem dX0_init_10 : decode cX0_init 10 = .ok (.putfield 11, 3) := by decide +kernel
theorem dX0_init_13 : decode cX0_init 13 = .ok (.iconst 0, 1) := by decide +kernel
theorem dX0_init_14 : decode cX0_init 14 = .ok (.istore_n 1, 1) := by decide +kernel
theorem dX0_init_15 : decode cX0_init 15 = .ok (.iload_n 1, 1) := by decide +kernel
theorem dX0_init_16 : decode cX0_init 16 = .ok (.aload_n 0, 1) := by decide +kernel
theorem dX0_init_17 : decode cX0_init 17 = .ok (.getfield 11, 3) := by decide +kernel
theorem dX0_init_20 : decode cX0_init 20 = .ok (.arraylength, 1) := by decide +kernel
theorem dX0_init_21 : decode cX0_init 21 = .ok (.if_icmp .ge 24, 3) := by decide +kernel
theorem dX0_init_24 : decode cX0_init 24 = .ok (.aload_n 0, 1) := by decide +kernel
theorem dX0_init_25 : decode cX0_init 25 = .ok (.getfield 11, 3) := by decide +kernel
theorem dX0_init_28 : decode cX0_init 28 = .ok (.iload_n 1, 1) := by decide +kernel
theorem dX0_init_29 : decode cX0_init 29 = .ok (.new 9, 3) := by decide +kernel
theorem dX0_init_32 : decode cX0_init 32 = .ok (.dup, 1) := by decide +kernel
theorem dX0_init_33 : decode cX0_init 33 = .ok (.bipush 8, 2) := by decide +kernel
theorem dX0_init_35 : decode cX0_init 35 = .ok (.invokespecial 17, 3) := by decide +kernel
theorem dX0_init_38 : decode cX0_init 38 = .ok (.aastore, 1) := by decide +kernel
theorem dX0_init_39 : decode cX0_init 39 = .ok (.iinc 1 1, 3) := by decide +kernel
theorem dX0_init_42 : decode cX0_init 42 = .ok (.goto (-27), 3) := by decide +kernel
theorem dX0_init_45 : decode cX0_init 45 = .ok (.aload_n 0, 1) := by decide +kernel
theorem dX0_init_46 : decode cX0_init 46 = .ok (.new 9, 3) := by decide +kernel
theorem dX0_init_49 : decode cX0_init 49 = .ok (.dup, 1) := by decide +kernel
theorem dX0_init_50 : decode cX0_init 50 = .ok (.iconst 0, 1) := by decide +kernel
theorem dX0_init_51 : decode cX0_init 51 = .ok (.invokespecial 17, 3) := by decide +kernel
theorem dX0_init_54 : decode cX0_init 54 = .ok (.putfield 20, 3) := by decide +kernel
theorem dX0_init_57 : decode cX0_init 57 = .ok (.aload_n 0, 1) := by decide +kernel
theorem dX0_init_58 : decode cX0_init 58 = .ok (.iconst 0, 1) := by decide +kernel
theorem dX0_init_59 : decode cX0_init 59 = .ok (.putfield 24, 3) := by decide +kernel
theorem dX0_init_62 : decode cX0_init 62 = .ok (.return_, 1) := by decide +kernel
theorem dX0_held_0 : decode cX0_held 0 = .ok (.aload_n 0, 1) := by decide +kernel
theorem dX0_held_1 : decode cX0_held 1 = .ok (.getfield 24, 3) := by decide +kernel
theorem dX0_held_4 : decode cX0_held 4 = .ok (.ireturn, 1) := by decide +kernel
theorem dX0_directions_0 : decode cX0_directions 0 = .ok (.iload_n 1, 1) := by decide +kernel
theorem dX0_directions_1 : decode cX0_directions 1 = .ok (.ifCond .lt 12, 3) := by decide +kernel
theorem dX0_directions_4 : decode cX0_directions 4 = .ok (.iload_n 1, 1) := by decide +kernel
theorem dX0_directions_5 : decode cX0_directions 5 = .ok (.aload_n 0, 1) := by decide +kernel
theorem dX0_directions_6 : decode cX0_directions 6 = .ok (.getfield 11, 3) := by decide +kernel
theorem dX0_directions_9 : decode cX0_directions 9 = .ok (.arraylength, 1) := by decide +kernel
theorem dX0_directions_10 : decode cX0_directions 10 = .ok (.if_icmp .lt 8, 3) := by decide +kernel
theorem dX0_directions_13 : decode cX0_directions 13 = .ok (.aload_n 0, 1) := by decide +kernel
theorem dX0_directions_14 : decode cX0_directions 14 = .ok (.getfield 20, 3) := by decide +kernel
theorem dX0_directions_17 : decode cX0_directions 17 = .ok (.areturn, 1) := by decide +kernel
theorem dX0_directions_18 : decode cX0_directions 18 = .ok (.aload_n 0, 1) := by decide +kernel
theorem dX0_directions_19 : decode cX0_directions 19 = .ok (.getfield 11, 3) := by decide +kernel
theorem dX0_directions_22 : decode cX0_directions 22 = .ok (.iload_n 1, 1) := by decide +kernel
theorem dX0_directions_23 : decode cX0_directions 23 = .ok (.aaload, 1) := by decide +kernel
theorem dX0_directions_24 : decode cX0_directions 24 = .ok (.astore_n 2, 1) := by decide +kernel
theorem dX0_directions_25 : decode cX0_directions 25 = .ok (.aload_n 2, 1) := by decide +kernel
theorem dX0_directions_26 : decode cX0_directions 26 = .ok (.ifnull 7, 3) := by decide +kernel
theorem dX0_directions_29 : decode cX0_directions 29 = .ok (.aload_n 2, 1) := by decide +kernel
theorem dX0_directions_30 : decode cX0_directions 30 = .ok (.goto 7, 3) := by decide +kernel
theorem dX0_directions_33 : decode cX0_directions 33 = .ok (.aload_n 0, 1) := by decide +kernel
theorem dX0_directions_34 : decode cX0_directions 34 = .ok (.getfield 20, 3) := by decide +kernel
theorem dX0_directions_37 : decode cX0_directions 37 = .ok (.areturn, 1) := by decide +kernel
theorem dX0_allDirections_0 : decode cX0_allDirections 0 = .ok (.iconst 0, 1) := by decide +kernel
theorem dX0_allDirections_1 : decode cX0_allDirections 1 = .ok (.istore_n 1, 1) := by decide +kernel
theorem dX0_allDirections_2 : decode cX0_allDirections 2 = .ok (.iconst 0, 1) := by decide +kernel
theorem dX0_allDirections_3 : decode cX0_allDirections 3 = .ok (.istore_n 2, 1) := by decide +kernel
theorem dX0_allDirections_4 : decode cX0_allDirections 4 = .ok (.iload_n 2, 1) := by decide +kernel
theorem dX0_allDirections_5 : decode cX0_allDirections 5 = .ok (.aload_n 0, 1) := by decide +kernel
theorem dX0_allDirections_6 : decode cX0_allDirections 6 = .ok (.getfield 24, 3) := by decide +kernel
theorem dX0_allDirections_9 : decode cX0_allDirections 9 = .ok (.if_icmp .ge 20, 3) := by decide +kernel
theorem dX0_allDirections_12 : decode cX0_allDirections 12 = .ok (.iload_n 1, 1) := by decide +kernel
theorem dX0_allDirections_13 : decode cX0_allDirections 13 = .ok (.aload_n 0, 1) := by decide +kernel
theorem dX0_allDirections_14 : decode cX0_allDirections 14 = .ok (.iload_n 2, 1) := by decide +kernel
theorem dX0_allDirections_15 : decode cX0_allDirections 15 = .ok (.invokevirtual 28, 3) := by decide +kernel
theorem dX0_allDirections_18 : decode cX0_allDirections 18 = .ok (.invokevirtual 32, 3) := by decide +kernel
theorem dX0_allDirections_21 : decode cX0_allDirections 21 = .ok (.iadd, 1) := by decide +kernel
theorem dX0_allDirections_22 : decode cX0_allDirections 22 = .ok (.istore_n 1, 1) := by decide +kernel
theorem dX0_allDirections_23 : decode cX0_allDirections 23 = .ok (.iinc 2 1, 3) := by decide +kernel
theorem dX0_allDirections_26 : decode cX0_allDirections 26 = .ok (.goto (-22), 3) := by decide +kernel
theorem dX0_allDirections_29 : decode cX0_allDirections 29 = .ok (.iload_n 1, 1) := by decide +kernel
theorem dX0_allDirections_30 : decode cX0_allDirections 30 = .ok (.ireturn, 1) := by decide +kernel
theorem dX0_add_0 : decode cX0_add 0 = .ok (.aload_n 0, 1) := by decide +kernel
theorem dX0_add_1 : decode cX0_add 1 = .ok (.getfield 24, 3) := by decide +kernel
theorem dX0_add_4 : decode cX0_add 4 = .ok (.aload_n 0, 1) := by decide +kernel
theorem dX0_add_5 : decode cX0_add 5 = .ok (.getfield 11, 3) := by decide +kernel
theorem dX0_add_8 : decode cX0_add 8 = .ok (.arraylength, 1) := by decide +kernel
theorem dX0_add_9 : decode cX0_add 9 = .ok (.if_icmp .ge 25, 3) := by decide +kernel
theorem dX0_add_12 : decode cX0_add 12 = .ok (.aload_n 0, 1) := by decide +kernel
theorem dX0_add_13 : decode cX0_add 13 = .ok (.aload_n 0, 1) := by decide +kernel
theorem dX0_add_14 : decode cX0_add 14 = .ok (.getfield 24, 3) := by decide +kernel
theorem dX0_add_17 : decode cX0_add 17 = .ok (.invokevirtual 28, 3) := by decide +kernel
theorem dX0_add_20 : decode cX0_add 20 = .ok (.aload_n 1, 1) := by decide +kernel
theorem dX0_add_21 : decode cX0_add 21 = .ok (.invokevirtual 35, 3) := by decide +kernel
theorem dX0_add_24 : decode cX0_add 24 = .ok (.aload_n 0, 1) := by decide +kernel
theorem dX0_add_25 : decode cX0_add 25 = .ok (.dup, 1) := by decide +kernel
theorem dX0_add_26 : decode cX0_add 26 = .ok (.getfield 24, 3) := by decide +kernel
theorem dX0_add_29 : decode cX0_add 29 = .ok (.iconst 1, 1) := by decide +kernel
theorem dX0_add_30 : decode cX0_add 30 = .ok (.iadd, 1) := by decide +kernel
theorem dX0_add_31 : decode cX0_add 31 = .ok (.putfield 24, 3) := by decide +kernel
theorem dX0_add_34 : decode cX0_add 34 = .ok (.return_, 1) := by decide +kernel
theorem dX0_remove_0 : decode cX0_remove 0 = .ok (.iload_n 1, 1) := by decide +kernel
theorem dX0_remove_1 : decode cX0_remove 1 = .ok (.ifCond .lt 11, 3) := by decide +kernel
theorem dX0_remove_4 : decode cX0_remove 4 = .ok (.iload_n 1, 1) := by decide +kernel
theorem dX0_remove_5 : decode cX0_remove 5 = .ok (.aload_n 0, 1) := by decide +kernel
theorem dX0_remove_6 : decode cX0_remove 6 = .ok (.getfield 24, 3) := by decide +kernel
theorem dX0_remove_9 : decode cX0_remove 9 = .ok (.if_icmp .lt 4, 3) := by decide +kernel
theorem dX0_remove_12 : decode cX0_remove 12 = .ok (.return_, 1) := by decide +kernel
theorem dX0_remove_13 : decode cX0_remove 13 = .ok (.iload_n 1, 1) := by decide +kernel
theorem dX0_remove_14 : decode cX0_remove 14 = .ok (.iconst 1, 1) := by decide +kernel
theorem dX0_remove_15 : decode cX0_remove 15 = .ok (.iadd, 1) := by decide +kernel
theorem dX0_remove_16 : decode cX0_remove 16 = .ok (.istore_n 2, 1) := by decide +kernel
theorem dX0_remove_17 : decode cX0_remove 17 = .ok (.iload_n 2, 1) := by decide +kernel
theorem dX0_remove_18 : decode cX0_remove 18 = .ok (.aload_n 0, 1) := by decide +kernel
theorem dX0_remove_19 : decode cX0_remove 19 = .ok (.getfield 24, 3) := by decide +kernel
theorem dX0_remove_22 : decode cX0_remove 22 = .ok (.if_icmp .ge 24, 3) := by decide +kernel
theorem dX0_remove_25 : decode cX0_remove 25 = .ok (.aload_n 0, 1) := by decide +kernel
theorem dX0_remove_26 : decode cX0_remove 26 = .ok (.iload_n 2, 1) := by decide +kernel
theorem dX0_remove_27 : decode cX0_remove 27 = .ok (.iconst 1, 1) := by decide +kernel
theorem dX0_remove_28 : decode cX0_remove 28 = .ok (.isub, 1) := by decide +kernel
theorem dX0_remove_29 : decode cX0_remove 29 = .ok (.invokevirtual 28, 3) := by decide +kernel
theorem dX0_remove_32 : decode cX0_remove 32 = .ok (.aload_n 0, 1) := by decide +kernel
theorem dX0_remove_33 : decode cX0_remove 33 = .ok (.iload_n 2, 1) := by decide +kernel
theorem dX0_remove_34 : decode cX0_remove 34 = .ok (.invokevirtual 28, 3) := by decide +kernel
theorem dX0_remove_37 : decode cX0_remove 37 = .ok (.invokevirtual 35, 3) := by decide +kernel
theorem dX0_remove_40 : decode cX0_remove 40 = .ok (.iinc 2 1, 3) := by decide +kernel
theorem dX0_remove_43 : decode cX0_remove 43 = .ok (.goto (-26), 3) := by decide +kernel
theorem dX0_remove_46 : decode cX0_remove 46 = .ok (.aload_n 0, 1) := by decide +kernel
theorem dX0_remove_47 : decode cX0_remove 47 = .ok (.dup, 1) := by decide +kernel
theorem dX0_remove_48 : decode cX0_remove 48 = .ok (.getfield 24, 3) := by decide +kernel
theorem dX0_remove_51 : decode cX0_remove 51 = .ok (.iconst 1, 1) := by decide +kernel
theorem dX0_remove_52 : decode cX0_remove 52 = .ok (.isub, 1) := by decide +kernel
theorem dX0_remove_53 : decode cX0_remove 53 = .ok (.putfield 24, 3) := by decide +kernel
theorem dX0_remove_56 : decode cX0_remove 56 = .ok (.return_, 1) := by decide +kernel
theorem dX0_copy_0 : decode cX0_copy 0 = .ok (.iconst 0, 1) := by decide +kernel
theorem dX0_copy_1 : decode cX0_copy 1 = .ok (.istore_n 2, 1) := by decide +kernel
theorem dX0_copy_2 : decode cX0_copy 2 = .ok (.iload_n 2, 1) := by decide +kernel
theorem dX0_copy_3 : decode cX0_copy 3 = .ok (.aload_n 1, 1) := by decide +kernel
theorem dX0_copy_4 : decode cX0_copy 4 = .ok (.getfield 24, 3) := by decide +kernel
theorem dX0_copy_7 : decode cX0_copy 7 = .ok (.if_icmp .ge 22, 3) := by decide +kernel
theorem dX0_copy_10 : decode cX0_copy 10 = .ok (.aload_n 0, 1) := by decide +kernel
theorem dX0_copy_11 : decode cX0_copy 11 = .ok (.iload_n 2, 1) := by decide +kernel
theorem dX0_copy_12 : decode cX0_copy 12 = .ok (.invokevirtual 28, 3) := by decide +kernel
theorem dX0_copy_15 : decode cX0_copy 15 = .ok (.aload_n 1, 1) := by decide +kernel
theorem dX0_copy_16 : decode cX0_copy 16 = .ok (.iload_n 2, 1) := by decide +kernel
theorem dX0_copy_17 : decode cX0_copy 17 = .ok (.invokevirtual 28, 3) := by decide +kernel
theorem dX0_copy_20 : decode cX0_copy 20 = .ok (.invokevirtual 35, 3) := by decide +kernel
theorem dX0_copy_23 : decode cX0_copy 23 = .ok (.iinc 2 1, 3) := by decide +kernel
theorem dX0_copy_26 : decode cX0_copy 26 = .ok (.goto (-24), 3) := by decide +kernel
theorem dX0_copy_29 : decode cX0_copy 29 = .ok (.aload_n 0, 1) := by decide +kernel
theorem dX0_copy_30 : decode cX0_copy 30 = .ok (.aload_n 1, 1) := by decide +kernel
theorem dX0_copy_31 : decode cX0_copy 31 = .ok (.getfield 24, 3) := by decide +kernel
theorem dX0_copy_34 : decode cX0_copy 34 = .ok (.putfield 24, 3) := by decide +kernel
theorem dX0_copy_37 : decode cX0_copy 37 = .ok (.return_, 1) := by decide +kernel
theorem dX1_init_0 : decode cX1_init 0 = .ok (.aload_n 0, 1) := by decide +kernel
theorem dX1_init_1 : decode cX1_init 1 = .ok (.invokespecial 3, 3) := by decide +kernel
theorem dX1_init_4 : decode cX1_init 4 = .ok (.aload_n 0, 1) := by decide +kernel
theorem dX1_init_5 : decode cX1_init 5 = .ok (.bipush 6, 2) := by decide +kernel
theorem dX1_init_7 : decode cX1_init 7 = .ok (.anewarray 9, 3) := by decide +kernel
theorem dX1_init_10 : decode cX1_init 10 = .ok (.putfield 11, 3) := by decide +kernel
theorem dX1_init_13 : decode cX1_init 13 = .ok (.iconst 0, 1) := by decide +kernel
theorem dX1_init_14 : decode cX1_init 14 = .ok (.istore_n 1, 1) := by decide +kernel
theorem dX1_init_15 : decode cX1_init 15 = .ok (.iload_n 1, 1) := by decide +kernel
theorem dX1_init_16 : decode cX1_init 16 = .ok (.aload_n 0, 1) := by decide +kernel
theorem dX1_init_17 : decode cX1_init 17 = .ok (.getfield 11, 3) := by decide +kernel
theorem dX1_init_20 : decode cX1_init 20 = .ok (.arraylength, 1) := by decide +kernel
theorem dX1_init_21 : decode cX1_init 21 = .ok (.if_icmp .ge 22, 3) := by decide +kernel
theorem dX1_init_24 : decode cX1_init 24 = .ok (.aload_n 0, 1) := by decide +kernel
theorem dX1_init_25 : decode cX1_init 25 = .ok (.getfield 11, 3) := by decide +kernel
theorem dX1_init_28 : decode cX1_init 28 = .ok (.iload_n 1, 1) := by decide +kernel
theorem dX1_init_29 : decode cX1_init 29 = .ok (.new 9, 3) := by decide +kernel
theorem dX1_init_32 : decode cX1_init 32 = .ok (.dup, 1) := by decide +kernel
theorem dX1_init_33 : decode cX1_init 33 = .ok (.invokespecial 17, 3) := by decide +kernel
theorem dX1_init_36 : decode cX1_init 36 = .ok (.aastore, 1) := by decide +kernel
theorem dX1_init_37 : decode cX1_init 37 = .ok (.iinc 1 1, 3) := by decide +kernel
theorem dX1_init_40 : decode cX1_init 40 = .ok (.goto (-25), 3) := by decide +kernel
theorem dX1_init_43 : decode cX1_init 43 = .ok (.aload_n 0, 1) := by decide +kernel
theorem dX1_init_44 : decode cX1_init 44 = .ok (.iconst 0, 1) := by decide +kernel
theorem dX1_init_45 : decode cX1_init 45 = .ok (.putfield 18, 3) := by decide +kernel
theorem dX1_init_48 : decode cX1_init 48 = .ok (.aload_n 0, 1) := by decide +kernel
theorem dX1_init_49 : decode cX1_init 49 = .ok (.iconst 0, 1) := by decide +kernel
theorem dX1_init_50 : decode cX1_init 50 = .ok (.putfield 22, 3) := by decide +kernel
theorem dX1_init_53 : decode cX1_init 53 = .ok (.return_, 1) := by decide +kernel
theorem dX1_held_0 : decode cX1_held 0 = .ok (.aload_n 0, 1) := by decide +kernel
theorem dX1_held_1 : decode cX1_held 1 = .ok (.getfield 22, 3) := by decide +kernel
theorem dX1_held_4 : decode cX1_held 4 = .ok (.ireturn, 1) := by decide +kernel
theorem dX1_keep_0 : decode cX1_keep 0 = .ok (.aload_n 0, 1) := by decide +kernel
theorem dX1_keep_1 : decode cX1_keep 1 = .ok (.getfield 22, 3) := by decide +kernel
theorem dX1_keep_4 : decode cX1_keep 4 = .ok (.bipush 6, 2) := by decide +kernel
theorem dX1_keep_6 : decode cX1_keep 6 = .ok (.if_icmp .lt 26, 3) := by decide +kernel
theorem dX1_keep_9 : decode cX1_keep 9 = .ok (.aload_n 0, 1) := by decide +kernel
theorem dX1_keep_10 : decode cX1_keep 10 = .ok (.aload_n 0, 1) := by decide +kernel
theorem dX1_keep_11 : decode cX1_keep 11 = .ok (.getfield 18, 3) := by decide +kernel
theorem dX1_keep_14 : decode cX1_keep 14 = .ok (.iconst 1, 1) := by decide +kernel
theorem dX1_keep_15 : decode cX1_keep 15 = .ok (.iadd, 1) := by decide +kernel
theorem dX1_keep_16 : decode cX1_keep 16 = .ok (.bipush 6, 2) := by decide +kernel
theorem dX1_keep_18 : decode cX1_keep 18 = .ok (.irem, 1) := by decide +kernel
theorem dX1_keep_19 : decode cX1_keep 19 = .ok (.putfield 18, 3) := by decide +kernel
theorem dX1_keep_22 : decode cX1_keep 22 = .ok (.aload_n 0, 1) := by decide +kernel
theorem dX1_keep_23 : decode cX1_keep 23 = .ok (.dup, 1) := by decide +kernel
theorem dX1_keep_24 : decode cX1_keep 24 = .ok (.getfield 22, 3) := by decide +kernel
theorem dX1_keep_27 : decode cX1_keep 27 = .ok (.iconst 1, 1) := by decide +kernel
theorem dX1_keep_28 : decode cX1_keep 28 = .ok (.isub, 1) := by decide +kernel
theorem dX1_keep_29 : decode cX1_keep 29 = .ok (.putfield 22, 3) := by decide +kernel
theorem dX1_keep_32 : decode cX1_keep 32 = .ok (.aload_n 0, 1) := by decide +kernel
theorem dX1_keep_33 : decode cX1_keep 33 = .ok (.aload_n 0, 1) := by decide +kernel
theorem dX1_keep_34 : decode cX1_keep 34 = .ok (.getfield 22, 3) := by decide +kernel
theorem dX1_keep_37 : decode cX1_keep 37 = .ok (.invokevirtual 25, 3) := by decide +kernel
theorem dX1_keep_40 : decode cX1_keep 40 = .ok (.astore_n 2, 1) := by decide +kernel
theorem dX1_keep_41 : decode cX1_keep 41 = .ok (.aload_n 2, 1) := by decide +kernel
theorem dX1_keep_42 : decode cX1_keep 42 = .ok (.ifnull 18, 3) := by decide +kernel
theorem dX1_keep_45 : decode cX1_keep 45 = .ok (.aload_n 2, 1) := by decide +kernel
theorem dX1_keep_46 : decode cX1_keep 46 = .ok (.aload_n 1, 1) := by decide +kernel
theorem dX1_keep_47 : decode cX1_keep 47 = .ok (.invokevirtual 29, 3) := by decide +kernel
theorem dX1_keep_50 : decode cX1_keep 50 = .ok (.aload_n 0, 1) := by decide +kernel
theorem dX1_keep_51 : decode cX1_keep 51 = .ok (.dup, 1) := by decide +kernel
theorem dX1_keep_52 : decode cX1_keep 52 = .ok (.getfield 22, 3) := by decide +kernel
theorem dX1_keep_55 : decode cX1_keep 55 = .ok (.iconst 1, 1) := by decide +kernel
theorem dX1_keep_56 : decode cX1_keep 56 = .ok (.iadd, 1) := by decide +kernel
theorem dX1_keep_57 : decode cX1_keep 57 = .ok (.putfield 22, 3) := by decide +kernel
theorem dX1_keep_60 : decode cX1_keep 60 = .ok (.return_, 1) := by decide +kernel
theorem dX1_saved_0 : decode cX1_saved 0 = .ok (.aload_n 0, 1) := by decide +kernel
theorem dX1_saved_1 : decode cX1_saved 1 = .ok (.getfield 18, 3) := by decide +kernel
theorem dX1_saved_4 : decode cX1_saved 4 = .ok (.iload_n 1, 1) := by decide +kernel
theorem dX1_saved_5 : decode cX1_saved 5 = .ok (.iadd, 1) := by decide +kernel
theorem dX1_saved_6 : decode cX1_saved 6 = .ok (.bipush 6, 2) := by decide +kernel
theorem dX1_saved_8 : decode cX1_saved 8 = .ok (.irem, 1) := by decide +kernel
theorem dX1_saved_9 : decode cX1_saved 9 = .ok (.istore_n 2, 1) := by decide +kernel
theorem dX1_saved_10 : decode cX1_saved 10 = .ok (.iload_n 2, 1) := by decide +kernel
theorem dX1_saved_11 : decode cX1_saved 11 = .ok (.ifCond .lt 21, 3) := by decide +kernel
theorem dX1_saved_14 : decode cX1_saved 14 = .ok (.iload_n 2, 1) := by decide +kernel
theorem dX1_saved_15 : decode cX1_saved 15 = .ok (.aload_n 0, 1) := by decide +kernel
theorem dX1_saved_16 : decode cX1_saved 16 = .ok (.getfield 11, 3) := by decide +kernel
theorem dX1_saved_19 : decode cX1_saved 19 = .ok (.arraylength, 1) := by decide +kernel
theorem dX1_saved_20 : decode cX1_saved 20 = .ok (.if_icmp .ge 12, 3) := by decide +kernel
theorem dX1_saved_23 : decode cX1_saved 23 = .ok (.aload_n 0, 1) := by decide +kernel
theorem dX1_saved_24 : decode cX1_saved 24 = .ok (.getfield 11, 3) := by decide +kernel
theorem dX1_saved_27 : decode cX1_saved 27 = .ok (.iload_n 2, 1) := by decide +kernel
theorem dX1_saved_28 : decode cX1_saved 28 = .ok (.aaload, 1) := by decide +kernel
theorem dX1_saved_29 : decode cX1_saved 29 = .ok (.goto 4, 3) := by decide +kernel
theorem dX1_saved_32 : decode cX1_saved 32 = .ok (.aconst_null, 1) := by decide +kernel
theorem dX1_saved_33 : decode cX1_saved 33 = .ok (.areturn, 1) := by decide +kernel
theorem dX2_init_0 : decode cX2_init 0 = .ok (.aload_n 0, 1) := by decide +kernel
theorem dX2_init_1 : decode cX2_init 1 = .ok (.invokespecial 3, 3) := by decide +kernel
theorem dX2_init_4 : decode cX2_init 4 = .ok (.aload_n 0, 1) := by decide +kernel
theorem dX2_init_5 : decode cX2_init 5 = .ok (.new 9, 3) := by decide +kernel
theorem dX2_init_8 : decode cX2_init 8 = .ok (.dup, 1) := by decide +kernel
theorem dX2_init_9 : decode cX2_init 9 = .ok (.bipush 9, 2) := by decide +kernel
theorem dX2_init_11 : decode cX2_init 11 = .ok (.invokespecial 11, 3) := by decide +kernel
theorem dX2_init_14 : decode cX2_init 14 = .ok (.putfield 14, 3) := by decide +kernel
theorem dX2_init_17 : decode cX2_init 17 = .ok (.return_, 1) := by decide +kernel
theorem dX2_measure_0 : decode cX2_measure 0 = .ok (.aload_n 3, 1) := by decide +kernel
theorem dX2_measure_1 : decode cX2_measure 1 = .ok (.iconst 3, 1) := by decide +kernel
theorem dX2_measure_2 : decode cX2_measure 2 = .ok (.invokevirtual 20, 3) := by decide +kernel
theorem dX2_measure_5 : decode cX2_measure 5 = .ok (.istore 4, 2) := by decide +kernel
theorem dX2_measure_7 : decode cX2_measure 7 = .ok (.aload_n 0, 1) := by decide +kernel
theorem dX2_measure_8 : decode cX2_measure 8 = .ok (.getfield 14, 3) := by decide +kernel
theorem dX2_measure_11 : decode cX2_measure 11 = .ok (.invokevirtual 24, 3) := by decide +kernel
theorem dX2_measure_14 : decode cX2_measure 14 = .ok (.iconst 0, 1) := by decide +kernel
theorem dX2_measure_15 : decode cX2_measure 15 = .ok (.istore 5, 2) := by decide +kernel
theorem dX2_measure_17 : decode cX2_measure 17 = .ok (.iload 5, 2) := by decide +kernel
theorem dX2_measure_19 : decode cX2_measure 19 = .ok (.aload_n 2, 1) := by decide +kernel
theorem dX2_measure_20 : decode cX2_measure 20 = .ok (.invokevirtual 27, 3) := by decide +kernel
theorem dX2_measure_23 : decode cX2_measure 23 = .ok (.if_icmp .gt 21, 3) := by decide +kernel
theorem dX2_measure_26 : decode cX2_measure 26 = .ok (.aload_n 0, 1) := by decide +kernel
theorem dX2_measure_27 : decode cX2_measure 27 = .ok (.getfield 14, 3) := by decide +kernel
theorem dX2_measure_30 : decode cX2_measure 30 = .ok (.iload 5, 2) := by decide +kernel
theorem dX2_measure_32 : decode cX2_measure 32 = .ok (.iload 4, 2) := by decide +kernel
theorem dX2_measure_34 : decode cX2_measure 34 = .ok (.imul, 1) := by decide +kernel
theorem dX2_measure_35 : decode cX2_measure 35 = .ok (.invokevirtual 31, 3) := by decide +kernel
theorem dX2_measure_38 : decode cX2_measure 38 = .ok (.iinc 5 1, 3) := by decide +kernel
theorem dX2_measure_41 : decode cX2_measure 41 = .ok (.goto (-24), 3) := by decide +kernel
theorem dX2_measure_44 : decode cX2_measure 44 = .ok (.iconst 0, 1) := by decide +kernel
theorem dX2_measure_45 : decode cX2_measure 45 = .ok (.istore 5, 2) := by decide +kernel
theorem dX2_measure_47 : decode cX2_measure 47 = .ok (.iload 5, 2) := by decide +kernel
theorem dX2_measure_49 : decode cX2_measure 49 = .ok (.aload_n 1, 1) := by decide +kernel
theorem dX2_measure_50 : decode cX2_measure 50 = .ok (.invokevirtual 27, 3) := by decide +kernel
theorem dX2_measure_53 : decode cX2_measure 53 = .ok (.if_icmp .ge 27, 3) := by decide +kernel
theorem dX2_measure_56 : decode cX2_measure 56 = .ok (.aload_n 0, 1) := by decide +kernel
theorem dX2_measure_57 : decode cX2_measure 57 = .ok (.aload_n 1, 1) := by decide +kernel
theorem dX2_measure_58 : decode cX2_measure 58 = .ok (.iload 5, 2) := by decide +kernel
theorem dX2_measure_60 : decode cX2_measure 60 = .ok (.invokevirtual 20, 3) := by decide +kernel
theorem dX2_measure_63 : decode cX2_measure 63 = .ok (.aload_n 2, 1) := by decide +kernel
theorem dX2_measure_64 : decode cX2_measure 64 = .ok (.iload 4, 2) := by decide +kernel
theorem dX2_measure_66 : decode cX2_measure 66 = .ok (.aload_n 3, 1) := by decide +kernel
theorem dX2_measure_67 : decode cX2_measure 67 = .ok (.iconst 2, 1) := by decide +kernel
theorem dX2_measure_68 : decode cX2_measure 68 = .ok (.invokevirtual 20, 3) := by decide +kernel
theorem dX2_measure_71 : decode cX2_measure 71 = .ok (.invokevirtual 34, 3) := by decide +kernel
theorem dX2_measure_74 : decode cX2_measure 74 = .ok (.iinc 5 1, 3) := by decide +kernel
theorem dX2_measure_77 : decode cX2_measure 77 = .ok (.goto (-30), 3) := by decide +kernel
theorem dX2_measure_80 : decode cX2_measure 80 = .ok (.return_, 1) := by decide +kernel
theorem dX2_takeIn_0 : decode cX2_takeIn 0 = .ok (.aload_n 0, 1) := by decide +kernel
theorem dX2_takeIn_1 : decode cX2_takeIn 1 = .ok (.getfield 14, 3) := by decide +kernel
theorem dX2_takeIn_4 : decode cX2_takeIn 4 = .ok (.iconst 0, 1) := by decide +kernel
theorem dX2_takeIn_5 : decode cX2_takeIn 5 = .ok (.invokevirtual 20, 3) := by decide +kernel
theorem dX2_takeIn_8 : decode cX2_takeIn 8 = .ok (.istore 5, 2) := by decide +kernel
theorem dX2_takeIn_10 : decode cX2_takeIn 10 = .ok (.aload_n 0, 1) := by decide +kernel
theorem dX2_takeIn_11 : decode cX2_takeIn 11 = .ok (.getfield 14, 3) := by decide +kernel
theorem dX2_takeIn_14 : decode cX2_takeIn 14 = .ok (.iconst 0, 1) := by decide +kernel
theorem dX2_takeIn_15 : decode cX2_takeIn 15 = .ok (.iload 5, 2) := by decide +kernel
theorem dX2_takeIn_17 : decode cX2_takeIn 17 = .ok (.iload_n 3, 1) := by decide +kernel
theorem dX2_takeIn_18 : decode cX2_takeIn 18 = .ok (.iadd, 1) := by decide +kernel
theorem dX2_takeIn_19 : decode cX2_takeIn 19 = .ok (.invokevirtual 38, 3) := by decide +kernel
theorem dX2_takeIn_22 : decode cX2_takeIn 22 = .ok (.iconst 1, 1) := by decide +kernel
theorem dX2_takeIn_23 : decode cX2_takeIn 23 = .ok (.istore 6, 2) := by decide +kernel
theorem dX2_takeIn_25 : decode cX2_takeIn 25 = .ok (.iload 6, 2) := by decide +kernel
theorem dX2_takeIn_27 : decode cX2_takeIn 27 = .ok (.aload_n 2, 1) := by decide +kernel
theorem dX2_takeIn_28 : decode cX2_takeIn 28 = .ok (.invokevirtual 27, 3) := by decide +kernel
theorem dX2_takeIn_31 : decode cX2_takeIn 31 = .ok (.if_icmp .gt 82, 3) := by decide +kernel
theorem dX2_takeIn_34 : decode cX2_takeIn 34 = .ok (.iload 5, 2) := by decide +kernel
theorem dX2_takeIn_36 : decode cX2_takeIn 36 = .ok (.iload 4, 2) := by decide +kernel
theorem dX2_takeIn_38 : decode cX2_takeIn 38 = .ok (.iload_n 1, 1) := by decide +kernel
theorem dX2_takeIn_39 : decode cX2_takeIn 39 = .ok (.aload_n 2, 1) := by decide +kernel
theorem dX2_takeIn_40 : decode cX2_takeIn 40 = .ok (.iload 6, 2) := by decide +kernel
theorem dX2_takeIn_42 : decode cX2_takeIn 42 = .ok (.iconst 1, 1) := by decide +kernel
theorem dX2_takeIn_43 : decode cX2_takeIn 43 = .ok (.isub, 1) := by decide +kernel
theorem dX2_takeIn_44 : decode cX2_takeIn 44 = .ok (.invokevirtual 20, 3) := by decide +kernel
theorem dX2_takeIn_47 : decode cX2_takeIn 47 = .ok (.invokestatic 42, 3) := by decide +kernel
theorem dX2_takeIn_50 : decode cX2_takeIn 50 = .ok (.imul, 1) := by decide +kernel
theorem dX2_takeIn_51 : decode cX2_takeIn 51 = .ok (.iadd, 1) := by decide +kernel
theorem dX2_takeIn_52 : decode cX2_takeIn 52 = .ok (.istore 7, 2) := by decide +kernel
theorem dX2_takeIn_54 : decode cX2_takeIn 54 = .ok (.aload_n 0, 1) := by decide +kernel
theorem dX2_takeIn_55 : decode cX2_takeIn 55 = .ok (.getfield 14, 3) := by decide +kernel
theorem dX2_takeIn_58 : decode cX2_takeIn 58 = .ok (.iload 6, 2) := by decide +kernel
theorem dX2_takeIn_60 : decode cX2_takeIn 60 = .ok (.invokevirtual 20, 3) := by decide +kernel
theorem dX2_takeIn_63 : decode cX2_takeIn 63 = .ok (.istore 5, 2) := by decide +kernel
theorem dX2_takeIn_65 : decode cX2_takeIn 65 = .ok (.iload 5, 2) := by decide +kernel
theorem dX2_takeIn_67 : decode cX2_takeIn 67 = .ok (.iload_n 3, 1) := by decide +kernel
theorem dX2_takeIn_68 : decode cX2_takeIn 68 = .ok (.iadd, 1) := by decide +kernel
theorem dX2_takeIn_69 : decode cX2_takeIn 69 = .ok (.istore 8, 2) := by decide +kernel
theorem dX2_takeIn_71 : decode cX2_takeIn 71 = .ok (.aload_n 0, 1) := by decide +kernel
theorem dX2_takeIn_72 : decode cX2_takeIn 72 = .ok (.getfield 14, 3) := by decide +kernel
theorem dX2_takeIn_75 : decode cX2_takeIn 75 = .ok (.iload 6, 2) := by decide +kernel
theorem dX2_takeIn_77 : decode cX2_takeIn 77 = .ok (.iconst 1, 1) := by decide +kernel
theorem dX2_takeIn_78 : decode cX2_takeIn 78 = .ok (.isub, 1) := by decide +kernel
theorem dX2_takeIn_79 : decode cX2_takeIn 79 = .ok (.invokevirtual 20, 3) := by decide +kernel
theorem dX2_takeIn_82 : decode cX2_takeIn 82 = .ok (.iload_n 3, 1) := by decide +kernel
theorem dX2_takeIn_83 : decode cX2_takeIn 83 = .ok (.iadd, 1) := by decide +kernel
theorem dX2_takeIn_84 : decode cX2_takeIn 84 = .ok (.istore 9, 2) := by decide +kernel
theorem dX2_takeIn_86 : decode cX2_takeIn 86 = .ok (.aload_n 0, 1) := by decide +kernel
theorem dX2_takeIn_87 : decode cX2_takeIn 87 = .ok (.getfield 14, 3) := by decide +kernel
theorem dX2_takeIn_90 : decode cX2_takeIn 90 = .ok (.iload 6, 2) := by decide +kernel
theorem dX2_takeIn_92 : decode cX2_takeIn 92 = .ok (.iload 7, 2) := by decide +kernel
theorem dX2_takeIn_94 : decode cX2_takeIn 94 = .ok (.iload 8, 2) := by decide +kernel
theorem dX2_takeIn_96 : decode cX2_takeIn 96 = .ok (.iload 9, 2) := by decide +kernel
theorem dX2_takeIn_98 : decode cX2_takeIn 98 = .ok (.invokestatic 46, 3) := by decide +kernel
theorem dX2_takeIn_101 : decode cX2_takeIn 101 = .ok (.invokestatic 46, 3) := by decide +kernel
theorem dX2_takeIn_104 : decode cX2_takeIn 104 = .ok (.invokevirtual 38, 3) := by decide +kernel
theorem dX2_takeIn_107 : decode cX2_takeIn 107 = .ok (.iinc 6 1, 3) := by decide +kernel
theorem dX2_takeIn_110 : decode cX2_takeIn 110 = .ok (.goto (-85), 3) := by decide +kernel
theorem dX2_takeIn_113 : decode cX2_takeIn 113 = .ok (.return_, 1) := by decide +kernel
theorem dX2_whole_0 : decode cX2_whole 0 = .ok (.aload_n 0, 1) := by decide +kernel
theorem dX2_whole_1 : decode cX2_whole 1 = .ok (.getfield 14, 3) := by decide +kernel
theorem dX2_whole_4 : decode cX2_whole 4 = .ok (.aload_n 0, 1) := by decide +kernel
theorem dX2_whole_5 : decode cX2_whole 5 = .ok (.getfield 14, 3) := by decide +kernel
theorem dX2_whole_8 : decode cX2_whole 8 = .ok (.invokevirtual 27, 3) := by decide +kernel
theorem dX2_whole_11 : decode cX2_whole 11 = .ok (.iconst 1, 1) := by decide +kernel
theorem dX2_whole_12 : decode cX2_whole 12 = .ok (.isub, 1) := by decide +kernel
theorem dX2_whole_13 : decode cX2_whole 13 = .ok (.invokevirtual 20, 3) := by decide +kernel
theorem dX2_whole_16 : decode cX2_whole 16 = .ok (.ireturn, 1) := by decide +kernel
theorem dX2_leastRest_0 : decode cX2_leastRest 0 = .ok (.iconst 0, 1) := by decide +kernel
theorem dX2_leastRest_1 : decode cX2_leastRest 1 = .ok (.istore_n 2, 1) := by decide +kernel
theorem dX2_leastRest_2 : decode cX2_leastRest 2 = .ok (.iload_n 2, 1) := by decide +kernel
theorem dX2_leastRest_3 : decode cX2_leastRest 3 = .ok (.aload_n 0, 1) := by decide +kernel
theorem dX2_leastRest_4 : decode cX2_leastRest 4 = .ok (.getfield 14, 3) := by decide +kernel
theorem dX2_leastRest_7 : decode cX2_leastRest 7 = .ok (.invokevirtual 27, 3) := by decide +kernel
theorem dX2_leastRest_10 : decode cX2_leastRest 10 = .ok (.if_icmp .ge 33, 3) := by decide +kernel
theorem dX2_leastRest_13 : decode cX2_leastRest 13 = .ok (.aload_n 0, 1) := by decide +kernel
theorem dX2_leastRest_14 : decode cX2_leastRest 14 = .ok (.getfield 14, 3) := by decide +kernel
theorem dX2_leastRest_17 : decode cX2_leastRest 17 = .ok (.aload_n 0, 1) := by decide +kernel
theorem dX2_leastRest_18 : decode cX2_leastRest 18 = .ok (.getfield 14, 3) := by decide +kernel
theorem dX2_leastRest_21 : decode cX2_leastRest 21 = .ok (.invokevirtual 27, 3) := by decide +kernel
theorem dX2_leastRest_24 : decode cX2_leastRest 24 = .ok (.iconst 1, 1) := by decide +kernel
theorem dX2_leastRest_25 : decode cX2_leastRest 25 = .ok (.isub, 1) := by decide +kernel
theorem dX2_leastRest_26 : decode cX2_leastRest 26 = .ok (.iload_n 2, 1) := by decide +kernel
theorem dX2_leastRest_27 : decode cX2_leastRest 27 = .ok (.isub, 1) := by decide +kernel
theorem dX2_leastRest_28 : decode cX2_leastRest 28 = .ok (.invokevirtual 20, 3) := by decide +kernel
theorem dX2_leastRest_31 : decode cX2_leastRest 31 = .ok (.iload_n 1, 1) := by decide +kernel
theorem dX2_leastRest_32 : decode cX2_leastRest 32 = .ok (.if_icmp .gt 5, 3) := by decide +kernel
theorem dX2_leastRest_35 : decode cX2_leastRest 35 = .ok (.iload_n 2, 1) := by decide +kernel
theorem dX2_leastRest_36 : decode cX2_leastRest 36 = .ok (.ireturn, 1) := by decide +kernel
theorem dX2_leastRest_37 : decode cX2_leastRest 37 = .ok (.iinc 2 1, 3) := by decide +kernel
theorem dX2_leastRest_40 : decode cX2_leastRest 40 = .ok (.goto (-38), 3) := by decide +kernel
theorem dX2_leastRest_43 : decode cX2_leastRest 43 = .ok (.iconst (-1), 1) := by decide +kernel
theorem dX2_leastRest_44 : decode cX2_leastRest 44 = .ok (.ireturn, 1) := by decide +kernel
theorem dX3_init_0 : decode cX3_init 0 = .ok (.aload_n 0, 1) := by decide +kernel
theorem dX3_init_1 : decode cX3_init 1 = .ok (.invokespecial 3, 3) := by decide +kernel
theorem dX3_init_4 : decode cX3_init 4 = .ok (.aload_n 0, 1) := by decide +kernel
theorem dX3_init_5 : decode cX3_init 5 = .ok (.new 9, 3) := by decide +kernel
theorem dX3_init_8 : decode cX3_init 8 = .ok (.dup, 1) := by decide +kernel
theorem dX3_init_9 : decode cX3_init 9 = .ok (.bipush 41, 2) := by decide +kernel
theorem dX3_init_11 : decode cX3_init 11 = .ok (.invokespecial 11, 3) := by decide +kernel
theorem dX3_init_14 : decode cX3_init 14 = .ok (.putfield 14, 3) := by decide +kernel
theorem dX3_init_17 : decode cX3_init 17 = .ok (.aload_n 0, 1) := by decide +kernel
theorem dX3_init_18 : decode cX3_init 18 = .ok (.new 9, 3) := by decide +kernel
theorem dX3_init_21 : decode cX3_init 21 = .ok (.dup, 1) := by decide +kernel
theorem dX3_init_22 : decode cX3_init 22 = .ok (.bipush 41, 2) := by decide +kernel
theorem dX3_init_24 : decode cX3_init 24 = .ok (.invokespecial 11, 3) := by decide +kernel
theorem dX3_init_27 : decode cX3_init 27 = .ok (.putfield 20, 3) := by decide +kernel
theorem dX3_init_30 : decode cX3_init 30 = .ok (.return_, 1) := by decide +kernel
theorem dX3_held_0 : decode cX3_held 0 = .ok (.aload_n 0, 1) := by decide +kernel
theorem dX3_held_1 : decode cX3_held 1 = .ok (.getfield 14, 3) := by decide +kernel
theorem dX3_held_4 : decode cX3_held 4 = .ok (.invokevirtual 23, 3) := by decide +kernel
theorem dX3_held_7 : decode cX3_held 7 = .ok (.ireturn, 1) := by decide +kernel
theorem dX3_x_0 : decode cX3_x 0 = .ok (.aload_n 0, 1) := by decide +kernel
theorem dX3_x_1 : decode cX3_x 1 = .ok (.getfield 14, 3) := by decide +kernel
theorem dX3_x_4 : decode cX3_x 4 = .ok (.iload_n 1, 1) := by decide +kernel
theorem dX3_x_5 : decode cX3_x 5 = .ok (.invokevirtual 27, 3) := by decide +kernel
theorem dX3_x_8 : decode cX3_x 8 = .ok (.ireturn, 1) := by decide +kernel
theorem dX3_y_0 : decode cX3_y 0 = .ok (.aload_n 0, 1) := by decide +kernel
theorem dX3_y_1 : decode cX3_y 1 = .ok (.getfield 20, 3) := by decide +kernel
theorem dX3_y_4 : decode cX3_y 4 = .ok (.iload_n 1, 1) := by decide +kernel
theorem dX3_y_5 : decode cX3_y 5 = .ok (.invokevirtual 27, 3) := by decide +kernel
theorem dX3_y_8 : decode cX3_y 8 = .ok (.ireturn, 1) := by decide +kernel
theorem dX3_add_0 : decode cX3_add 0 = .ok (.aload_n 0, 1) := by decide +kernel
theorem dX3_add_1 : decode cX3_add 1 = .ok (.getfield 14, 3) := by decide +kernel
theorem dX3_add_4 : decode cX3_add 4 = .ok (.iload_n 1, 1) := by decide +kernel
theorem dX3_add_5 : decode cX3_add 5 = .ok (.invokevirtual 31, 3) := by decide +kernel
theorem dX3_add_8 : decode cX3_add 8 = .ok (.aload_n 0, 1) := by decide +kernel
theorem dX3_add_9 : decode cX3_add 9 = .ok (.getfield 20, 3) := by decide +kernel
theorem dX3_add_12 : decode cX3_add 12 = .ok (.iload_n 2, 1) := by decide +kernel
theorem dX3_add_13 : decode cX3_add 13 = .ok (.invokevirtual 31, 3) := by decide +kernel
theorem dX3_add_16 : decode cX3_add 16 = .ok (.return_, 1) := by decide +kernel
theorem dX3_cut_0 : decode cX3_cut 0 = .ok (.aload_n 0, 1) := by decide +kernel
theorem dX3_cut_1 : decode cX3_cut 1 = .ok (.getfield 14, 3) := by decide +kernel
theorem dX3_cut_4 : decode cX3_cut 4 = .ok (.iload_n 1, 1) := by decide +kernel
theorem dX3_cut_5 : decode cX3_cut 5 = .ok (.invokevirtual 34, 3) := by decide +kernel
theorem dX3_cut_8 : decode cX3_cut 8 = .ok (.aload_n 0, 1) := by decide +kernel
theorem dX3_cut_9 : decode cX3_cut 9 = .ok (.getfield 20, 3) := by decide +kernel
theorem dX3_cut_12 : decode cX3_cut 12 = .ok (.iload_n 1, 1) := by decide +kernel
theorem dX3_cut_13 : decode cX3_cut 13 = .ok (.invokevirtual 34, 3) := by decide +kernel
theorem dX3_cut_16 : decode cX3_cut 16 = .ok (.return_, 1) := by decide +kernel
theorem dX3_copy_0 : decode cX3_copy 0 = .ok (.aload_n 0, 1) := by decide +kernel
theorem dX3_copy_1 : decode cX3_copy 1 = .ok (.getfield 14, 3) := by decide +kernel
theorem dX3_copy_4 : decode cX3_copy 4 = .ok (.aload_n 1, 1) := by decide +kernel
theorem dX3_copy_5 : decode cX3_copy 5 = .ok (.getfield 14, 3) := by decide +kernel
theorem dX3_copy_8 : decode cX3_copy 8 = .ok (.invokevirtual 37, 3) := by decide +kernel
theorem dX3_copy_11 : decode cX3_copy 11 = .ok (.aload_n 0, 1) := by decide +kernel
theorem dX3_copy_12 : decode cX3_copy 12 = .ok (.getfield 20, 3) := by decide +kernel
theorem dX3_copy_15 : decode cX3_copy 15 = .ok (.aload_n 1, 1) := by decide +kernel
theorem dX3_copy_16 : decode cX3_copy 16 = .ok (.getfield 20, 3) := by decide +kernel
theorem dX3_copy_19 : decode cX3_copy 19 = .ok (.invokevirtual 37, 3) := by decide +kernel
theorem dX3_copy_22 : decode cX3_copy 22 = .ok (.return_, 1) := by decide +kernel
theorem dX3_directionTo_0 : decode cX3_directionTo 0 = .ok (.aload_n 0, 1) := by decide +kernel
theorem dX3_directionTo_1 : decode cX3_directionTo 1 = .ok (.getfield 14, 3) := by decide +kernel
theorem dX3_directionTo_4 : decode cX3_directionTo 4 = .ok (.iload_n 1, 1) := by decide +kernel
theorem dX3_directionTo_5 : decode cX3_directionTo 5 = .ok (.invokestatic 41, 3) := by decide +kernel
theorem dX3_directionTo_8 : decode cX3_directionTo 8 = .ok (.invokestatic 45, 3) := by decide +kernel
theorem dX3_directionTo_11 : decode cX3_directionTo 11 = .ok (.istore_n 2, 1) := by decide +kernel
theorem dX3_directionTo_12 : decode cX3_directionTo 12 = .ok (.aload_n 0, 1) := by decide +kernel
theorem dX3_directionTo_13 : decode cX3_directionTo 13 = .ok (.getfield 20, 3) := by decide +kernel
theorem dX3_directionTo_16 : decode cX3_directionTo 16 = .ok (.iload_n 1, 1) := by decide +kernel
theorem dX3_directionTo_17 : decode cX3_directionTo 17 = .ok (.invokestatic 41, 3) := by decide +kernel
theorem dX3_directionTo_20 : decode cX3_directionTo 20 = .ok (.invokestatic 45, 3) := by decide +kernel
theorem dX3_directionTo_23 : decode cX3_directionTo 23 = .ok (.istore_n 3, 1) := by decide +kernel
theorem dX3_directionTo_24 : decode cX3_directionTo 24 = .ok (.iconst 0, 1) := by decide +kernel
theorem dX3_directionTo_25 : decode cX3_directionTo 25 = .ok (.istore 4, 2) := by decide +kernel
theorem dX3_directionTo_27 : decode cX3_directionTo 27 = .ok (.iload 4, 2) := by decide +kernel
theorem dX3_directionTo_29 : decode cX3_directionTo 29 = .ok (.bipush 8, 2) := by decide +kernel
theorem dX3_directionTo_31 : decode cX3_directionTo 31 = .ok (.if_icmp .ge 36, 3) := by decide +kernel
theorem dX3_directionTo_34 : decode cX3_directionTo 34 = .ok (.getstatic 50, 3) := by decide +kernel
theorem dX3_directionTo_37 : decode cX3_directionTo 37 = .ok (.iload 4, 2) := by decide +kernel
theorem dX3_directionTo_39 : decode cX3_directionTo 39 = .ok (.invokestatic 54, 3) := by decide +kernel
theorem dX3_directionTo_42 : decode cX3_directionTo 42 = .ok (.iload_n 2, 1) := by decide +kernel
theorem dX3_directionTo_43 : decode cX3_directionTo 43 = .ok (.if_icmp .ne 18, 3) := by decide +kernel
theorem dX3_directionTo_46 : decode cX3_directionTo 46 = .ok (.getstatic 58, 3) := by decide +kernel
theorem dX3_directionTo_49 : decode cX3_directionTo 49 = .ok (.iload 4, 2) := by decide +kernel
theorem dX3_directionTo_51 : decode cX3_directionTo 51 = .ok (.invokestatic 54, 3) := by decide +kernel
theorem dX3_directionTo_54 : decode cX3_directionTo 54 = .ok (.iload_n 3, 1) := by decide +kernel
theorem dX3_directionTo_55 : decode cX3_directionTo 55 = .ok (.if_icmp .ne 6, 3) := by decide +kernel
theorem dX3_directionTo_58 : decode cX3_directionTo 58 = .ok (.iload 4, 2) := by decide +kernel
theorem dX3_directionTo_60 : decode cX3_directionTo 60 = .ok (.ireturn, 1) := by decide +kernel
theorem dX3_directionTo_61 : decode cX3_directionTo 61 = .ok (.iinc 4 1, 3) := by decide +kernel
theorem dX3_directionTo_64 : decode cX3_directionTo 64 = .ok (.goto (-37), 3) := by decide +kernel
theorem dX3_directionTo_67 : decode cX3_directionTo 67 = .ok (.iconst (-1), 1) := by decide +kernel
theorem dX3_directionTo_68 : decode cX3_directionTo 68 = .ok (.ireturn, 1) := by decide +kernel
theorem dX3_lengthTo_0 : decode cX3_lengthTo 0 = .ok (.aload_n 0, 1) := by decide +kernel
theorem dX3_lengthTo_1 : decode cX3_lengthTo 1 = .ok (.getfield 14, 3) := by decide +kernel
theorem dX3_lengthTo_4 : decode cX3_lengthTo 4 = .ok (.iload_n 1, 1) := by decide +kernel
theorem dX3_lengthTo_5 : decode cX3_lengthTo 5 = .ok (.invokestatic 41, 3) := by decide +kernel
theorem dX3_lengthTo_8 : decode cX3_lengthTo 8 = .ok (.invokestatic 61, 3) := by decide +kernel
theorem dX3_lengthTo_11 : decode cX3_lengthTo 11 = .ok (.aload_n 0, 1) := by decide +kernel
theorem dX3_lengthTo_12 : decode cX3_lengthTo 12 = .ok (.getfield 20, 3) := by decide +kernel
theorem dX3_lengthTo_15 : decode cX3_lengthTo 15 = .ok (.iload_n 1, 1) := by decide +kernel
theorem dX3_lengthTo_16 : decode cX3_lengthTo 16 = .ok (.invokestatic 41, 3) := by decide +kernel
theorem dX3_lengthTo_19 : decode cX3_lengthTo 19 = .ok (.invokestatic 61, 3) := by decide +kernel
theorem dX3_lengthTo_22 : decode cX3_lengthTo 22 = .ok (.invokestatic 66, 3) := by decide +kernel
theorem dX3_lengthTo_25 : decode cX3_lengthTo 25 = .ok (.ireturn, 1) := by decide +kernel
theorem dX3_difference_0 : decode cX3_difference 0 = .ok (.iload_n 1, 1) := by decide +kernel
theorem dX3_difference_1 : decode cX3_difference 1 = .ok (.iconst 1, 1) := by decide +kernel
theorem dX3_difference_2 : decode cX3_difference 2 = .ok (.if_icmp .lt 11, 3) := by decide +kernel
theorem dX3_difference_5 : decode cX3_difference 5 = .ok (.iload_n 1, 1) := by decide +kernel
theorem dX3_difference_6 : decode cX3_difference 6 = .ok (.aload_n 0, 1) := by decide +kernel
theorem dX3_difference_7 : decode cX3_difference 7 = .ok (.invokevirtual 23, 3) := by decide +kernel
theorem dX3_difference_10 : decode cX3_difference 10 = .ok (.if_icmp .lt 5, 3) := by decide +kernel
theorem dX3_difference_13 : decode cX3_difference 13 = .ok (.iconst 0, 1) := by decide +kernel
theorem dX3_difference_14 : decode cX3_difference 14 = .ok (.ireturn, 1) := by decide +kernel
theorem dX3_difference_15 : decode cX3_difference 15 = .ok (.aload_n 0, 1) := by decide +kernel
theorem dX3_difference_16 : decode cX3_difference 16 = .ok (.iload_n 1, 1) := by decide +kernel
theorem dX3_difference_17 : decode cX3_difference 17 = .ok (.invokevirtual 27, 3) := by decide +kernel
theorem dX3_difference_20 : decode cX3_difference 20 = .ok (.aload_n 0, 1) := by decide +kernel
theorem dX3_difference_21 : decode cX3_difference 21 = .ok (.iload_n 1, 1) := by decide +kernel
theorem dX3_difference_22 : decode cX3_difference 22 = .ok (.iconst 1, 1) := by decide +kernel
theorem dX3_difference_23 : decode cX3_difference 23 = .ok (.isub, 1) := by decide +kernel
theorem dX3_difference_24 : decode cX3_difference 24 = .ok (.invokevirtual 27, 3) := by decide +kernel
theorem dX3_difference_27 : decode cX3_difference 27 = .ok (.isub, 1) := by decide +kernel
theorem dX3_difference_28 : decode cX3_difference 28 = .ok (.ireturn, 1) := by decide +kernel
theorem dX4_init_0 : decode cX4_init 0 = .ok (.aload_n 0, 1) := by decide +kernel
theorem dX4_init_1 : decode cX4_init 1 = .ok (.invokespecial 3, 3) := by decide +kernel
theorem dX4_init_4 : decode cX4_init 4 = .ok (.aload_n 0, 1) := by decide +kernel
theorem dX4_init_5 : decode cX4_init 5 = .ok (.iload_n 1, 1) := by decide +kernel
theorem dX4_init_6 : decode cX4_init 6 = .ok (.ifCond .le 7, 3) := by decide +kernel
theorem dX4_init_9 : decode cX4_init 9 = .ok (.iload_n 1, 1) := by decide +kernel
theorem dX4_init_10 : decode cX4_init 10 = .ok (.goto 4, 3) := by decide +kernel
theorem dX4_init_13 : decode cX4_init 13 = .ok (.iconst 0, 1) := by decide +kernel
theorem dX4_init_14 : decode cX4_init 14 = .ok (.newarray .int, 2) := by decide +kernel
theorem dX4_init_16 : decode cX4_init 16 = .ok (.putfield 9, 3) := by decide +kernel
theorem dX4_init_19 : decode cX4_init 19 = .ok (.aload_n 0, 1) := by decide +kernel
theorem dX4_init_20 : decode cX4_init 20 = .ok (.iconst 0, 1) := by decide +kernel
theorem dX4_init_21 : decode cX4_init 21 = .ok (.putfield 15, 3) := by decide +kernel
theorem dX4_init_24 : decode cX4_init 24 = .ok (.return_, 1) := by decide +kernel
theorem dX4_held_0 : decode cX4_held 0 = .ok (.aload_n 0, 1) := by decide +kernel
theorem dX4_held_1 : decode cX4_held 1 = .ok (.getfield 15, 3) := by decide +kernel
theorem dX4_held_4 : decode cX4_held 4 = .ok (.ireturn, 1) := by decide +kernel
theorem dX4_at_0 : decode cX4_at 0 = .ok (.iload_n 1, 1) := by decide +kernel
theorem dX4_at_1 : decode cX4_at 1 = .ok (.ifCond .lt 29, 3) := by decide +kernel
theorem dX4_at_4 : decode cX4_at 4 = .ok (.iload_n 1, 1) := by decide +kernel
theorem dX4_at_5 : decode cX4_at 5 = .ok (.aload_n 0, 1) := by decide +kernel
theorem dX4_at_6 : decode cX4_at 6 = .ok (.getfield 15, 3) := by decide +kernel
theorem dX4_at_9 : decode cX4_at 9 = .ok (.if_icmp .ge 21, 3) := by decide +kernel
theorem dX4_at_12 : decode cX4_at 12 = .ok (.iload_n 1, 1) := by decide +kernel
theorem dX4_at_13 : decode cX4_at 13 = .ok (.aload_n 0, 1) := by decide +kernel
theorem dX4_at_14 : decode cX4_at 14 = .ok (.getfield 9, 3) := by decide +kernel
theorem dX4_at_17 : decode cX4_at 17 = .ok (.arraylength, 1) := by decide +kernel
theorem dX4_at_18 : decode cX4_at 18 = .ok (.if_icmp .ge 12, 3) := by decide +kernel
theorem dX4_at_21 : decode cX4_at 21 = .ok (.aload_n 0, 1) := by decide +kernel
theorem dX4_at_22 : decode cX4_at 22 = .ok (.getfield 9, 3) := by decide +kernel
theorem dX4_at_25 : decode cX4_at 25 = .ok (.iload_n 1, 1) := by decide +kernel
theorem dX4_at_26 : decode cX4_at 26 = .ok (.iaload, 1) := by decide +kernel
theorem dX4_at_27 : decode cX4_at 27 = .ok (.goto 4, 3) := by decide +kernel
theorem dX4_at_30 : decode cX4_at 30 = .ok (.iconst (-1), 1) := by decide +kernel
theorem dX4_at_31 : decode cX4_at 31 = .ok (.ireturn, 1) := by decide +kernel
theorem dX4_put_0 : decode cX4_put 0 = .ok (.iload_n 1, 1) := by decide +kernel
theorem dX4_put_1 : decode cX4_put 1 = .ok (.ifCond .lt 27, 3) := by decide +kernel
theorem dX4_put_4 : decode cX4_put 4 = .ok (.iload_n 1, 1) := by decide +kernel
theorem dX4_put_5 : decode cX4_put 5 = .ok (.aload_n 0, 1) := by decide +kernel
theorem dX4_put_6 : decode cX4_put 6 = .ok (.getfield 15, 3) := by decide +kernel
theorem dX4_put_9 : decode cX4_put 9 = .ok (.if_icmp .ge 19, 3) := by decide +kernel
theorem dX4_put_12 : decode cX4_put 12 = .ok (.iload_n 1, 1) := by decide +kernel
theorem dX4_put_13 : decode cX4_put 13 = .ok (.aload_n 0, 1) := by decide +kernel
theorem dX4_put_14 : decode cX4_put 14 = .ok (.getfield 9, 3) := by decide +kernel
theorem dX4_put_17 : decode cX4_put 17 = .ok (.arraylength, 1) := by decide +kernel
theorem dX4_put_18 : decode cX4_put 18 = .ok (.if_icmp .ge 10, 3) := by decide +kernel
theorem dX4_put_21 : decode cX4_put 21 = .ok (.aload_n 0, 1) := by decide +kernel
theorem dX4_put_22 : decode cX4_put 22 = .ok (.getfield 9, 3) := by decide +kernel
theorem dX4_put_25 : decode cX4_put 25 = .ok (.iload_n 1, 1) := by decide +kernel
theorem dX4_put_26 : decode cX4_put 26 = .ok (.iload_n 2, 1) := by decide +kernel
theorem dX4_put_27 : decode cX4_put 27 = .ok (.iastore, 1) := by decide +kernel
theorem dX4_put_28 : decode cX4_put 28 = .ok (.return_, 1) := by decide +kernel
theorem dX4_add_0 : decode cX4_add 0 = .ok (.aload_n 0, 1) := by decide +kernel
theorem dX4_add_1 : decode cX4_add 1 = .ok (.getfield 15, 3) := by decide +kernel
theorem dX4_add_4 : decode cX4_add 4 = .ok (.ifCond .lt 35, 3) := by decide +kernel
theorem dX4_add_7 : decode cX4_add 7 = .ok (.aload_n 0, 1) := by decide +kernel
theorem dX4_add_8 : decode cX4_add 8 = .ok (.getfield 15, 3) := by decide +kernel
theorem dX4_add_11 : decode cX4_add 11 = .ok (.aload_n 0, 1) := by decide +kernel
theorem dX4_add_12 : decode cX4_add 12 = .ok (.getfield 9, 3) := by decide +kernel
theorem dX4_add_15 : decode cX4_add 15 = .ok (.arraylength, 1) := by decide +kernel
theorem dX4_add_16 : decode cX4_add 16 = .ok (.if_icmp .ge 23, 3) := by decide +kernel
theorem dX4_add_19 : decode cX4_add 19 = .ok (.aload_n 0, 1) := by decide +kernel
theorem dX4_add_20 : decode cX4_add 20 = .ok (.getfield 9, 3) := by decide +kernel
theorem dX4_add_23 : decode cX4_add 23 = .ok (.aload_n 0, 1) := by decide +kernel
theorem dX4_add_24 : decode cX4_add 24 = .ok (.getfield 15, 3) := by decide +kernel
theorem dX4_add_27 : decode cX4_add 27 = .ok (.iload_n 1, 1) := by decide +kernel
theorem dX4_add_28 : decode cX4_add 28 = .ok (.iastore, 1) := by decide +kernel
theorem dX4_add_29 : decode cX4_add 29 = .ok (.aload_n 0, 1) := by decide +kernel
theorem dX4_add_30 : decode cX4_add 30 = .ok (.dup, 1) := by decide +kernel
theorem dX4_add_31 : decode cX4_add 31 = .ok (.getfield 15, 3) := by decide +kernel
theorem dX4_add_34 : decode cX4_add 34 = .ok (.iconst 1, 1) := by decide +kernel
theorem dX4_add_35 : decode cX4_add 35 = .ok (.iadd, 1) := by decide +kernel
theorem dX4_add_36 : decode cX4_add 36 = .ok (.putfield 15, 3) := by decide +kernel
theorem dX4_add_39 : decode cX4_add 39 = .ok (.return_, 1) := by decide +kernel
theorem dX4_cut_0 : decode cX4_cut 0 = .ok (.iload_n 1, 1) := by decide +kernel
theorem dX4_cut_1 : decode cX4_cut 1 = .ok (.ifCond .lt 16, 3) := by decide +kernel
theorem dX4_cut_4 : decode cX4_cut 4 = .ok (.iload_n 1, 1) := by decide +kernel
theorem dX4_cut_5 : decode cX4_cut 5 = .ok (.aload_n 0, 1) := by decide +kernel
theorem dX4_cut_6 : decode cX4_cut 6 = .ok (.getfield 15, 3) := by decide +kernel
theorem dX4_cut_9 : decode cX4_cut 9 = .ok (.if_icmp .ge 8, 3) := by decide +kernel
theorem dX4_cut_12 : decode cX4_cut 12 = .ok (.aload_n 0, 1) := by decide +kernel
theorem dX4_cut_13 : decode cX4_cut 13 = .ok (.iload_n 1, 1) := by decide +kernel
theorem dX4_cut_14 : decode cX4_cut 14 = .ok (.putfield 15, 3) := by decide +kernel
theorem dX4_cut_17 : decode cX4_cut 17 = .ok (.return_, 1) := by decide +kernel
theorem dX4_clear_0 : decode cX4_clear 0 = .ok (.aload_n 0, 1) := by decide +kernel
theorem dX4_clear_1 : decode cX4_clear 1 = .ok (.iconst 0, 1) := by decide +kernel
theorem dX4_clear_2 : decode cX4_clear 2 = .ok (.putfield 15, 3) := by decide +kernel
theorem dX4_clear_5 : decode cX4_clear 5 = .ok (.return_, 1) := by decide +kernel
theorem dX4_remove_0 : decode cX4_remove 0 = .ok (.iload_n 1, 1) := by decide +kernel
theorem dX4_remove_1 : decode cX4_remove 1 = .ok (.ifCond .lt 11, 3) := by decide +kernel
theorem dX4_remove_4 : decode cX4_remove 4 = .ok (.iload_n 1, 1) := by decide +kernel
theorem dX4_remove_5 : decode cX4_remove 5 = .ok (.aload_n 0, 1) := by decide +kernel
theorem dX4_remove_6 : decode cX4_remove 6 = .ok (.getfield 15, 3) := by decide +kernel
theorem dX4_remove_9 : decode cX4_remove 9 = .ok (.if_icmp .lt 4, 3) := by decide +kernel
theorem dX4_remove_12 : decode cX4_remove 12 = .ok (.return_, 1) := by decide +kernel
theorem dX4_remove_13 : decode cX4_remove 13 = .ok (.iload_n 1, 1) := by decide +kernel
theorem dX4_remove_14 : decode cX4_remove 14 = .ok (.iconst 1, 1) := by decide +kernel
theorem dX4_remove_15 : decode cX4_remove 15 = .ok (.iadd, 1) := by decide +kernel
theorem dX4_remove_16 : decode cX4_remove 16 = .ok (.istore_n 2, 1) := by decide +kernel
theorem dX4_remove_17 : decode cX4_remove 17 = .ok (.iload_n 2, 1) := by decide +kernel
theorem dX4_remove_18 : decode cX4_remove 18 = .ok (.aload_n 0, 1) := by decide +kernel
theorem dX4_remove_19 : decode cX4_remove 19 = .ok (.getfield 15, 3) := by decide +kernel
theorem dX4_remove_22 : decode cX4_remove 22 = .ok (.if_icmp .ge 21, 3) := by decide +kernel
theorem dX4_remove_25 : decode cX4_remove 25 = .ok (.aload_n 0, 1) := by decide +kernel
theorem dX4_remove_26 : decode cX4_remove 26 = .ok (.iload_n 2, 1) := by decide +kernel
theorem dX4_remove_27 : decode cX4_remove 27 = .ok (.iconst 1, 1) := by decide +kernel
theorem dX4_remove_28 : decode cX4_remove 28 = .ok (.isub, 1) := by decide +kernel
theorem dX4_remove_29 : decode cX4_remove 29 = .ok (.aload_n 0, 1) := by decide +kernel
theorem dX4_remove_30 : decode cX4_remove 30 = .ok (.iload_n 2, 1) := by decide +kernel
theorem dX4_remove_31 : decode cX4_remove 31 = .ok (.invokevirtual 19, 3) := by decide +kernel
theorem dX4_remove_34 : decode cX4_remove 34 = .ok (.invokevirtual 23, 3) := by decide +kernel
theorem dX4_remove_37 : decode cX4_remove 37 = .ok (.iinc 2 1, 3) := by decide +kernel
theorem dX4_remove_40 : decode cX4_remove 40 = .ok (.goto (-23), 3) := by decide +kernel
theorem dX4_remove_43 : decode cX4_remove 43 = .ok (.aload_n 0, 1) := by decide +kernel
theorem dX4_remove_44 : decode cX4_remove 44 = .ok (.dup, 1) := by decide +kernel
theorem dX4_remove_45 : decode cX4_remove 45 = .ok (.getfield 15, 3) := by decide +kernel
theorem dX4_remove_48 : decode cX4_remove 48 = .ok (.iconst 1, 1) := by decide +kernel
theorem dX4_remove_49 : decode cX4_remove 49 = .ok (.isub, 1) := by decide +kernel
theorem dX4_remove_50 : decode cX4_remove 50 = .ok (.putfield 15, 3) := by decide +kernel
theorem dX4_remove_53 : decode cX4_remove 53 = .ok (.return_, 1) := by decide +kernel
theorem dX4_copy_0 : decode cX4_copy 0 = .ok (.aload_n 0, 1) := by decide +kernel
theorem dX4_copy_1 : decode cX4_copy 1 = .ok (.iconst 0, 1) := by decide +kernel
theorem dX4_copy_2 : decode cX4_copy 2 = .ok (.putfield 15, 3) := by decide +kernel
theorem dX4_copy_5 : decode cX4_copy 5 = .ok (.iconst 0, 1) := by decide +kernel
theorem dX4_copy_6 : decode cX4_copy 6 = .ok (.istore_n 2, 1) := by decide +kernel
theorem dX4_copy_7 : decode cX4_copy 7 = .ok (.iload_n 2, 1) := by decide +kernel
theorem dX4_copy_8 : decode cX4_copy 8 = .ok (.aload_n 1, 1) := by decide +kernel
theorem dX4_copy_9 : decode cX4_copy 9 = .ok (.getfield 15, 3) := by decide +kernel
theorem dX4_copy_12 : decode cX4_copy 12 = .ok (.if_icmp .ge 18, 3) := by decide +kernel
theorem dX4_copy_15 : decode cX4_copy 15 = .ok (.aload_n 0, 1) := by decide +kernel
theorem dX4_copy_16 : decode cX4_copy 16 = .ok (.aload_n 1, 1) := by decide +kernel
theorem dX4_copy_17 : decode cX4_copy 17 = .ok (.iload_n 2, 1) := by decide +kernel
theorem dX4_copy_18 : decode cX4_copy 18 = .ok (.invokevirtual 19, 3) := by decide +kernel
theorem dX4_copy_21 : decode cX4_copy 21 = .ok (.invokevirtual 27, 3) := by decide +kernel
theorem dX4_copy_24 : decode cX4_copy 24 = .ok (.iinc 2 1, 3) := by decide +kernel
theorem dX4_copy_27 : decode cX4_copy 27 = .ok (.goto (-20), 3) := by decide +kernel
theorem dX4_copy_30 : decode cX4_copy 30 = .ok (.return_, 1) := by decide +kernel
theorem dX4_sum_0 : decode cX4_sum 0 = .ok (.iconst 0, 1) := by decide +kernel
theorem dX4_sum_1 : decode cX4_sum 1 = .ok (.istore_n 1, 1) := by decide +kernel
theorem dX4_sum_2 : decode cX4_sum 2 = .ok (.iconst 0, 1) := by decide +kernel
theorem dX4_sum_3 : decode cX4_sum 3 = .ok (.istore_n 2, 1) := by decide +kernel
theorem dX4_sum_4 : decode cX4_sum 4 = .ok (.iload_n 2, 1) := by decide +kernel
theorem dX4_sum_5 : decode cX4_sum 5 = .ok (.aload_n 0, 1) := by decide +kernel
theorem dX4_sum_6 : decode cX4_sum 6 = .ok (.getfield 15, 3) := by decide +kernel
theorem dX4_sum_9 : decode cX4_sum 9 = .ok (.if_icmp .ge 17, 3) := by decide +kernel
theorem dX4_sum_12 : decode cX4_sum 12 = .ok (.iload_n 1, 1) := by decide +kernel
theorem dX4_sum_13 : decode cX4_sum 13 = .ok (.aload_n 0, 1) := by decide +kernel
theorem dX4_sum_14 : decode cX4_sum 14 = .ok (.iload_n 2, 1) := by decide +kernel
theorem dX4_sum_15 : decode cX4_sum 15 = .ok (.invokevirtual 19, 3) := by decide +kernel
theorem dX4_sum_18 : decode cX4_sum 18 = .ok (.iadd, 1) := by decide +kernel
theorem dX4_sum_19 : decode cX4_sum 19 = .ok (.istore_n 1, 1) := by decide +kernel
theorem dX4_sum_20 : decode cX4_sum 20 = .ok (.iinc 2 1, 3) := by decide +kernel
theorem dX4_sum_23 : decode cX4_sum 23 = .ok (.goto (-19), 3) := by decide +kernel
theorem dX4_sum_26 : decode cX4_sum 26 = .ok (.iload_n 1, 1) := by decide +kernel
theorem dX4_sum_27 : decode cX4_sum 27 = .ok (.ireturn, 1) := by decide +kernel
theorem dX5_init_0 : decode cX5_init 0 = .ok (.aload_n 0, 1) := by decide +kernel
theorem dX5_init_1 : decode cX5_init 1 = .ok (.invokespecial 3, 3) := by decide +kernel
theorem dX5_init_4 : decode cX5_init 4 = .ok (.aload_n 0, 1) := by decide +kernel
theorem dX5_init_5 : decode cX5_init 5 = .ok (.new 9, 3) := by decide +kernel
theorem dX5_init_8 : decode cX5_init 8 = .ok (.dup, 1) := by decide +kernel
theorem dX5_init_9 : decode cX5_init 9 = .ok (.invokespecial 11, 3) := by decide +kernel
theorem dX5_init_12 : decode cX5_init 12 = .ok (.putfield 12, 3) := by decide +kernel
theorem dX5_init_15 : decode cX5_init 15 = .ok (.aload_n 0, 1) := by decide +kernel
theorem dX5_init_16 : decode cX5_init 16 = .ok (.new 18, 3) := by decide +kernel
theorem dX5_init_19 : decode cX5_init 19 = .ok (.dup, 1) := by decide +kernel
theorem dX5_init_20 : decode cX5_init 20 = .ok (.invokespecial 20, 3) := by decide +kernel
theorem dX5_init_23 : decode cX5_init 23 = .ok (.putfield 21, 3) := by decide +kernel
theorem dX5_init_26 : decode cX5_init 26 = .ok (.aload_n 0, 1) := by decide +kernel
theorem dX5_init_27 : decode cX5_init 27 = .ok (.new 25, 3) := by decide +kernel
theorem dX5_init_30 : decode cX5_init 30 = .ok (.dup, 1) := by decide +kernel
theorem dX5_init_31 : decode cX5_init 31 = .ok (.iconst 5, 1) := by decide +kernel
theorem dX5_init_32 : decode cX5_init 32 = .ok (.invokespecial 27, 3) := by decide +kernel
theorem dX5_init_35 : decode cX5_init 35 = .ok (.putfield 30, 3) := by decide +kernel
theorem dX5_init_38 : decode cX5_init 38 = .ok (.iconst 0, 1) := by decide +kernel
theorem dX5_init_39 : decode cX5_init 39 = .ok (.istore_n 1, 1) := by decide +kernel
theorem dX5_init_40 : decode cX5_init 40 = .ok (.iload_n 1, 1) := by decide +kernel
theorem dX5_init_41 : decode cX5_init 41 = .ok (.iconst 5, 1) := by decide +kernel
theorem dX5_init_42 : decode cX5_init 42 = .ok (.if_icmp .ge 23, 3) := by decide +kernel
theorem dX5_init_45 : decode cX5_init 45 = .ok (.aload_n 0, 1) := by decide +kernel
theorem dX5_init_46 : decode cX5_init 46 = .ok (.getfield 30, 3) := by decide +kernel
theorem dX5_init_49 : decode cX5_init 49 = .ok (.getstatic 34, 3) := by decide +kernel
theorem dX5_init_52 : decode cX5_init 52 = .ok (.iload_n 1, 1) := by decide +kernel
theorem dX5_init_53 : decode cX5_init 53 = .ok (.invokestatic 38, 3) := by decide +kernel
theorem dX5_init_56 : decode cX5_init 56 = .ok (.invokevirtual 42, 3) := by decide +kernel
theorem dX5_init_59 : decode cX5_init 59 = .ok (.iinc 1 1, 3) := by decide +kernel
theorem dX5_init_62 : decode cX5_init 62 = .ok (.goto (-22), 3) := by decide +kernel
theorem dX5_init_65 : decode cX5_init 65 = .ok (.return_, 1) := by decide +kernel
theorem dX5_copy_0 : decode cX5_copy 0 = .ok (.aload_n 0, 1) := by decide +kernel
theorem dX5_copy_1 : decode cX5_copy 1 = .ok (.getfield 12, 3) := by decide +kernel
theorem dX5_copy_4 : decode cX5_copy 4 = .ok (.aload_n 1, 1) := by decide +kernel
theorem dX5_copy_5 : decode cX5_copy 5 = .ok (.getfield 12, 3) := by decide +kernel
theorem dX5_copy_8 : decode cX5_copy 8 = .ok (.invokevirtual 45, 3) := by decide +kernel
theorem dX5_copy_11 : decode cX5_copy 11 = .ok (.aload_n 0, 1) := by decide +kernel
theorem dX5_copy_12 : decode cX5_copy 12 = .ok (.getfield 21, 3) := by decide +kernel
theorem dX5_copy_15 : decode cX5_copy 15 = .ok (.aload_n 1, 1) := by decide +kernel
theorem dX5_copy_16 : decode cX5_copy 16 = .ok (.getfield 21, 3) := by decide +kernel
theorem dX5_copy_19 : decode cX5_copy 19 = .ok (.invokevirtual 49, 3) := by decide +kernel
theorem dX5_copy_22 : decode cX5_copy 22 = .ok (.aload_n 0, 1) := by decide +kernel
theorem dX5_copy_23 : decode cX5_copy 23 = .ok (.getfield 30, 3) := by decide +kernel
theorem dX5_copy_26 : decode cX5_copy 26 = .ok (.aload_n 1, 1) := by decide +kernel
theorem dX5_copy_27 : decode cX5_copy 27 = .ok (.getfield 30, 3) := by decide +kernel
theorem dX5_copy_30 : decode cX5_copy 30 = .ok (.invokevirtual 52, 3) := by decide +kernel
theorem dX5_copy_33 : decode cX5_copy 33 = .ok (.return_, 1) := by decide +kernel
theorem dX6_init_0 : decode cX6_init 0 = .ok (.aload_n 0, 1) := by decide +kernel
theorem dX6_init_1 : decode cX6_init 1 = .ok (.invokespecial 3, 3) := by decide +kernel
theorem dX6_init_4 : decode cX6_init 4 = .ok (.aload_n 0, 1) := by decide +kernel
theorem dX6_init_5 : decode cX6_init 5 = .ok (.new 9, 3) := by decide +kernel
theorem dX6_init_8 : decode cX6_init 8 = .ok (.dup, 1) := by decide +kernel
theorem dX6_init_9 : decode cX6_init 9 = .ok (.invokespecial 11, 3) := by decide +kernel
theorem dX6_init_12 : decode cX6_init 12 = .ok (.putfield 12, 3) := by decide +kernel
theorem dX6_init_15 : decode cX6_init 15 = .ok (.aload_n 0, 1) := by decide +kernel
theorem dX6_init_16 : decode cX6_init 16 = .ok (.new 18, 3) := by decide +kernel
theorem dX6_init_19 : decode cX6_init 19 = .ok (.dup, 1) := by decide +kernel
theorem dX6_init_20 : decode cX6_init 20 = .ok (.bipush 40, 2) := by decide +kernel
theorem dX6_init_22 : decode cX6_init 22 = .ok (.invokespecial 20, 3) := by decide +kernel
theorem dX6_init_25 : decode cX6_init 25 = .ok (.putfield 23, 3) := by decide +kernel
theorem dX6_init_28 : decode cX6_init 28 = .ok (.aload_n 0, 1) := by decide +kernel
theorem dX6_init_29 : decode cX6_init 29 = .ok (.new 18, 3) := by decide +kernel
theorem dX6_init_32 : decode cX6_init 32 = .ok (.dup, 1) := by decide +kernel
theorem dX6_init_33 : decode cX6_init 33 = .ok (.bipush 40, 2) := by decide +kernel
theorem dX6_init_35 : decode cX6_init 35 = .ok (.invokespecial 20, 3) := by decide +kernel
theorem dX6_init_38 : decode cX6_init 38 = .ok (.putfield 27, 3) := by decide +kernel
theorem dX6_init_41 : decode cX6_init 41 = .ok (.aload_n 0, 1) := by decide +kernel
theorem dX6_init_42 : decode cX6_init 42 = .ok (.new 18, 3) := by decide +kernel
theorem dX6_init_45 : decode cX6_init 45 = .ok (.dup, 1) := by decide +kernel
theorem dX6_init_46 : decode cX6_init 46 = .ok (.bipush 40, 2) := by decide +kernel
theorem dX6_init_48 : decode cX6_init 48 = .ok (.invokespecial 20, 3) := by decide +kernel
theorem dX6_init_51 : decode cX6_init 51 = .ok (.putfield 30, 3) := by decide +kernel
theorem dX6_init_54 : decode cX6_init 54 = .ok (.aload_n 0, 1) := by decide +kernel
theorem dX6_init_55 : decode cX6_init 55 = .ok (.new 18, 3) := by decide +kernel
theorem dX6_init_58 : decode cX6_init 58 = .ok (.dup, 1) := by decide +kernel
theorem dX6_init_59 : decode cX6_init 59 = .ok (.bipush 40, 2) := by decide +kernel
theorem dX6_init_61 : decode cX6_init 61 = .ok (.invokespecial 20, 3) := by decide +kernel
theorem dX6_init_64 : decode cX6_init 64 = .ok (.putfield 33, 3) := by decide +kernel
theorem dX6_init_67 : decode cX6_init 67 = .ok (.aload_n 0, 1) := by decide +kernel
theorem dX6_init_68 : decode cX6_init 68 = .ok (.new 18, 3) := by decide +kernel
theorem dX6_init_71 : decode cX6_init 71 = .ok (.dup, 1) := by decide +kernel
theorem dX6_init_72 : decode cX6_init 72 = .ok (.bipush 10, 2) := by decide +kernel
theorem dX6_init_74 : decode cX6_init 74 = .ok (.invokespecial 20, 3) := by decide +kernel
theorem dX6_init_77 : decode cX6_init 77 = .ok (.putfield 36, 3) := by decide +kernel
theorem dX6_init_80 : decode cX6_init 80 = .ok (.aload_n 0, 1) := by decide +kernel
theorem dX6_init_81 : decode cX6_init 81 = .ok (.new 18, 3) := by decide +kernel
theorem dX6_init_84 : decode cX6_init 84 = .ok (.dup, 1) := by decide +kernel
theorem dX6_init_85 : decode cX6_init 85 = .ok (.bipush 10, 2) := by decide +kernel
theorem dX6_init_87 : decode cX6_init 87 = .ok (.invokespecial 20, 3) := by decide +kernel
theorem dX6_init_90 : decode cX6_init 90 = .ok (.putfield 39, 3) := by decide +kernel
theorem dX6_init_93 : decode cX6_init 93 = .ok (.aload_n 0, 1) := by decide +kernel
theorem dX6_init_94 : decode cX6_init 94 = .ok (.iconst 0, 1) := by decide +kernel
theorem dX6_init_95 : decode cX6_init 95 = .ok (.putfield 42, 3) := by decide +kernel
theorem dX6_init_98 : decode cX6_init 98 = .ok (.return_, 1) := by decide +kernel
theorem dX6_look_0 : decode cX6_look 0 = .ok (.aload_n 0, 1) := by decide +kernel
theorem dX6_look_1 : decode cX6_look 1 = .ok (.aload_n 1, 1) := by decide +kernel
theorem dX6_look_2 : decode cX6_look 2 = .ok (.invokevirtual 46, 3) := by decide +kernel
theorem dX6_look_5 : decode cX6_look 5 = .ok (.aload_n 0, 1) := by decide +kernel
theorem dX6_look_6 : decode cX6_look 6 = .ok (.aload_n 2, 1) := by decide +kernel
theorem dX6_look_7 : decode cX6_look 7 = .ok (.getfield 50, 3) := by decide +kernel
theorem dX6_look_10 : decode cX6_look 10 = .ok (.invokevirtual 55, 3) := by decide +kernel
theorem dX6_look_13 : decode cX6_look 13 = .ok (.aload_n 0, 1) := by decide +kernel
theorem dX6_look_14 : decode cX6_look 14 = .ok (.getfield 36, 3) := by decide +kernel
theorem dX6_look_17 : decode cX6_look 17 = .ok (.invokevirtual 59, 3) := by decide +kernel
theorem dX6_look_20 : decode cX6_look 20 = .ok (.aload_n 0, 1) := by decide +kernel
theorem dX6_look_21 : decode cX6_look 21 = .ok (.getfield 39, 3) := by decide +kernel
theorem dX6_look_24 : decode cX6_look 24 = .ok (.invokevirtual 59, 3) := by decide +kernel
theorem dX6_look_27 : decode cX6_look 27 = .ok (.iconst 0, 1) := by decide +kernel
theorem dX6_look_28 : decode cX6_look 28 = .ok (.istore_n 3, 1) := by decide +kernel
theorem dX6_look_29 : decode cX6_look 29 = .ok (.iload_n 3, 1) := by decide +kernel
theorem dX6_look_30 : decode cX6_look 30 = .ok (.aload_n 2, 1) := by decide +kernel
theorem dX6_look_31 : decode cX6_look 31 = .ok (.getfield 62, 3) := by decide +kernel
theorem dX6_look_34 : decode cX6_look 34 = .ok (.invokevirtual 66, 3) := by decide +kernel
theorem dX6_look_37 : decode cX6_look 37 = .ok (.if_icmp .ge 68, 3) := by decide +kernel
theorem dX6_look_40 : decode cX6_look 40 = .ok (.aload_n 0, 1) := by decide +kernel
theorem dX6_look_41 : decode cX6_look 41 = .ok (.getfield 12, 3) := by decide +kernel
theorem dX6_look_44 : decode cX6_look 44 = .ok (.aload_n 0, 1) := by decide +kernel
theorem dX6_look_45 : decode cX6_look 45 = .ok (.getfield 30, 3) := by decide +kernel
theorem dX6_look_48 : decode cX6_look 48 = .ok (.aload_n 2, 1) := by decide +kernel
theorem dX6_look_49 : decode cX6_look 49 = .ok (.getfield 62, 3) := by decide +kernel
theorem dX6_look_52 : decode cX6_look 52 = .ok (.iload_n 3, 1) := by decide +kernel
theorem dX6_look_53 : decode cX6_look 53 = .ok (.invokevirtual 72, 3) := by decide +kernel
theorem dX6_look_56 : decode cX6_look 56 = .ok (.aload_n 2, 1) := by decide +kernel
theorem dX6_look_57 : decode cX6_look 57 = .ok (.getfield 50, 3) := by decide +kernel
theorem dX6_look_60 : decode cX6_look 60 = .ok (.invokevirtual 75, 3) := by decide +kernel
theorem dX6_look_63 : decode cX6_look 63 = .ok (.aload_n 0, 1) := by decide +kernel
theorem dX6_look_64 : decode cX6_look 64 = .ok (.getfield 36, 3) := by decide +kernel
theorem dX6_look_67 : decode cX6_look 67 = .ok (.aload_n 0, 1) := by decide +kernel
theorem dX6_look_68 : decode cX6_look 68 = .ok (.getfield 12, 3) := by decide +kernel
theorem dX6_look_71 : decode cX6_look 71 = .ok (.invokevirtual 79, 3) := by decide +kernel
theorem dX6_look_74 : decode cX6_look 74 = .ok (.invokevirtual 82, 3) := by decide +kernel
theorem dX6_look_77 : decode cX6_look 77 = .ok (.aload_n 0, 1) := by decide +kernel
theorem dX6_look_78 : decode cX6_look 78 = .ok (.getfield 39, 3) := by decide +kernel
theorem dX6_look_81 : decode cX6_look 81 = .ok (.aload_n 0, 1) := by decide +kernel
theorem dX6_look_82 : decode cX6_look 82 = .ok (.getfield 12, 3) := by decide +kernel
theorem dX6_look_85 : decode cX6_look 85 = .ok (.aload_n 2, 1) := by decide +kernel
theorem dX6_look_86 : decode cX6_look 86 = .ok (.getfield 50, 3) := by decide +kernel
theorem dX6_look_89 : decode cX6_look 89 = .ok (.iconst 4, 1) := by decide +kernel
theorem dX6_look_90 : decode cX6_look 90 = .ok (.invokevirtual 85, 3) := by decide +kernel
theorem dX6_look_93 : decode cX6_look 93 = .ok (.invokevirtual 89, 3) := by decide +kernel
theorem dX6_look_96 : decode cX6_look 96 = .ok (.invokevirtual 82, 3) := by decide +kernel
theorem dX6_look_99 : decode cX6_look 99 = .ok (.iinc 3 1, 3) := by decide +kernel
theorem dX6_look_102 : decode cX6_look 102 = .ok (.goto (-73), 3) := by decide +kernel
theorem dX6_look_105 : decode cX6_look 105 = .ok (.return_, 1) := by decide +kernel
theorem dX6_findRuns_0 : decode cX6_findRuns 0 = .ok (.aload_n 0, 1) := by decide +kernel
theorem dX6_findRuns_1 : decode cX6_findRuns 1 = .ok (.getfield 23, 3) := by decide +kernel
theorem dX6_findRuns_4 : decode cX6_findRuns 4 = .ok (.invokevirtual 59, 3) := by decide +kernel
theorem dX6_findRuns_7 : decode cX6_findRuns 7 = .ok (.aload_n 0, 1) := by decide +kernel
theorem dX6_findRuns_8 : decode cX6_findRuns 8 = .ok (.getfield 27, 3) := by decide +kernel
theorem dX6_findRuns_11 : decode cX6_findRuns 11 = .ok (.invokevirtual 59, 3) := by decide +kernel
theorem dX6_findRuns_14 : decode cX6_findRuns 14 = .ok (.iconst 1, 1) := by decide +kernel
theorem dX6_findRuns_15 : decode cX6_findRuns 15 = .ok (.istore_n 2, 1) := by decide +kernel
theorem dX6_findRuns_16 : decode cX6_findRuns 16 = .ok (.iload_n 2, 1) := by decide +kernel
theorem dX6_findRuns_17 : decode cX6_findRuns 17 = .ok (.aload_n 1, 1) := by decide +kernel
theorem dX6_findRuns_18 : decode cX6_findRuns 18 = .ok (.invokevirtual 92, 3) := by decide +kernel
theorem dX6_findRuns_21 : decode cX6_findRuns 21 = .ok (.if_icmp .ge 96, 3) := by decide +kernel
theorem dX6_findRuns_24 : decode cX6_findRuns 24 = .ok (.aload_n 1, 1) := by decide +kernel
theorem dX6_findRuns_25 : decode cX6_findRuns 25 = .ok (.iload_n 2, 1) := by decide +kernel
theorem dX6_findRuns_26 : decode cX6_findRuns 26 = .ok (.invokevirtual 95, 3) := by decide +kernel
theorem dX6_findRuns_29 : decode cX6_findRuns 29 = .ok (.istore_n 3, 1) := by decide +kernel
theorem dX6_findRuns_30 : decode cX6_findRuns 30 = .ok (.aload_n 0, 1) := by decide +kernel
theorem dX6_findRuns_31 : decode cX6_findRuns 31 = .ok (.getfield 23, 3) := by decide +kernel
theorem dX6_findRuns_34 : decode cX6_findRuns 34 = .ok (.invokevirtual 98, 3) := by decide +kernel
theorem dX6_findRuns_37 : decode cX6_findRuns 37 = .ok (.iconst 1, 1) := by decide +kernel
theorem dX6_findRuns_38 : decode cX6_findRuns 38 = .ok (.isub, 1) := by decide +kernel
theorem dX6_findRuns_39 : decode cX6_findRuns 39 = .ok (.istore 4, 2) := by decide +kernel
theorem dX6_findRuns_41 : decode cX6_findRuns 41 = .ok (.iload_n 3, 1) := by decide +kernel
theorem dX6_findRuns_42 : decode cX6_findRuns 42 = .ok (.iconst (-1), 1) := by decide +kernel
theorem dX6_findRuns_43 : decode cX6_findRuns 43 = .ok (.if_icmp .eq 43, 3) := by decide +kernel
theorem dX6_findRuns_46 : decode cX6_findRuns 46 = .ok (.iload_n 3, 1) := by decide +kernel
theorem dX6_findRuns_47 : decode cX6_findRuns 47 = .ok (.aload_n 0, 1) := by decide +kernel
theorem dX6_findRuns_48 : decode cX6_findRuns 48 = .ok (.getfield 23, 3) := by decide +kernel
theorem dX6_findRuns_51 : decode cX6_findRuns 51 = .ok (.iload 4, 2) := by decide +kernel
theorem dX6_findRuns_53 : decode cX6_findRuns 53 = .ok (.invokevirtual 85, 3) := by decide +kernel
theorem dX6_findRuns_56 : decode cX6_findRuns 56 = .ok (.if_icmp .ne 30, 3) := by decide +kernel
theorem dX6_findRuns_59 : decode cX6_findRuns 59 = .ok (.aload_n 0, 1) := by decide +kernel
theorem dX6_findRuns_60 : decode cX6_findRuns 60 = .ok (.getfield 27, 3) := by decide +kernel
theorem dX6_findRuns_63 : decode cX6_findRuns 63 = .ok (.iload 4, 2) := by decide +kernel
theorem dX6_findRuns_65 : decode cX6_findRuns 65 = .ok (.aload_n 0, 1) := by decide +kernel
theorem dX6_findRuns_66 : decode cX6_findRuns 66 = .ok (.getfield 27, 3) := by decide +kernel
theorem dX6_findRuns_69 : decode cX6_findRuns 69 = .ok (.iload 4, 2) := by decide +kernel
theorem dX6_findRuns_71 : decode cX6_findRuns 71 = .ok (.invokevirtual 85, 3) := by decide +kernel
theorem dX6_findRuns_74 : decode cX6_findRuns 74 = .ok (.aload_n 1, 1) := by decide +kernel
theorem dX6_findRuns_75 : decode cX6_findRuns 75 = .ok (.iload_n 2, 1) := by decide +kernel
theorem dX6_findRuns_76 : decode cX6_findRuns 76 = .ok (.invokevirtual 99, 3) := by decide +kernel
theorem dX6_findRuns_79 : decode cX6_findRuns 79 = .ok (.iadd, 1) := by decide +kernel
theorem dX6_findRuns_80 : decode cX6_findRuns 80 = .ok (.invokevirtual 102, 3) := by decide +kernel
theorem dX6_findRuns_83 : decode cX6_findRuns 83 = .ok (.goto 28, 3) := by decide +kernel
theorem dX6_findRuns_86 : decode cX6_findRuns 86 = .ok (.iload_n 3, 1) := by decide +kernel
theorem dX6_findRuns_87 : decode cX6_findRuns 87 = .ok (.iconst (-1), 1) := by decide +kernel
theorem dX6_findRuns_88 : decode cX6_findRuns 88 = .ok (.if_icmp .eq 23, 3) := by decide +kernel
theorem dX6_findRuns_91 : decode cX6_findRuns 91 = .ok (.aload_n 0, 1) := by decide +kernel
theorem dX6_findRuns_92 : decode cX6_findRuns 92 = .ok (.getfield 23, 3) := by decide +kernel
theorem dX6_findRuns_95 : decode cX6_findRuns 95 = .ok (.iload_n 3, 1) := by decide +kernel
theorem dX6_findRuns_96 : decode cX6_findRuns 96 = .ok (.invokevirtual 82, 3) := by decide +kernel
theorem dX6_findRuns_99 : decode cX6_findRuns 99 = .ok (.aload_n 0, 1) := by decide +kernel
theorem dX6_findRuns_100 : decode cX6_findRuns 100 = .ok (.getfield 27, 3) := by decide +kernel
theorem dX6_findRuns_103 : decode cX6_findRuns 103 = .ok (.aload_n 1, 1) := by decide +kernel
theorem dX6_findRuns_104 : decode cX6_findRuns 104 = .ok (.iload_n 2, 1) := by decide +kernel
theorem dX6_findRuns_105 : decode cX6_findRuns 105 = .ok (.invokevirtual 99, 3) := by decide +kernel
theorem dX6_findRuns_108 : decode cX6_findRuns 108 = .ok (.invokevirtual 82, 3) := by decide +kernel
theorem dX6_findRuns_111 : decode cX6_findRuns 111 = .ok (.iinc 2 1, 3) := by decide +kernel
theorem dX6_findRuns_114 : decode cX6_findRuns 114 = .ok (.goto (-98), 3) := by decide +kernel
theorem dX6_findRuns_117 : decode cX6_findRuns 117 = .ok (.return_, 1) := by decide +kernel
theorem dX6_forgive_0 : decode cX6_forgive 0 = .ok (.aload_n 0, 1) := by decide +kernel
theorem dX6_forgive_1 : decode cX6_forgive 1 = .ok (.getfield 30, 3) := by decide +kernel
theorem dX6_forgive_4 : decode cX6_forgive 4 = .ok (.aload_n 0, 1) := by decide +kernel
theorem dX6_forgive_5 : decode cX6_forgive 5 = .ok (.getfield 23, 3) := by decide +kernel
theorem dX6_forgive_8 : decode cX6_forgive 8 = .ok (.invokevirtual 106, 3) := by decide +kernel
theorem dX6_forgive_11 : decode cX6_forgive 11 = .ok (.aload_n 0, 1) := by decide +kernel
theorem dX6_forgive_12 : decode cX6_forgive 12 = .ok (.getfield 33, 3) := by decide +kernel
theorem dX6_forgive_15 : decode cX6_forgive 15 = .ok (.aload_n 0, 1) := by decide +kernel
theorem dX6_forgive_16 : decode cX6_forgive 16 = .ok (.getfield 27, 3) := by decide +kernel
theorem dX6_forgive_19 : decode cX6_forgive 19 = .ok (.invokevirtual 106, 3) := by decide +kernel
theorem dX6_forgive_22 : decode cX6_forgive 22 = .ok (.aload_n 0, 1) := by decide +kernel
theorem dX6_forgive_23 : decode cX6_forgive 23 = .ok (.iconst 0, 1) := by decide +kernel
theorem dX6_forgive_24 : decode cX6_forgive 24 = .ok (.putfield 42, 3) := by decide +kernel
theorem dX6_forgive_27 : decode cX6_forgive 27 = .ok (.iconst 0, 1) := by decide +kernel
theorem dX6_forgive_28 : decode cX6_forgive 28 = .ok (.istore_n 2, 1) := by decide +kernel
theorem dX6_forgive_29 : decode cX6_forgive 29 = .ok (.iload_n 2, 1) := by decide +kernel
theorem dX6_forgive_30 : decode cX6_forgive 30 = .ok (.bipush 40, 2) := by decide +kernel
theorem dX6_forgive_32 : decode cX6_forgive 32 = .ok (.if_icmp .ge 37, 3) := by decide +kernel
theorem dX6_forgive_35 : decode cX6_forgive 35 = .ok (.aload_n 0, 1) := by decide +kernel
theorem dX6_forgive_36 : decode cX6_forgive 36 = .ok (.getfield 30, 3) := by decide +kernel
theorem dX6_forgive_39 : decode cX6_forgive 39 = .ok (.invokevirtual 98, 3) := by decide +kernel
theorem dX6_forgive_42 : decode cX6_forgive 42 = .ok (.iconst 1, 1) := by decide +kernel
theorem dX6_forgive_43 : decode cX6_forgive 43 = .ok (.if_icmp .le 26, 3) := by decide +kernel
theorem dX6_forgive_46 : decode cX6_forgive 46 = .ok (.aload_n 0, 1) := by decide +kernel
theorem dX6_forgive_47 : decode cX6_forgive 47 = .ok (.aload_n 1, 1) := by decide +kernel
theorem dX6_forgive_48 : decode cX6_forgive 48 = .ok (.invokevirtual 109, 3) := by decide +kernel
theorem dX6_forgive_51 : decode cX6_forgive 51 = .ok (.istore_n 3, 1) := by decide +kernel
theorem dX6_forgive_52 : decode cX6_forgive 52 = .ok (.iload_n 3, 1) := by decide +kernel
theorem dX6_forgive_53 : decode cX6_forgive 53 = .ok (.iconst (-1), 1) := by decide +kernel
theorem dX6_forgive_54 : decode cX6_forgive 54 = .ok (.if_icmp .ne 4, 3) := by decide +kernel
theorem dX6_forgive_57 : decode cX6_forgive 57 = .ok (.return_, 1) := by decide +kernel
theorem dX6_forgive_58 : decode cX6_forgive 58 = .ok (.aload_n 0, 1) := by decide +kernel
theorem dX6_forgive_59 : decode cX6_forgive 59 = .ok (.iload_n 3, 1) := by decide +kernel
theorem dX6_forgive_60 : decode cX6_forgive 60 = .ok (.invokevirtual 113, 3) := by decide +kernel
theorem dX6_forgive_63 : decode cX6_forgive 63 = .ok (.iinc 2 1, 3) := by decide +kernel
theorem dX6_forgive_66 : decode cX6_forgive 66 = .ok (.goto (-37), 3) := by decide +kernel
theorem dX6_forgive_69 : decode cX6_forgive 69 = .ok (.return_, 1) := by decide +kernel
theorem dX6_firstToDrop_0 : decode cX6_firstToDrop 0 = .ok (.iconst 0, 1) := by decide +kernel
theorem dX6_firstToDrop_1 : decode cX6_firstToDrop 1 = .ok (.istore_n 2, 1) := by decide +kernel
theorem dX6_firstToDrop_2 : decode cX6_firstToDrop 2 = .ok (.iload_n 2, 1) := by decide +kernel
theorem dX6_firstToDrop_3 : decode cX6_firstToDrop 3 = .ok (.aload_n 0, 1) := by decide +kernel
theorem dX6_firstToDrop_4 : decode cX6_firstToDrop 4 = .ok (.getfield 30, 3) := by decide +kernel
theorem dX6_firstToDrop_7 : decode cX6_firstToDrop 7 = .ok (.invokevirtual 98, 3) := by decide +kernel
theorem dX6_firstToDrop_10 : decode cX6_firstToDrop 10 = .ok (.if_icmp .ge 47, 3) := by decide +kernel
theorem dX6_firstToDrop_13 : decode cX6_firstToDrop 13 = .ok (.aload_n 0, 1) := by decide +kernel
theorem dX6_firstToDrop_14 : decode cX6_firstToDrop 14 = .ok (.getfield 33, 3) := by decide +kernel
theorem dX6_firstToDrop_17 : decode cX6_firstToDrop 17 = .ok (.iload_n 2, 1) := by decide +kernel
theorem dX6_firstToDrop_18 : decode cX6_firstToDrop 18 = .ok (.invokevirtual 85, 3) := by decide +kernel
theorem dX6_firstToDrop_21 : decode cX6_firstToDrop 21 = .ok (.aload_n 1, 1) := by decide +kernel
theorem dX6_firstToDrop_22 : decode cX6_firstToDrop 22 = .ok (.iconst 0, 1) := by decide +kernel
theorem dX6_firstToDrop_23 : decode cX6_firstToDrop 23 = .ok (.invokevirtual 85, 3) := by decide +kernel
theorem dX6_firstToDrop_26 : decode cX6_firstToDrop 26 = .ok (.if_icmp .lt 23, 3) := by decide +kernel
theorem dX6_firstToDrop_29 : decode cX6_firstToDrop 29 = .ok (.aload_n 0, 1) := by decide +kernel
theorem dX6_firstToDrop_30 : decode cX6_firstToDrop 30 = .ok (.getfield 30, 3) := by decide +kernel
theorem dX6_firstToDrop_33 : decode cX6_firstToDrop 33 = .ok (.aload_n 0, 1) := by decide +kernel
theorem dX6_firstToDrop_34 : decode cX6_firstToDrop 34 = .ok (.getfield 33, 3) := by decide +kernel
theorem dX6_firstToDrop_37 : decode cX6_firstToDrop 37 = .ok (.iload_n 2, 1) := by decide +kernel
theorem dX6_firstToDrop_38 : decode cX6_firstToDrop 38 = .ok (.aload_n 1, 1) := by decide +kernel
theorem dX6_firstToDrop_39 : decode cX6_firstToDrop 39 = .ok (.iconst 1, 1) := by decide +kernel
theorem dX6_firstToDrop_40 : decode cX6_firstToDrop 40 = .ok (.invokevirtual 85, 3) := by decide +kernel
theorem dX6_firstToDrop_43 : decode cX6_firstToDrop 43 = .ok (.invokestatic 116, 3) := by decide +kernel
theorem dX6_firstToDrop_46 : decode cX6_firstToDrop 46 = .ok (.ifCond .eq 5, 3) := by decide +kernel
theorem dX6_firstToDrop_49 : decode cX6_firstToDrop 49 = .ok (.iload_n 2, 1) := by decide +kernel
theorem dX6_firstToDrop_50 : decode cX6_firstToDrop 50 = .ok (.ireturn, 1) := by decide +kernel
theorem dX6_firstToDrop_51 : decode cX6_firstToDrop 51 = .ok (.iinc 2 1, 3) := by decide +kernel
theorem dX6_firstToDrop_54 : decode cX6_firstToDrop 54 = .ok (.goto (-52), 3) := by decide +kernel
theorem dX6_firstToDrop_57 : decode cX6_firstToDrop 57 = .ok (.iconst (-1), 1) := by decide +kernel
theorem dX6_firstToDrop_58 : decode cX6_firstToDrop 58 = .ok (.ireturn, 1) := by decide +kernel
theorem dX6_drop_0 : decode cX6_drop 0 = .ok (.aload_n 0, 1) := by decide +kernel
theorem dX6_drop_1 : decode cX6_drop 1 = .ok (.getfield 30, 3) := by decide +kernel
theorem dX6_drop_4 : decode cX6_drop 4 = .ok (.iload_n 1, 1) := by decide +kernel
theorem dX6_drop_5 : decode cX6_drop 5 = .ok (.invokevirtual 120, 3) := by decide +kernel
theorem dX6_drop_8 : decode cX6_drop 8 = .ok (.aload_n 0, 1) := by decide +kernel
theorem dX6_drop_9 : decode cX6_drop 9 = .ok (.getfield 33, 3) := by decide +kernel
theorem dX6_drop_12 : decode cX6_drop 12 = .ok (.iload_n 1, 1) := by decide +kernel
theorem dX6_drop_13 : decode cX6_drop 13 = .ok (.invokevirtual 120, 3) := by decide +kernel
theorem dX6_drop_16 : decode cX6_drop 16 = .ok (.aload_n 0, 1) := by decide +kernel
theorem dX6_drop_17 : decode cX6_drop 17 = .ok (.dup, 1) := by decide +kernel
theorem dX6_drop_18 : decode cX6_drop 18 = .ok (.getfield 42, 3) := by decide +kernel
theorem dX6_drop_21 : decode cX6_drop 21 = .ok (.iconst 1, 1) := by decide +kernel
theorem dX6_drop_22 : decode cX6_drop 22 = .ok (.iadd, 1) := by decide +kernel
theorem dX6_drop_23 : decode cX6_drop 23 = .ok (.putfield 42, 3) := by decide +kernel
theorem dX6_drop_26 : decode cX6_drop 26 = .ok (.iload_n 1, 1) := by decide +kernel
theorem dX6_drop_27 : decode cX6_drop 27 = .ok (.iconst 1, 1) := by decide +kernel
theorem dX6_drop_28 : decode cX6_drop 28 = .ok (.if_icmp .lt 80, 3) := by decide +kernel
theorem dX6_drop_31 : decode cX6_drop 31 = .ok (.iload_n 1, 1) := by decide +kernel
theorem dX6_drop_32 : decode cX6_drop 32 = .ok (.aload_n 0, 1) := by decide +kernel
theorem dX6_drop_33 : decode cX6_drop 33 = .ok (.getfield 30, 3) := by decide +kernel
theorem dX6_drop_36 : decode cX6_drop 36 = .ok (.invokevirtual 98, 3) := by decide +kernel
theorem dX6_drop_39 : decode cX6_drop 39 = .ok (.if_icmp .ge 69, 3) := by decide +kernel
theorem dX6_drop_42 : decode cX6_drop 42 = .ok (.aload_n 0, 1) := by decide +kernel
theorem dX6_drop_43 : decode cX6_drop 43 = .ok (.getfield 30, 3) := by decide +kernel
theorem dX6_drop_46 : decode cX6_drop 46 = .ok (.iload_n 1, 1) := by decide +kernel
theorem dX6_drop_47 : decode cX6_drop 47 = .ok (.iconst 1, 1) := by decide +kernel
theorem dX6_drop_48 : decode cX6_drop 48 = .ok (.isub, 1) := by decide +kernel
theorem dX6_drop_49 : decode cX6_drop 49 = .ok (.invokevirtual 85, 3) := by decide +kernel
theorem dX6_drop_52 : decode cX6_drop 52 = .ok (.aload_n 0, 1) := by decide +kernel
theorem dX6_drop_53 : decode cX6_drop 53 = .ok (.getfield 30, 3) := by decide +kernel
theorem dX6_drop_56 : decode cX6_drop 56 = .ok (.iload_n 1, 1) := by decide +kernel
theorem dX6_drop_57 : decode cX6_drop 57 = .ok (.invokevirtual 85, 3) := by decide +kernel
theorem dX6_drop_60 : decode cX6_drop 60 = .ok (.if_icmp .ne 48, 3) := by decide +kernel
theorem dX6_drop_63 : decode cX6_drop 63 = .ok (.aload_n 0, 1) := by decide +kernel
theorem dX6_drop_64 : decode cX6_drop 64 = .ok (.getfield 33, 3) := by decide +kernel
theorem dX6_drop_67 : decode cX6_drop 67 = .ok (.iload_n 1, 1) := by decide +kernel
theorem dX6_drop_68 : decode cX6_drop 68 = .ok (.iconst 1, 1) := by decide +kernel
theorem dX6_drop_69 : decode cX6_drop 69 = .ok (.isub, 1) := by decide +kernel
theorem dX6_drop_70 : decode cX6_drop 70 = .ok (.aload_n 0, 1) := by decide +kernel
theorem dX6_drop_71 : decode cX6_drop 71 = .ok (.getfield 33, 3) := by decide +kernel
theorem dX6_drop_74 : decode cX6_drop 74 = .ok (.iload_n 1, 1) := by decide +kernel
theorem dX6_drop_75 : decode cX6_drop 75 = .ok (.iconst 1, 1) := by decide +kernel
theorem dX6_drop_76 : decode cX6_drop 76 = .ok (.isub, 1) := by decide +kernel
theorem dX6_drop_77 : decode cX6_drop 77 = .ok (.invokevirtual 85, 3) := by decide +kernel
theorem dX6_drop_80 : decode cX6_drop 80 = .ok (.aload_n 0, 1) := by decide +kernel
theorem dX6_drop_81 : decode cX6_drop 81 = .ok (.getfield 33, 3) := by decide +kernel
theorem dX6_drop_84 : decode cX6_drop 84 = .ok (.iload_n 1, 1) := by decide +kernel
theorem dX6_drop_85 : decode cX6_drop 85 = .ok (.invokevirtual 85, 3) := by decide +kernel
theorem dX6_drop_88 : decode cX6_drop 88 = .ok (.iadd, 1) := by decide +kernel
theorem dX6_drop_89 : decode cX6_drop 89 = .ok (.invokevirtual 102, 3) := by decide +kernel
theorem dX6_drop_92 : decode cX6_drop 92 = .ok (.aload_n 0, 1) := by decide +kernel
theorem dX6_drop_93 : decode cX6_drop 93 = .ok (.getfield 30, 3) := by decide +kernel
theorem dX6_drop_96 : decode cX6_drop 96 = .ok (.iload_n 1, 1) := by decide +kernel
theorem dX6_drop_97 : decode cX6_drop 97 = .ok (.invokevirtual 120, 3) := by decide +kernel
theorem dX6_drop_100 : decode cX6_drop 100 = .ok (.aload_n 0, 1) := by decide +kernel
theorem dX6_drop_101 : decode cX6_drop 101 = .ok (.getfield 33, 3) := by decide +kernel
theorem dX6_drop_104 : decode cX6_drop 104 = .ok (.iload_n 1, 1) := by decide +kernel
theorem dX6_drop_105 : decode cX6_drop 105 = .ok (.invokevirtual 120, 3) := by decide +kernel
theorem dX6_drop_108 : decode cX6_drop 108 = .ok (.return_, 1) := by decide +kernel
theorem dX6_readAs_0 : decode cX6_readAs 0 = .ok (.aload_n 0, 1) := by decide +kernel
theorem dX6_readAs_1 : decode cX6_readAs 1 = .ok (.iconst (-1), 1) := by decide +kernel
theorem dX6_readAs_2 : decode cX6_readAs 2 = .ok (.invokevirtual 123, 3) := by decide +kernel
theorem dX6_readAs_5 : decode cX6_readAs 5 = .ok (.istore_n 2, 1) := by decide +kernel
theorem dX6_readAs_6 : decode cX6_readAs 6 = .ok (.aload_n 0, 1) := by decide +kernel
theorem dX6_readAs_7 : decode cX6_readAs 7 = .ok (.getfield 23, 3) := by decide +kernel
theorem dX6_readAs_10 : decode cX6_readAs 10 = .ok (.invokevirtual 98, 3) := by decide +kernel
theorem dX6_readAs_13 : decode cX6_readAs 13 = .ok (.ifCond .le 7, 3) := by decide +kernel
theorem dX6_readAs_16 : decode cX6_readAs 16 = .ok (.iconst 1, 1) := by decide +kernel
theorem dX6_readAs_17 : decode cX6_readAs 17 = .ok (.goto 4, 3) := by decide +kernel
theorem dX6_readAs_20 : decode cX6_readAs 20 = .ok (.iconst 0, 1) := by decide +kernel
theorem dX6_readAs_21 : decode cX6_readAs 21 = .ok (.istore_n 3, 1) := by decide +kernel
theorem dX6_readAs_22 : decode cX6_readAs 22 = .ok (.iload_n 3, 1) := by decide +kernel
theorem dX6_readAs_23 : decode cX6_readAs 23 = .ok (.ifCond .eq 23, 3) := by decide +kernel
theorem dX6_readAs_26 : decode cX6_readAs 26 = .ok (.aload_n 0, 1) := by decide +kernel
theorem dX6_readAs_27 : decode cX6_readAs 27 = .ok (.getfield 36, 3) := by decide +kernel
theorem dX6_readAs_30 : decode cX6_readAs 30 = .ok (.iload_n 2, 1) := by decide +kernel
theorem dX6_readAs_31 : decode cX6_readAs 31 = .ok (.invokevirtual 85, 3) := by decide +kernel
theorem dX6_readAs_34 : decode cX6_readAs 34 = .ok (.aload_n 1, 1) := by decide +kernel
theorem dX6_readAs_35 : decode cX6_readAs 35 = .ok (.iconst 4, 1) := by decide +kernel
theorem dX6_readAs_36 : decode cX6_readAs 36 = .ok (.invokevirtual 85, 3) := by decide +kernel
theorem dX6_readAs_39 : decode cX6_readAs 39 = .ok (.if_icmp .gt 7, 3) := by decide +kernel
theorem dX6_readAs_42 : decode cX6_readAs 42 = .ok (.iload_n 2, 1) := by decide +kernel
theorem dX6_readAs_43 : decode cX6_readAs 43 = .ok (.goto 4, 3) := by decide +kernel
theorem dX6_readAs_46 : decode cX6_readAs 46 = .ok (.iconst (-1), 1) := by decide +kernel
theorem dX6_readAs_47 : decode cX6_readAs 47 = .ok (.ireturn, 1) := by decide +kernel
theorem dX6_nearestBut_0 : decode cX6_nearestBut 0 = .ok (.iconst (-1), 1) := by decide +kernel
theorem dX6_nearestBut_1 : decode cX6_nearestBut 1 = .ok (.istore_n 2, 1) := by decide +kernel
theorem dX6_nearestBut_2 : decode cX6_nearestBut 2 = .ok (.iconst 0, 1) := by decide +kernel
theorem dX6_nearestBut_3 : decode cX6_nearestBut 3 = .ok (.istore_n 3, 1) := by decide +kernel
theorem dX6_nearestBut_4 : decode cX6_nearestBut 4 = .ok (.iload_n 3, 1) := by decide +kernel
theorem dX6_nearestBut_5 : decode cX6_nearestBut 5 = .ok (.aload_n 0, 1) := by decide +kernel
theorem dX6_nearestBut_6 : decode cX6_nearestBut 6 = .ok (.getfield 36, 3) := by decide +kernel
theorem dX6_nearestBut_9 : decode cX6_nearestBut 9 = .ok (.invokevirtual 98, 3) := by decide +kernel
theorem dX6_nearestBut_12 : decode cX6_nearestBut 12 = .ok (.if_icmp .ge 52, 3) := by decide +kernel
theorem dX6_nearestBut_15 : decode cX6_nearestBut 15 = .ok (.iload_n 2, 1) := by decide +kernel
theorem dX6_nearestBut_16 : decode cX6_nearestBut 16 = .ok (.iconst (-1), 1) := by decide +kernel
theorem dX6_nearestBut_17 : decode cX6_nearestBut 17 = .ok (.if_icmp .eq 22, 3) := by decide +kernel
theorem dX6_nearestBut_20 : decode cX6_nearestBut 20 = .ok (.aload_n 0, 1) := by decide +kernel
theorem dX6_nearestBut_21 : decode cX6_nearestBut 21 = .ok (.getfield 36, 3) := by decide +kernel
theorem dX6_nearestBut_24 : decode cX6_nearestBut 24 = .ok (.iload_n 3, 1) := by decide +kernel
theorem dX6_nearestBut_25 : decode cX6_nearestBut 25 = .ok (.invokevirtual 85, 3) := by decide +kernel
theorem dX6_nearestBut_28 : decode cX6_nearestBut 28 = .ok (.aload_n 0, 1) := by decide +kernel
theorem dX6_nearestBut_29 : decode cX6_nearestBut 29 = .ok (.getfield 36, 3) := by decide +kernel
theorem dX6_nearestBut_32 : decode cX6_nearestBut 32 = .ok (.iload_n 2, 1) := by decide +kernel
theorem dX6_nearestBut_33 : decode cX6_nearestBut 33 = .ok (.invokevirtual 85, 3) := by decide +kernel
theorem dX6_nearestBut_36 : decode cX6_nearestBut 36 = .ok (.if_icmp .ge 7, 3) := by decide +kernel
theorem dX6_nearestBut_39 : decode cX6_nearestBut 39 = .ok (.iconst 1, 1) := by decide +kernel
theorem dX6_nearestBut_40 : decode cX6_nearestBut 40 = .ok (.goto 4, 3) := by decide +kernel
theorem dX6_nearestBut_43 : decode cX6_nearestBut 43 = .ok (.iconst 0, 1) := by decide +kernel
theorem dX6_nearestBut_44 : decode cX6_nearestBut 44 = .ok (.istore 4, 2) := by decide +kernel
theorem dX6_nearestBut_46 : decode cX6_nearestBut 46 = .ok (.iload_n 3, 1) := by decide +kernel
theorem dX6_nearestBut_47 : decode cX6_nearestBut 47 = .ok (.iload_n 1, 1) := by decide +kernel
theorem dX6_nearestBut_48 : decode cX6_nearestBut 48 = .ok (.if_icmp .eq 10, 3) := by decide +kernel
theorem dX6_nearestBut_51 : decode cX6_nearestBut 51 = .ok (.iload 4, 2) := by decide +kernel
theorem dX6_nearestBut_53 : decode cX6_nearestBut 53 = .ok (.ifCond .eq 5, 3) := by decide +kernel
theorem dX6_nearestBut_56 : decode cX6_nearestBut 56 = .ok (.iload_n 3, 1) := by decide +kernel
theorem dX6_nearestBut_57 : decode cX6_nearestBut 57 = .ok (.istore_n 2, 1) := by decide +kernel
theorem dX6_nearestBut_58 : decode cX6_nearestBut 58 = .ok (.iinc 3 1, 3) := by decide +kernel
theorem dX6_nearestBut_61 : decode cX6_nearestBut 61 = .ok (.goto (-57), 3) := by decide +kernel
theorem dX6_nearestBut_64 : decode cX6_nearestBut 64 = .ok (.iload_n 2, 1) := by decide +kernel
theorem dX6_nearestBut_65 : decode cX6_nearestBut 65 = .ok (.ireturn, 1) := by decide +kernel
theorem dX6_canBecome_0 : decode cX6_canBecome 0 = .ok (.iconst 0, 1) := by decide +kernel
theorem dX6_canBecome_1 : decode cX6_canBecome 1 = .ok (.istore_n 1, 1) := by decide +kernel
theorem dX6_canBecome_2 : decode cX6_canBecome 2 = .ok (.iconst 0, 1) := by decide +kernel
theorem dX6_canBecome_3 : decode cX6_canBecome 3 = .ok (.istore_n 2, 1) := by decide +kernel
theorem dX6_canBecome_4 : decode cX6_canBecome 4 = .ok (.iload_n 2, 1) := by decide +kernel
theorem dX6_canBecome_5 : decode cX6_canBecome 5 = .ok (.aload_n 0, 1) := by decide +kernel
theorem dX6_canBecome_6 : decode cX6_canBecome 6 = .ok (.getfield 39, 3) := by decide +kernel
theorem dX6_canBecome_9 : decode cX6_canBecome 9 = .ok (.invokevirtual 98, 3) := by decide +kernel
theorem dX6_canBecome_12 : decode cX6_canBecome 12 = .ok (.if_icmp .ge 27, 3) := by decide +kernel
theorem dX6_canBecome_15 : decode cX6_canBecome 15 = .ok (.aload_n 0, 1) := by decide +kernel
theorem dX6_canBecome_16 : decode cX6_canBecome 16 = .ok (.getfield 39, 3) := by decide +kernel
theorem dX6_canBecome_19 : decode cX6_canBecome 19 = .ok (.iload_n 2, 1) := by decide +kernel
theorem dX6_canBecome_20 : decode cX6_canBecome 20 = .ok (.invokevirtual 85, 3) := by decide +kernel
theorem dX6_canBecome_23 : decode cX6_canBecome 23 = .ok (.iconst (-1), 1) := by decide +kernel
theorem dX6_canBecome_24 : decode cX6_canBecome 24 = .ok (.if_icmp .eq 9, 3) := by decide +kernel
theorem dX6_canBecome_27 : decode cX6_canBecome 27 = .ok (.iload_n 1, 1) := by decide +kernel
theorem dX6_canBecome_28 : decode cX6_canBecome 28 = .ok (.iconst 1, 1) := by decide +kernel
theorem dX6_canBecome_29 : decode cX6_canBecome 29 = .ok (.iload_n 2, 1) := by decide +kernel
theorem dX6_canBecome_30 : decode cX6_canBecome 30 = .ok (.ishl, 1) := by decide +kernel
theorem dX6_canBecome_31 : decode cX6_canBecome 31 = .ok (.ior, 1) := by decide +kernel
theorem dX6_canBecome_32 : decode cX6_canBecome 32 = .ok (.istore_n 1, 1) := by decide +kernel
theorem dX6_canBecome_33 : decode cX6_canBecome 33 = .ok (.iinc 2 1, 3) := by decide +kernel
theorem dX6_canBecome_36 : decode cX6_canBecome 36 = .ok (.goto (-32), 3) := by decide +kernel
theorem dX6_canBecome_39 : decode cX6_canBecome 39 = .ok (.iload_n 1, 1) := by decide +kernel
theorem dX6_canBecome_40 : decode cX6_canBecome 40 = .ok (.ireturn, 1) := by decide +kernel
theorem dX6_stillToCome_0 : decode cX6_stillToCome 0 = .ok (.iconst 0, 1) := by decide +kernel
theorem dX6_stillToCome_1 : decode cX6_stillToCome 1 = .ok (.istore_n 1, 1) := by decide +kernel
theorem dX6_stillToCome_2 : decode cX6_stillToCome 2 = .ok (.iconst (-1), 1) := by decide +kernel
theorem dX6_stillToCome_3 : decode cX6_stillToCome 3 = .ok (.istore_n 2, 1) := by decide +kernel
theorem dX6_stillToCome_4 : decode cX6_stillToCome 4 = .ok (.iconst 0, 1) := by decide +kernel
theorem dX6_stillToCome_5 : decode cX6_stillToCome 5 = .ok (.istore_n 3, 1) := by decide +kernel
theorem dX6_stillToCome_6 : decode cX6_stillToCome 6 = .ok (.iload_n 3, 1) := by decide +kernel
theorem dX6_stillToCome_7 : decode cX6_stillToCome 7 = .ok (.aload_n 0, 1) := by decide +kernel
theorem dX6_stillToCome_8 : decode cX6_stillToCome 8 = .ok (.getfield 39, 3) := by decide +kernel
theorem dX6_stillToCome_11 : decode cX6_stillToCome 11 = .ok (.invokevirtual 98, 3) := by decide +kernel
theorem dX6_stillToCome_14 : decode cX6_stillToCome 14 = .ok (.if_icmp .ge 33, 3) := by decide +kernel
theorem dX6_stillToCome_17 : decode cX6_stillToCome 17 = .ok (.aload_n 0, 1) := by decide +kernel
theorem dX6_stillToCome_18 : decode cX6_stillToCome 18 = .ok (.getfield 39, 3) := by decide +kernel
theorem dX6_stillToCome_21 : decode cX6_stillToCome 21 = .ok (.iload_n 3, 1) := by decide +kernel
theorem dX6_stillToCome_22 : decode cX6_stillToCome 22 = .ok (.invokevirtual 85, 3) := by decide +kernel
theorem dX6_stillToCome_25 : decode cX6_stillToCome 25 = .ok (.iconst (-1), 1) := by decide +kernel
theorem dX6_stillToCome_26 : decode cX6_stillToCome 26 = .ok (.if_icmp .eq 15, 3) := by decide +kernel
theorem dX6_stillToCome_29 : decode cX6_stillToCome 29 = .ok (.iinc 1 1, 3) := by decide +kernel
theorem dX6_stillToCome_32 : decode cX6_stillToCome 32 = .ok (.aload_n 0, 1) := by decide +kernel
theorem dX6_stillToCome_33 : decode cX6_stillToCome 33 = .ok (.getfield 39, 3) := by decide +kernel
theorem dX6_stillToCome_36 : decode cX6_stillToCome 36 = .ok (.iload_n 3, 1) := by decide +kernel
theorem dX6_stillToCome_37 : decode cX6_stillToCome 37 = .ok (.invokevirtual 85, 3) := by decide +kernel
theorem dX6_stillToCome_40 : decode cX6_stillToCome 40 = .ok (.istore_n 2, 1) := by decide +kernel
theorem dX6_stillToCome_41 : decode cX6_stillToCome 41 = .ok (.iinc 3 1, 3) := by decide +kernel
theorem dX6_stillToCome_44 : decode cX6_stillToCome 44 = .ok (.goto (-38), 3) := by decide +kernel
theorem dX6_stillToCome_47 : decode cX6_stillToCome 47 = .ok (.iload_n 1, 1) := by decide +kernel
theorem dX6_stillToCome_48 : decode cX6_stillToCome 48 = .ok (.iconst 1, 1) := by decide +kernel
theorem dX6_stillToCome_49 : decode cX6_stillToCome 49 = .ok (.if_icmp .ne 7, 3) := by decide +kernel
theorem dX6_stillToCome_52 : decode cX6_stillToCome 52 = .ok (.iload_n 2, 1) := by decide +kernel
theorem dX6_stillToCome_53 : decode cX6_stillToCome 53 = .ok (.goto 4, 3) := by decide +kernel
theorem dX6_stillToCome_56 : decode cX6_stillToCome 56 = .ok (.iconst (-1), 1) := by decide +kernel
theorem dX6_stillToCome_57 : decode cX6_stillToCome 57 = .ok (.ireturn, 1) := by decide +kernel
theorem dX7_init_0 : decode cX7_init 0 = .ok (.aload_n 0, 1) := by decide +kernel
theorem dX7_init_1 : decode cX7_init 1 = .ok (.invokespecial 1, 3) := by decide +kernel
theorem dX7_init_4 : decode cX7_init 4 = .ok (.aload_n 0, 1) := by decide +kernel
theorem dX7_init_5 : decode cX7_init 5 = .ok (.new 7, 3) := by decide +kernel
theorem dX7_init_8 : decode cX7_init 8 = .ok (.dup, 1) := by decide +kernel
theorem dX7_init_9 : decode cX7_init 9 = .ok (.invokespecial 9, 3) := by decide +kernel
theorem dX7_init_12 : decode cX7_init 12 = .ok (.putfield 10, 3) := by decide +kernel
theorem dX7_init_15 : decode cX7_init 15 = .ok (.aload_n 0, 1) := by decide +kernel
theorem dX7_init_16 : decode cX7_init 16 = .ok (.new 16, 3) := by decide +kernel
theorem dX7_init_19 : decode cX7_init 19 = .ok (.dup, 1) := by decide +kernel
theorem dX7_init_20 : decode cX7_init 20 = .ok (.invokespecial 18, 3) := by decide +kernel
theorem dX7_init_23 : decode cX7_init 23 = .ok (.putfield 19, 3) := by decide +kernel
theorem dX7_init_26 : decode cX7_init 26 = .ok (.aload_n 0, 1) := by decide +kernel
theorem dX7_init_27 : decode cX7_init 27 = .ok (.new 23, 3) := by decide +kernel
theorem dX7_init_30 : decode cX7_init 30 = .ok (.dup, 1) := by decide +kernel
theorem dX7_init_31 : decode cX7_init 31 = .ok (.bipush 60, 2) := by decide +kernel
theorem dX7_init_33 : decode cX7_init 33 = .ok (.invokespecial 25, 3) := by decide +kernel
theorem dX7_init_36 : decode cX7_init 36 = .ok (.putfield 28, 3) := by decide +kernel
theorem dX7_init_39 : decode cX7_init 39 = .ok (.aload_n 0, 1) := by decide +kernel
theorem dX7_init_40 : decode cX7_init 40 = .ok (.new 32, 3) := by decide +kernel
theorem dX7_init_43 : decode cX7_init 43 = .ok (.dup, 1) := by decide +kernel
theorem dX7_init_44 : decode cX7_init 44 = .ok (.invokespecial 34, 3) := by decide +kernel
theorem dX7_init_47 : decode cX7_init 47 = .ok (.putfield 35, 3) := by decide +kernel
theorem dX7_init_50 : decode cX7_init 50 = .ok (.aload_n 0, 1) := by decide +kernel
theorem dX7_init_51 : decode cX7_init 51 = .ok (.new 39, 3) := by decide +kernel
theorem dX7_init_54 : decode cX7_init 54 = .ok (.dup, 1) := by decide +kernel
theorem dX7_init_55 : decode cX7_init 55 = .ok (.invokespecial 41, 3) := by decide +kernel
theorem dX7_init_58 : decode cX7_init 58 = .ok (.putfield 42, 3) := by decide +kernel
theorem dX7_init_61 : decode cX7_init 61 = .ok (.aload_n 0, 1) := by decide +kernel
theorem dX7_init_62 : decode cX7_init 62 = .ok (.new 46, 3) := by decide +kernel
theorem dX7_init_65 : decode cX7_init 65 = .ok (.dup, 1) := by decide +kernel
theorem dX7_init_66 : decode cX7_init 66 = .ok (.invokespecial 48, 3) := by decide +kernel
theorem dX7_init_69 : decode cX7_init 69 = .ok (.putfield 49, 3) := by decide +kernel
theorem dX7_init_72 : decode cX7_init 72 = .ok (.aload_n 0, 1) := by decide +kernel
theorem dX7_init_73 : decode cX7_init 73 = .ok (.new 32, 3) := by decide +kernel
theorem dX7_init_76 : decode cX7_init 76 = .ok (.dup, 1) := by decide +kernel
theorem dX7_init_77 : decode cX7_init 77 = .ok (.invokespecial 34, 3) := by decide +kernel
theorem dX7_init_80 : decode cX7_init 80 = .ok (.putfield 53, 3) := by decide +kernel
theorem dX7_init_83 : decode cX7_init 83 = .ok (.aload_n 0, 1) := by decide +kernel
theorem dX7_init_84 : decode cX7_init 84 = .ok (.new 23, 3) := by decide +kernel
theorem dX7_init_87 : decode cX7_init 87 = .ok (.dup, 1) := by decide +kernel
theorem dX7_init_88 : decode cX7_init 88 = .ok (.iconst 5, 1) := by decide +kernel
theorem dX7_init_89 : decode cX7_init 89 = .ok (.invokespecial 25, 3) := by decide +kernel
theorem dX7_init_92 : decode cX7_init 92 = .ok (.putfield 56, 3) := by decide +kernel
theorem dX7_init_95 : decode cX7_init 95 = .ok (.aload_n 0, 1) := by decide +kernel
