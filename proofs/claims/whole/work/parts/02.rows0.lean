theorem dX0_init_0 : decode cX0_init 0 = .ok (.aload_n 0, 1) := by decide +kernel
theorem dX0_init_1 : decode cX0_init 1 = .ok (.invokespecial 3, 3) := by decide +kernel
theorem dX0_init_4 : decode cX0_init 4 = .ok (.aload_n 0, 1) := by decide +kernel
theorem dX0_init_5 : decode cX0_init 5 = .ok (.bipush 10, 2) := by decide +kernel
theorem dX0_init_7 : decode cX0_init 7 = .ok (.anewarray 9, 3) := by decide +kernel
theorem dX0_init_10 : decode cX0_init 10 = .ok (.putfield 11, 3) := by decide +kernel
theorem dX0_init_13 : decode cX0_init 13 = .ok (.iconst 0, 1) := by decide +kernel
theorem dX0_init_14 : decode cX0_init 14 = .ok (.istore_n 1, 1) := by decide +kernel
theorem dX0_init_15 : decode cX0_init 15 = .ok (.iload_n 1, 1) := by decide +kernel
theorem dX0_init_16 : decode cX0_init 16 = .ok (.aload_n 0, 1) := by decide +kernel
theorem dX0_init_17 : decode cX0_init 17 = .ok (.getfield 11, 3) := by decide +kernel
theorem dX0_init_20 : decode cX0_init 20 = .ok (.arraylength, 1) := by decide +kernel
theorem dX0_init_21 : decode cX0_init 21 = .ok (.if_icmp .ge 24, 3) := by decide +kernel
theorem dX0_init_24 : decode cX0_init 24 = .ok (.aload_n 0, 1) := by decide +kernel
theorem dX0_init_25 : decode cX0_init 25 = .ok (.getfield 11, 3) := by decide +kernel
theorem dX0_init_28 : decode cX0_init 28 = .ok (.iload_n 1, 1) := by decide +kernel
theorem dX0_init_29 : decode cX0_init 29 = .ok (.new 9, 3) := by decide +kernel
theorem dX0_init_32 : decode cX0_init 32 = .ok (.dup, 1) := by decide +kernel
theorem dX0_init_33 : decode cX0_init 33 = .ok (.bipush 8, 2) := by decide +kernel
theorem dX0_init_35 : decode cX0_init 35 = .ok (.invokespecial 17, 3) := by decide +kernel
theorem dX0_init_38 : decode cX0_init 38 = .ok (.aastore, 1) := by decide +kernel
theorem dX0_init_39 : decode cX0_init 39 = .ok (.iinc 1 1, 3) := by decide +kernel
theorem dX0_init_42 : decode cX0_init 42 = .ok (.goto (-27), 3) := by decide +kernel
theorem dX0_init_45 : decode cX0_init 45 = .ok (.aload_n 0, 1) := by decide +kernel
theorem dX0_init_46 : decode cX0_init 46 = .ok (.new 9, 3) := by decide +kernel
theorem dX0_init_49 : decode cX0_init 49 = .ok (.dup, 1) := by decide +kernel
theorem dX0_init_50 : decode cX0_init 50 = .ok (.iconst 0, 1) := by decide +kernel
theorem dX0_init_51 : decode cX0_init 51 = .ok (.invokespecial 17, 3) := by decide +kernel
theorem dX0_init_54 : decode cX0_init 54 = .ok (.putfield 20, 3) := by decide +kernel
theorem dX0_init_57 : decode cX0_init 57 = .ok (.aload_n 0, 1) := by decide +kernel
theorem dX0_init_58 : decode cX0_init 58 = .ok (.iconst 0, 1) := by decide +kernel
theorem dX0_init_59 : decode cX0_init 59 = .ok (.putfield 24, 3) := by decide +kernel
theorem dX0_init_62 : decode cX0_init 62 = .ok (.return_, 1) := by decide +kernel
theorem dX0_held_0 : decode cX0_held 0 = .ok (.aload_n 0, 1) := by decide +kernel
theorem dX0_held_1 : decode cX0_held 1 = .ok (.getfield 24, 3) := by decide +kernel
theorem dX0_held_4 : decode cX0_held 4 = .ok (.ireturn, 1) := by decide +kernel
theorem dX0_directions_0 : decode cX0_directions 0 = .ok (.iload_n 1, 1) := by decide +kernel
theorem dX0_directions_1 : decode cX0_directions 1 = .ok (.ifCond .lt 12, 3) := by decide +kernel
theorem dX0_directions_4 : decode cX0_directions 4 = .ok (.iload_n 1, 1) := by decide +kernel
theorem dX0_directions_5 : decode cX0_directions 5 = .ok (.aload_n 0, 1) := by decide +kernel
theorem dX0_directions_6 : decode cX0_directions 6 = .ok (.getfield 11, 3) := by decide +kernel
theorem dX0_directions_9 : decode cX0_directions 9 = .ok (.arraylength, 1) := by decide +kernel
theorem dX0_directions_10 : decode cX0_directions 10 = .ok (.if_icmp .lt 8, 3) := by decide +kernel
theorem dX0_directions_13 : decode cX0_directions 13 = .ok (.aload_n 0, 1) := by decide +kernel
theorem dX0_directions_14 : decode cX0_directions 14 = .ok (.getfield 20, 3) := by decide +kernel
theorem dX0_directions_17 : decode cX0_directions 17 = .ok (.areturn, 1) := by decide +kernel
theorem dX0_directions_18 : decode cX0_directions 18 = .ok (.aload_n 0, 1) := by decide +kernel
theorem dX0_directions_19 : decode cX0_directions 19 = .ok (.getfield 11, 3) := by decide +kernel
theorem dX0_directions_22 : decode cX0_directions 22 = .ok (.iload_n 1, 1) := by decide +kernel
theorem dX0_directions_23 : decode cX0_directions 23 = .ok (.aaload, 1) := by decide +kernel
theorem dX0_directions_24 : decode cX0_directions 24 = .ok (.astore_n 2, 1) := by decide +kernel
theorem dX0_directions_25 : decode cX0_directions 25 = .ok (.aload_n 2, 1) := by decide +kernel
theorem dX0_directions_26 : decode cX0_directions 26 = .ok (.ifnull 7, 3) := by decide +kernel
theorem dX0_directions_29 : decode cX0_directions 29 = .ok (.aload_n 2, 1) := by decide +kernel
theorem dX0_directions_30 : decode cX0_directions 30 = .ok (.goto 7, 3) := by decide +kernel
theorem dX0_directions_33 : decode cX0_directions 33 = .ok (.aload_n 0, 1) := by decide +kernel
theorem dX0_directions_34 : decode cX0_directions 34 = .ok (.getfield 20, 3) := by decide +kernel
theorem dX0_directions_37 : decode cX0_directions 37 = .ok (.areturn, 1) := by decide +kernel
theorem dX0_allDirections_0 : decode cX0_allDirections 0 = .ok (.iconst 0, 1) := by decide +kernel
theorem dX0_allDirections_1 : decode cX0_allDirections 1 = .ok (.istore_n 1, 1) := by decide +kernel
theorem dX0_allDirections_2 : decode cX0_allDirections 2 = .ok (.iconst 0, 1) := by decide +kernel
theorem dX0_allDirections_3 : decode cX0_allDirections 3 = .ok (.istore_n 2, 1) := by decide +kernel
theorem dX0_allDirections_4 : decode cX0_allDirections 4 = .ok (.iload_n 2, 1) := by decide +kernel
theorem dX0_allDirections_5 : decode cX0_allDirections 5 = .ok (.aload_n 0, 1) := by decide +kernel
theorem dX0_allDirections_6 : decode cX0_allDirections 6 = .ok (.getfield 24, 3) := by decide +kernel
theorem dX0_allDirections_9 : decode cX0_allDirections 9 = .ok (.if_icmp .ge 20, 3) := by decide +kernel
theorem dX0_allDirections_12 : decode cX0_allDirections 12 = .ok (.iload_n 1, 1) := by decide +kernel
theorem dX0_allDirections_13 : decode cX0_allDirections 13 = .ok (.aload_n 0, 1) := by decide +kernel
theorem dX0_allDirections_14 : decode cX0_allDirections 14 = .ok (.iload_n 2, 1) := by decide +kernel
theorem dX0_allDirections_15 : decode cX0_allDirections 15 = .ok (.invokevirtual 28, 3) := by decide +kernel
theorem dX0_allDirections_18 : decode cX0_allDirections 18 = .ok (.invokevirtual 32, 3) := by decide +kernel
theorem dX0_allDirections_21 : decode cX0_allDirections 21 = .ok (.iadd, 1) := by decide +kernel
theorem dX0_allDirections_22 : decode cX0_allDirections 22 = .ok (.istore_n 1, 1) := by decide +kernel
theorem dX0_allDirections_23 : decode cX0_allDirections 23 = .ok (.iinc 2 1, 3) := by decide +kernel
theorem dX0_allDirections_26 : decode cX0_allDirections 26 = .ok (.goto (-22), 3) := by decide +kernel
theorem dX0_allDirections_29 : decode cX0_allDirections 29 = .ok (.iload_n 1, 1) := by decide +kernel
theorem dX0_allDirections_30 : decode cX0_allDirections 30 = .ok (.ireturn, 1) := by decide +kernel
theorem dX0_add_0 : decode cX0_add 0 = .ok (.aload_n 0, 1) := by decide +kernel
theorem dX0_add_1 : decode cX0_add 1 = .ok (.getfield 24, 3) := by decide +kernel
theorem dX0_add_4 : decode cX0_add 4 = .ok (.aload_n 0, 1) := by decide +kernel
theorem dX0_add_5 : decode cX0_add 5 = .ok (.getfield 11, 3) := by decide +kernel
theorem dX0_add_8 : decode cX0_add 8 = .ok (.arraylength, 1) := by decide +kernel
theorem dX0_add_9 : decode cX0_add 9 = .ok (.if_icmp .ge 25, 3) := by decide +kernel
theorem dX0_add_12 : decode cX0_add 12 = .ok (.aload_n 0, 1) := by decide +kernel
theorem dX0_add_13 : decode cX0_add 13 = .ok (.aload_n 0, 1) := by decide +kernel
theorem dX0_add_14 : decode cX0_add 14 = .ok (.getfield 24, 3) := by decide +kernel
theorem dX0_add_17 : decode cX0_add 17 = .ok (.invokevirtual 28, 3) := by decide +kernel
theorem dX0_add_20 : decode cX0_add 20 = .ok (.aload_n 1, 1) := by decide +kernel
theorem dX0_add_21 : decode cX0_add 21 = .ok (.invokevirtual 35, 3) := by decide +kernel
theorem dX0_add_24 : decode cX0_add 24 = .ok (.aload_n 0, 1) := by decide +kernel
theorem dX0_add_25 : decode cX0_add 25 = .ok (.dup, 1) := by decide +kernel
theorem dX0_add_26 : decode cX0_add 26 = .ok (.getfield 24, 3) := by decide +kernel
theorem dX0_add_29 : decode cX0_add 29 = .ok (.iconst 1, 1) := by decide +kernel
theorem dX0_add_30 : decode cX0_add 30 = .ok (.iadd, 1) := by decide +kernel
theorem dX0_add_31 : decode cX0_add 31 = .ok (.putfield 24, 3) := by decide +kernel
theorem dX0_add_34 : decode cX0_add 34 = .ok (.return_, 1) := by decide +kernel
theorem dX0_remove_0 : decode cX0_remove 0 = .ok (.iload_n 1, 1) := by decide +kernel
theorem dX0_remove_1 : decode cX0_remove 1 = .ok (.ifCond .lt 11, 3) := by decide +kernel
theorem dX0_remove_4 : decode cX0_remove 4 = .ok (.iload_n 1, 1) := by decide +kernel
theorem dX0_remove_5 : decode cX0_remove 5 = .ok (.aload_n 0, 1) := by decide +kernel
theorem dX0_remove_6 : decode cX0_remove 6 = .ok (.getfield 24, 3) := by decide +kernel
theorem dX0_remove_9 : decode cX0_remove 9 = .ok (.if_icmp .lt 4, 3) := by decide +kernel
theorem dX0_remove_12 : decode cX0_remove 12 = .ok (.return_, 1) := by decide +kernel
theorem dX0_remove_13 : decode cX0_remove 13 = .ok (.iload_n 1, 1) := by decide +kernel
theorem dX0_remove_14 : decode cX0_remove 14 = .ok (.iconst 1, 1) := by decide +kernel
theorem dX0_remove_15 : decode cX0_remove 15 = .ok (.iadd, 1) := by decide +kernel
theorem dX0_remove_16 : decode cX0_remove 16 = .ok (.istore_n 2, 1) := by decide +kernel
theorem dX0_remove_17 : decode cX0_remove 17 = .ok (.iload_n 2, 1) := by decide +kernel
theorem dX0_remove_18 : decode cX0_remove 18 = .ok (.aload_n 0, 1) := by decide +kernel
theorem dX0_remove_19 : decode cX0_remove 19 = .ok (.getfield 24, 3) := by decide +kernel
theorem dX0_remove_22 : decode cX0_remove 22 = .ok (.if_icmp .ge 24, 3) := by decide +kernel
theorem dX0_remove_25 : decode cX0_remove 25 = .ok (.aload_n 0, 1) := by decide +kernel
theorem dX0_remove_26 : decode cX0_remove 26 = .ok (.iload_n 2, 1) := by decide +kernel
theorem dX0_remove_27 : decode cX0_remove 27 = .ok (.iconst 1, 1) := by decide +kernel
theorem dX0_remove_28 : decode cX0_remove 28 = .ok (.isub, 1) := by decide +kernel
theorem dX0_remove_29 : decode cX0_remove 29 = .ok (.invokevirtual 28, 3) := by decide +kernel
theorem dX0_remove_32 : decode cX0_remove 32 = .ok (.aload_n 0, 1) := by decide +kernel
theorem dX0_remove_33 : decode cX0_remove 33 = .ok (.iload_n 2, 1) := by decide +kernel
theorem dX0_remove_34 : decode cX0_remove 34 = .ok (.invokevirtual 28, 3) := by decide +kernel
theorem dX0_remove_37 : decode cX0_remove 37 = .ok (.invokevirtual 35, 3) := by decide +kernel
theorem dX0_remove_40 : decode cX0_remove 40 = .ok (.iinc 2 1, 3) := by decide +kernel
theorem dX0_remove_43 : decode cX0_remove 43 = .ok (.goto (-26), 3) := by decide +kernel
theorem dX0_remove_46 : decode cX0_remove 46 = .ok (.aload_n 0, 1) := by decide +kernel
theorem dX0_remove_47 : decode cX0_remove 47 = .ok (.dup, 1) := by decide +kernel
theorem dX0_remove_48 : decode cX0_remove 48 = .ok (.getfield 24, 3) := by decide +kernel
theorem dX0_remove_51 : decode cX0_remove 51 = .ok (.iconst 1, 1) := by decide +kernel
theorem dX0_remove_52 : decode cX0_remove 52 = .ok (.isub, 1) := by decide +kernel
theorem dX0_remove_53 : decode cX0_remove 53 = .ok (.putfield 24, 3) := by decide +kernel
theorem dX0_remove_56 : decode cX0_remove 56 = .ok (.return_, 1) := by decide +kernel
theorem dX0_copy_0 : decode cX0_copy 0 = .ok (.iconst 0, 1) := by decide +kernel
theorem dX0_copy_1 : decode cX0_copy 1 = .ok (.istore_n 2, 1) := by decide +kernel
theorem dX0_copy_2 : decode cX0_copy 2 = .ok (.iload_n 2, 1) := by decide +kernel
theorem dX0_copy_3 : decode cX0_copy 3 = .ok (.aload_n 1, 1) := by decide +kernel
theorem dX0_copy_4 : decode cX0_copy 4 = .ok (.getfield 24, 3) := by decide +kernel
theorem dX0_copy_7 : decode cX0_copy 7 = .ok (.if_icmp .ge 22, 3) := by decide +kernel
theorem dX0_copy_10 : decode cX0_copy 10 = .ok (.aload_n 0, 1) := by decide +kernel
theorem dX0_copy_11 : decode cX0_copy 11 = .ok (.iload_n 2, 1) := by decide +kernel
theorem dX0_copy_12 : decode cX0_copy 12 = .ok (.invokevirtual 28, 3) := by decide +kernel
theorem dX0_copy_15 : decode cX0_copy 15 = .ok (.aload_n 1, 1) := by decide +kernel
theorem dX0_copy_16 : decode cX0_copy 16 = .ok (.iload_n 2, 1) := by decide +kernel
theorem dX0_copy_17 : decode cX0_copy 17 = .ok (.invokevirtual 28, 3) := by decide +kernel
theorem dX0_copy_20 : decode cX0_copy 20 = .ok (.invokevirtual 35, 3) := by decide +kernel
theorem dX0_copy_23 : decode cX0_copy 23 = .ok (.iinc 2 1, 3) := by decide +kernel
theorem dX0_copy_26 : decode cX0_copy 26 = .ok (.goto (-24), 3) := by decide +kernel
theorem dX0_copy_29 : decode cX0_copy 29 = .ok (.aload_n 0, 1) := by decide +kernel
theorem dX0_copy_30 : decode cX0_copy 30 = .ok (.aload_n 1, 1) := by decide +kernel
theorem dX0_copy_31 : decode cX0_copy 31 = .ok (.getfield 24, 3) := by decide +kernel
theorem dX0_copy_34 : decode cX0_copy 34 = .ok (.putfield 24, 3) := by decide +kernel
theorem dX0_copy_37 : decode cX0_copy 37 = .ok (.return_, 1) := by decide +kernel
theorem dX1_init_0 : decode cX1_init 0 = .ok (.aload_n 0, 1) := by decide +kernel
theorem dX1_init_1 : decode cX1_init 1 = .ok (.invokespecial 3, 3) := by decide +kernel
theorem dX1_init_4 : decode cX1_init 4 = .ok (.aload_n 0, 1) := by decide +kernel
theorem dX1_init_5 : decode cX1_init 5 = .ok (.bipush 6, 2) := by decide +kernel
theorem dX1_init_7 : decode cX1_init 7 = .ok (.anewarray 9, 3) := by decide +kernel
theorem dX1_init_10 : decode cX1_init 10 = .ok (.putfield 11, 3) := by decide +kernel
theorem dX1_init_13 : decode cX1_init 13 = .ok (.iconst 0, 1) := by decide +kernel
theorem dX1_init_14 : decode cX1_init 14 = .ok (.istore_n 1, 1) := by decide +kernel
theorem dX1_init_15 : decode cX1_init 15 = .ok (.iload_n 1, 1) := by decide +kernel
theorem dX1_init_16 : decode cX1_init 16 = .ok (.aload_n 0, 1) := by decide +kernel
theorem dX1_init_17 : decode cX1_init 17 = .ok (.getfield 11, 3) := by decide +kernel
theorem dX1_init_20 : decode cX1_init 20 = .ok (.arraylength, 1) := by decide +kernel
theorem dX1_init_21 : decode cX1_init 21 = .ok (.if_icmp .ge 22, 3) := by decide +kernel
theorem dX1_init_24 : decode cX1_init 24 = .ok (.aload_n 0, 1) := by decide +kernel
theorem dX1_init_25 : decode cX1_init 25 = .ok (.getfield 11, 3) := by decide +kernel
theorem dX1_init_28 : decode cX1_init 28 = .ok (.iload_n 1, 1) := by decide +kernel
theorem dX1_init_29 : decode cX1_init 29 = .ok (.new 9, 3) := by decide +kernel
theorem dX1_init_32 : decode cX1_init 32 = .ok (.dup, 1) := by decide +kernel
theorem dX1_init_33 : decode cX1_init 33 = .ok (.invokespecial 17, 3) := by decide +kernel
theorem dX1_init_36 : decode cX1_init 36 = .ok (.aastore, 1) := by decide +kernel
theorem dX1_init_37 : decode cX1_init 37 = .ok (.iinc 1 1, 3) := by decide +kernel
theorem dX1_init_40 : decode cX1_init 40 = .ok (.goto (-25), 3) := by decide +kernel
theorem dX1_init_43 : decode cX1_init 43 = .ok (.aload_n 0, 1) := by decide +kernel
theorem dX1_init_44 : decode cX1_init 44 = .ok (.iconst 0, 1) := by decide +kernel
theorem dX1_init_45 : decode cX1_init 45 = .ok (.putfield 18, 3) := by decide +kernel
theorem dX1_init_48 : decode cX1_init 48 = .ok (.aload_n 0, 1) := by decide +kernel
theorem dX1_init_49 : decode cX1_init 49 = .ok (.iconst 0, 1) := by decide +kernel
theorem dX1_init_50 : decode cX1_init 50 = .ok (.putfield 22, 3) := by decide +kernel
theorem dX1_init_53 : decode cX1_init 53 = .ok (.return_, 1) := by decide +kernel
theorem dX1_held_0 : decode cX1_held 0 = .ok (.aload_n 0, 1) := by decide +kernel
theorem dX1_held_1 : decode cX1_held 1 = .ok (.getfield 22, 3) := by decide +kernel
theorem dX1_held_4 : decode cX1_held 4 = .ok (.ireturn, 1) := by decide +kernel
theorem dX1_keep_0 : decode cX1_keep 0 = .ok (.aload_n 0, 1) := by decide +kernel
theorem dX1_keep_1 : decode cX1_keep 1 = .ok (.getfield 22, 3) := by decide +kernel
theorem dX1_keep_4 : decode cX1_keep 4 = .ok (.bipush 6, 2) := by decide +kernel
theorem dX1_keep_6 : decode cX1_keep 6 = .ok (.if_icmp .lt 26, 3) := by decide +kernel
theorem dX1_keep_9 : decode cX1_keep 9 = .ok (.aload_n 0, 1) := by decide +kernel
theorem dX1_keep_10 : decode cX1_keep 10 = .ok (.aload_n 0, 1) := by decide +kernel
theorem dX1_keep_11 : decode cX1_keep 11 = .ok (.getfield 18, 3) := by decide +kernel
theorem dX1_keep_14 : decode cX1_keep 14 = .ok (.iconst 1, 1) := by decide +kernel
theorem dX1_keep_15 : decode cX1_keep 15 = .ok (.iadd, 1) := by decide +kernel
theorem dX1_keep_16 : decode cX1_keep 16 = .ok (.bipush 6, 2) := by decide +kernel
theorem dX1_keep_18 : decode cX1_keep 18 = .ok (.irem, 1) := by decide +kernel
theorem dX1_keep_19 : decode cX1_keep 19 = .ok (.putfield 18, 3) := by decide +kernel
theorem dX1_keep_22 : decode cX1_keep 22 = .ok (.aload_n 0, 1) := by decide +kernel
theorem dX1_keep_23 : decode cX1_keep 23 = .ok (.dup, 1) := by decide +kernel
theorem dX1_keep_24 : decode cX1_keep 24 = .ok (.getfield 22, 3) := by decide +kernel
theorem dX1_keep_27 : decode cX1_keep 27 = .ok (.iconst 1, 1) := by decide +kernel
theorem dX1_keep_28 : decode cX1_keep 28 = .ok (.isub, 1) := by decide +kernel
theorem dX1_keep_29 : decode cX1_keep 29 = .ok (.putfield 22, 3) := by decide +kernel
theorem dX1_keep_32 : decode cX1_keep 32 = .ok (.aload_n 0, 1) := by decide +kernel
theorem dX1_keep_33 : decode cX1_keep 33 = .ok (.aload_n 0, 1) := by decide +kernel
theorem dX1_keep_34 : decode cX1_keep 34 = .ok (.getfield 22, 3) := by decide +kernel
theorem dX1_keep_37 : decode cX1_keep 37 = .ok (.invokevirtual 25, 3) := by decide +kernel
theorem dX1_keep_40 : decode cX1_keep 40 = .ok (.astore_n 2, 1) := by decide +kernel
theorem dX1_keep_41 : decode cX1_keep 41 = .ok (.aload_n 2, 1) := by decide +kernel
theorem dX1_keep_42 : decode cX1_keep 42 = .ok (.ifnull 18, 3) := by decide +kernel
theorem dX1_keep_45 : decode cX1_keep 45 = .ok (.aload_n 2, 1) := by decide +kernel
theorem dX1_keep_46 : decode cX1_keep 46 = .ok (.aload_n 1, 1) := by decide +kernel
theorem dX1_keep_47 : decode cX1_keep 47 = .ok (.invokevirtual 29, 3) := by decide +kernel
theorem dX1_keep_50 : decode cX1_keep 50 = .ok (.aload_n 0, 1) := by decide +kernel
theorem dX1_keep_51 : decode cX1_keep 51 = .ok (.dup, 1) := by decide +kernel
theorem dX1_keep_52 : decode cX1_keep 52 = .ok (.getfield 22, 3) := by decide +kernel
theorem dX1_keep_55 : decode cX1_keep 55 = .ok (.iconst 1, 1) := by decide +kernel
theorem dX1_keep_56 : decode cX1_keep 56 = .ok (.iadd, 1) := by decide +kernel
theorem dX1_keep_57 : decode cX1_keep 57 = .ok (.putfield 22, 3) := by decide +kernel
theorem dX1_keep_60 : decode cX1_keep 60 = .ok (.return_, 1) := by decide +kernel
theorem dX1_giveBack_0 : decode cX1_giveBack 0 = .ok (.aload_n 0, 1) := by decide +kernel
theorem dX1_giveBack_1 : decode cX1_giveBack 1 = .ok (.aload_n 0, 1) := by decide +kernel
theorem dX1_giveBack_2 : decode cX1_giveBack 2 = .ok (.getfield 22, 3) := by decide +kernel
theorem dX1_giveBack_5 : decode cX1_giveBack 5 = .ok (.iconst 1, 1) := by decide +kernel
theorem dX1_giveBack_6 : decode cX1_giveBack 6 = .ok (.isub, 1) := by decide +kernel
theorem dX1_giveBack_7 : decode cX1_giveBack 7 = .ok (.invokevirtual 25, 3) := by decide +kernel
theorem dX1_giveBack_10 : decode cX1_giveBack 10 = .ok (.astore_n 2, 1) := by decide +kernel
theorem dX1_giveBack_11 : decode cX1_giveBack 11 = .ok (.aload_n 0, 1) := by decide +kernel
theorem dX1_giveBack_12 : decode cX1_giveBack 12 = .ok (.getfield 22, 3) := by decide +kernel
theorem dX1_giveBack_15 : decode cX1_giveBack 15 = .ok (.ifCond .le 22, 3) := by decide +kernel
theorem dX1_giveBack_18 : decode cX1_giveBack 18 = .ok (.aload_n 2, 1) := by decide +kernel
theorem dX1_giveBack_19 : decode cX1_giveBack 19 = .ok (.ifnull 18, 3) := by decide +kernel
theorem dX1_giveBack_22 : decode cX1_giveBack 22 = .ok (.aload_n 1, 1) := by decide +kernel
theorem dX1_giveBack_23 : decode cX1_giveBack 23 = .ok (.aload_n 2, 1) := by decide +kernel
theorem dX1_giveBack_24 : decode cX1_giveBack 24 = .ok (.invokevirtual 29, 3) := by decide +kernel
theorem dX1_giveBack_27 : decode cX1_giveBack 27 = .ok (.aload_n 0, 1) := by decide +kernel
theorem dX1_giveBack_28 : decode cX1_giveBack 28 = .ok (.dup, 1) := by decide +kernel
theorem dX1_giveBack_29 : decode cX1_giveBack 29 = .ok (.getfield 22, 3) := by decide +kernel
theorem dX1_giveBack_32 : decode cX1_giveBack 32 = .ok (.iconst 1, 1) := by decide +kernel
theorem dX1_giveBack_33 : decode cX1_giveBack 33 = .ok (.isub, 1) := by decide +kernel
theorem dX1_giveBack_34 : decode cX1_giveBack 34 = .ok (.putfield 22, 3) := by decide +kernel
theorem dX1_giveBack_37 : decode cX1_giveBack 37 = .ok (.return_, 1) := by decide +kernel
theorem dX1_saved_0 : decode cX1_saved 0 = .ok (.aload_n 0, 1) := by decide +kernel
theorem dX1_saved_1 : decode cX1_saved 1 = .ok (.getfield 18, 3) := by decide +kernel
theorem dX1_saved_4 : decode cX1_saved 4 = .ok (.iload_n 1, 1) := by decide +kernel
theorem dX1_saved_5 : decode cX1_saved 5 = .ok (.iadd, 1) := by decide +kernel
theorem dX1_saved_6 : decode cX1_saved 6 = .ok (.bipush 6, 2) := by decide +kernel
theorem dX1_saved_8 : decode cX1_saved 8 = .ok (.irem, 1) := by decide +kernel
theorem dX1_saved_9 : decode cX1_saved 9 = .ok (.istore_n 2, 1) := by decide +kernel
theorem dX1_saved_10 : decode cX1_saved 10 = .ok (.iload_n 2, 1) := by decide +kernel
theorem dX1_saved_11 : decode cX1_saved 11 = .ok (.ifCond .lt 21, 3) := by decide +kernel
theorem dX1_saved_14 : decode cX1_saved 14 = .ok (.iload_n 2, 1) := by decide +kernel
theorem dX1_saved_15 : decode cX1_saved 15 = .ok (.aload_n 0, 1) := by decide +kernel
theorem dX1_saved_16 : decode cX1_saved 16 = .ok (.getfield 11, 3) := by decide +kernel
theorem dX1_saved_19 : decode cX1_saved 19 = .ok (.arraylength, 1) := by decide +kernel
theorem dX1_saved_20 : decode cX1_saved 20 = .ok (.if_icmp .ge 12, 3) := by decide +kernel
theorem dX1_saved_23 : decode cX1_saved 23 = .ok (.aload_n 0, 1) := by decide +kernel
theorem dX1_saved_24 : decode cX1_saved 24 = .ok (.getfield 11, 3) := by decide +kernel
theorem dX1_saved_27 : decode cX1_saved 27 = .ok (.iload_n 2, 1) := by decide +kernel
theorem dX1_saved_28 : decode cX1_saved 28 = .ok (.aaload, 1) := by decide +kernel
theorem dX1_saved_29 : decode cX1_saved 29 = .ok (.goto 4, 3) := by decide +kernel
theorem dX1_saved_32 : decode cX1_saved 32 = .ok (.aconst_null, 1) := by decide +kernel
theorem dX1_saved_33 : decode cX1_saved 33 = .ok (.areturn, 1) := by decide +kernel
theorem dX2_init_0 : decode cX2_init 0 = .ok (.aload_n 0, 1) := by decide +kernel
theorem dX2_init_1 : decode cX2_init 1 = .ok (.invokespecial 3, 3) := by decide +kernel
theorem dX2_init_4 : decode cX2_init 4 = .ok (.aload_n 0, 1) := by decide +kernel
theorem dX2_init_5 : decode cX2_init 5 = .ok (.new 9, 3) := by decide +kernel
theorem dX2_init_8 : decode cX2_init 8 = .ok (.dup, 1) := by decide +kernel
theorem dX2_init_9 : decode cX2_init 9 = .ok (.bipush 9, 2) := by decide +kernel
theorem dX2_init_11 : decode cX2_init 11 = .ok (.invokespecial 11, 3) := by decide +kernel
theorem dX2_init_14 : decode cX2_init 14 = .ok (.putfield 14, 3) := by decide +kernel
theorem dX2_init_17 : decode cX2_init 17 = .ok (.return_, 1) := by decide +kernel
theorem dX2_measure_0 : decode cX2_measure 0 = .ok (.aload_n 3, 1) := by decide +kernel
theorem dX2_measure_1 : decode cX2_measure 1 = .ok (.iconst 3, 1) := by decide +kernel
theorem dX2_measure_2 : decode cX2_measure 2 = .ok (.invokevirtual 20, 3) := by decide +kernel
theorem dX2_measure_5 : decode cX2_measure 5 = .ok (.istore 4, 2) := by decide +kernel
theorem dX2_measure_7 : decode cX2_measure 7 = .ok (.aload_n 0, 1) := by decide +kernel
theorem dX2_measure_8 : decode cX2_measure 8 = .ok (.getfield 14, 3) := by decide +kernel
theorem dX2_measure_11 : decode cX2_measure 11 = .ok (.invokevirtual 24, 3) := by decide +kernel
theorem dX2_measure_14 : decode cX2_measure 14 = .ok (.iconst 0, 1) := by decide +kernel
theorem dX2_measure_15 : decode cX2_measure 15 = .ok (.istore 5, 2) := by decide +kernel
theorem dX2_measure_17 : decode cX2_measure 17 = .ok (.iload 5, 2) := by decide +kernel
theorem dX2_measure_19 : decode cX2_measure 19 = .ok (.aload_n 2, 1) := by decide +kernel
theorem dX2_measure_20 : decode cX2_measure 20 = .ok (.invokevirtual 27, 3) := by decide +kernel
theorem dX2_measure_23 : decode cX2_measure 23 = .ok (.if_icmp .gt 21, 3) := by decide +kernel
theorem dX2_measure_26 : decode cX2_measure 26 = .ok (.aload_n 0, 1) := by decide +kernel
theorem dX2_measure_27 : decode cX2_measure 27 = .ok (.getfield 14, 3) := by decide +kernel
theorem dX2_measure_30 : decode cX2_measure 30 = .ok (.iload 5, 2) := by decide +kernel
theorem dX2_measure_32 : decode cX2_measure 32 = .ok (.iload 4, 2) := by decide +kernel
theorem dX2_measure_34 : decode cX2_measure 34 = .ok (.imul, 1) := by decide +kernel
theorem dX2_measure_35 : decode cX2_measure 35 = .ok (.invokevirtual 31, 3) := by decide +kernel
theorem dX2_measure_38 : decode cX2_measure 38 = .ok (.iinc 5 1, 3) := by decide +kernel
theorem dX2_measure_41 : decode cX2_measure 41 = .ok (.goto (-24), 3) := by decide +kernel
theorem dX2_measure_44 : decode cX2_measure 44 = .ok (.iconst 0, 1) := by decide +kernel
theorem dX2_measure_45 : decode cX2_measure 45 = .ok (.istore 5, 2) := by decide +kernel
theorem dX2_measure_47 : decode cX2_measure 47 = .ok (.iload 5, 2) := by decide +kernel
theorem dX2_measure_49 : decode cX2_measure 49 = .ok (.aload_n 1, 1) := by decide +kernel
theorem dX2_measure_50 : decode cX2_measure 50 = .ok (.invokevirtual 27, 3) := by decide +kernel
theorem dX2_measure_53 : decode cX2_measure 53 = .ok (.if_icmp .ge 27, 3) := by decide +kernel
theorem dX2_measure_56 : decode cX2_measure 56 = .ok (.aload_n 0, 1) := by decide +kernel
theorem dX2_measure_57 : decode cX2_measure 57 = .ok (.aload_n 1, 1) := by decide +kernel
theorem dX2_measure_58 : decode cX2_measure 58 = .ok (.iload 5, 2) := by decide +kernel
theorem dX2_measure_60 : decode cX2_measure 60 = .ok (.invokevirtual 20, 3) := by decide +kernel
theorem dX2_measure_63 : decode cX2_measure 63 = .ok (.aload_n 2, 1) := by decide +kernel
theorem dX2_measure_64 : decode cX2_measure 64 = .ok (.iload 4, 2) := by decide +kernel
theorem dX2_measure_66 : decode cX2_measure 66 = .ok (.aload_n 3, 1) := by decide +kernel
theorem dX2_measure_67 : decode cX2_measure 67 = .ok (.iconst 2, 1) := by decide +kernel
theorem dX2_measure_68 : decode cX2_measure 68 = .ok (.invokevirtual 20, 3) := by decide +kernel
theorem dX2_measure_71 : decode cX2_measure 71 = .ok (.invokevirtual 34, 3) := by decide +kernel
theorem dX2_measure_74 : decode cX2_measure 74 = .ok (.iinc 5 1, 3) := by decide +kernel
theorem dX2_measure_77 : decode cX2_measure 77 = .ok (.goto (-30), 3) := by decide +kernel
theorem dX2_measure_80 : decode cX2_measure 80 = .ok (.return_, 1) := by decide +kernel
theorem dX2_takeIn_0 : decode cX2_takeIn 0 = .ok (.aload_n 0, 1) := by decide +kernel
theorem dX2_takeIn_1 : decode cX2_takeIn 1 = .ok (.getfield 14, 3) := by decide +kernel
theorem dX2_takeIn_4 : decode cX2_takeIn 4 = .ok (.iconst 0, 1) := by decide +kernel
theorem dX2_takeIn_5 : decode cX2_takeIn 5 = .ok (.invokevirtual 20, 3) := by decide +kernel
theorem dX2_takeIn_8 : decode cX2_takeIn 8 = .ok (.istore 5, 2) := by decide +kernel
theorem dX2_takeIn_10 : decode cX2_takeIn 10 = .ok (.aload_n 0, 1) := by decide +kernel
theorem dX2_takeIn_11 : decode cX2_takeIn 11 = .ok (.getfield 14, 3) := by decide +kernel
theorem dX2_takeIn_14 : decode cX2_takeIn 14 = .ok (.iconst 0, 1) := by decide +kernel
theorem dX2_takeIn_15 : decode cX2_takeIn 15 = .ok (.iload 5, 2) := by decide +kernel
theorem dX2_takeIn_17 : decode cX2_takeIn 17 = .ok (.iload_n 3, 1) := by decide +kernel
theorem dX2_takeIn_18 : decode cX2_takeIn 18 = .ok (.iadd, 1) := by decide +kernel
theorem dX2_takeIn_19 : decode cX2_takeIn 19 = .ok (.invokevirtual 38, 3) := by decide +kernel
theorem dX2_takeIn_22 : decode cX2_takeIn 22 = .ok (.iconst 1, 1) := by decide +kernel
theorem dX2_takeIn_23 : decode cX2_takeIn 23 = .ok (.istore 6, 2) := by decide +kernel
theorem dX2_takeIn_25 : decode cX2_takeIn 25 = .ok (.iload 6, 2) := by decide +kernel
theorem dX2_takeIn_27 : decode cX2_takeIn 27 = .ok (.aload_n 2, 1) := by decide +kernel
theorem dX2_takeIn_28 : decode cX2_takeIn 28 = .ok (.invokevirtual 27, 3) := by decide +kernel
theorem dX2_takeIn_31 : decode cX2_takeIn 31 = .ok (.if_icmp .gt 82, 3) := by decide +kernel
theorem dX2_takeIn_34 : decode cX2_takeIn 34 = .ok (.iload 5, 2) := by decide +kernel
theorem dX2_takeIn_36 : decode cX2_takeIn 36 = .ok (.iload 4, 2) := by decide +kernel
theorem dX2_takeIn_38 : decode cX2_takeIn 38 = .ok (.iload_n 1, 1) := by decide +kernel
theorem dX2_takeIn_39 : decode cX2_takeIn 39 = .ok (.aload_n 2, 1) := by decide +kernel
theorem dX2_takeIn_40 : decode cX2_takeIn 40 = .ok (.iload 6, 2) := by decide +kernel
theorem dX2_takeIn_42 : decode cX2_takeIn 42 = .ok (.iconst 1, 1) := by decide +kernel
theorem dX2_takeIn_43 : decode cX2_takeIn 43 = .ok (.isub, 1) := by decide +kernel
theorem dX2_takeIn_44 : decode cX2_takeIn 44 = .ok (.invokevirtual 20, 3) := by decide +kernel
theorem dX2_takeIn_47 : decode cX2_takeIn 47 = .ok (.invokestatic 42, 3) := by decide +kernel
theorem dX2_takeIn_50 : decode cX2_takeIn 50 = .ok (.imul, 1) := by decide +kernel
theorem dX2_takeIn_51 : decode cX2_takeIn 51 = .ok (.iadd, 1) := by decide +kernel
theorem dX2_takeIn_52 : decode cX2_takeIn 52 = .ok (.istore 7, 2) := by decide +kernel
theorem dX2_takeIn_54 : decode cX2_takeIn 54 = .ok (.aload_n 0, 1) := by decide +kernel
theorem dX2_takeIn_55 : decode cX2_takeIn 55 = .ok (.getfield 14, 3) := by decide +kernel
theorem dX2_takeIn_58 : decode cX2_takeIn 58 = .ok (.iload 6, 2) := by decide +kernel
theorem dX2_takeIn_60 : decode cX2_takeIn 60 = .ok (.invokevirtual 20, 3) := by decide +kernel
theorem dX2_takeIn_63 : decode cX2_takeIn 63 = .ok (.istore 5, 2) := by decide +kernel
theorem dX2_takeIn_65 : decode cX2_takeIn 65 = .ok (.iload 5, 2) := by decide +kernel
theorem dX2_takeIn_67 : decode cX2_takeIn 67 = .ok (.iload_n 3, 1) := by decide +kernel
theorem dX2_takeIn_68 : decode cX2_takeIn 68 = .ok (.iadd, 1) := by decide +kernel
theorem dX2_takeIn_69 : decode cX2_takeIn 69 = .ok (.istore 8, 2) := by decide +kernel
theorem dX2_takeIn_71 : decode cX2_takeIn 71 = .ok (.aload_n 0, 1) := by decide +kernel
theorem dX2_takeIn_72 : decode cX2_takeIn 72 = .ok (.getfield 14, 3) := by decide +kernel
theorem dX2_takeIn_75 : decode cX2_takeIn 75 = .ok (.iload 6, 2) := by decide +kernel
theorem dX2_takeIn_77 : decode cX2_takeIn 77 = .ok (.iconst 1, 1) := by decide +kernel
theorem dX2_takeIn_78 : decode cX2_takeIn 78 = .ok (.isub, 1) := by decide +kernel
theorem dX2_takeIn_79 : decode cX2_takeIn 79 = .ok (.invokevirtual 20, 3) := by decide +kernel
theorem dX2_takeIn_82 : decode cX2_takeIn 82 = .ok (.iload_n 3, 1) := by decide +kernel
theorem dX2_takeIn_83 : decode cX2_takeIn 83 = .ok (.iadd, 1) := by decide +kernel
theorem dX2_takeIn_84 : decode cX2_takeIn 84 = .ok (.istore 9, 2) := by decide +kernel
theorem dX2_takeIn_86 : decode cX2_takeIn 86 = .ok (.aload_n 0, 1) := by decide +kernel
theorem dX2_takeIn_87 : decode cX2_takeIn 87 = .ok (.getfield 14, 3) := by decide +kernel
theorem dX2_takeIn_90 : decode cX2_takeIn 90 = .ok (.iload 6, 2) := by decide +kernel
theorem dX2_takeIn_92 : decode cX2_takeIn 92 = .ok (.iload 7, 2) := by decide +kernel
theorem dX2_takeIn_94 : decode cX2_takeIn 94 = .ok (.iload 8, 2) := by decide +kernel
theorem dX2_takeIn_96 : decode cX2_takeIn 96 = .ok (.iload 9, 2) := by decide +kernel
theorem dX2_takeIn_98 : decode cX2_takeIn 98 = .ok (.invokestatic 46, 3) := by decide +kernel
theorem dX2_takeIn_101 : decode cX2_takeIn 101 = .ok (.invokestatic 46, 3) := by decide +kernel
theorem dX2_takeIn_104 : decode cX2_takeIn 104 = .ok (.invokevirtual 38, 3) := by decide +kernel
theorem dX2_takeIn_107 : decode cX2_takeIn 107 = .ok (.iinc 6 1, 3) := by decide +kernel
theorem dX2_takeIn_110 : decode cX2_takeIn 110 = .ok (.goto (-85), 3) := by decide +kernel
theorem dX2_takeIn_113 : decode cX2_takeIn 113 = .ok (.return_, 1) := by decide +kernel
theorem dX2_whole_0 : decode cX2_whole 0 = .ok (.aload_n 0, 1) := by decide +kernel
theorem dX2_whole_1 : decode cX2_whole 1 = .ok (.getfield 14, 3) := by decide +kernel
theorem dX2_whole_4 : decode cX2_whole 4 = .ok (.aload_n 0, 1) := by decide +kernel
theorem dX2_whole_5 : decode cX2_whole 5 = .ok (.getfield 14, 3) := by decide +kernel
theorem dX2_whole_8 : decode cX2_whole 8 = .ok (.invokevirtual 27, 3) := by decide +kernel
theorem dX2_whole_11 : decode cX2_whole 11 = .ok (.iconst 1, 1) := by decide +kernel
theorem dX2_whole_12 : decode cX2_whole 12 = .ok (.isub, 1) := by decide +kernel
theorem dX2_whole_13 : decode cX2_whole 13 = .ok (.invokevirtual 20, 3) := by decide +kernel
theorem dX2_whole_16 : decode cX2_whole 16 = .ok (.ireturn, 1) := by decide +kernel
theorem dX2_leastRest_0 : decode cX2_leastRest 0 = .ok (.iconst 0, 1) := by decide +kernel
theorem dX2_leastRest_1 : decode cX2_leastRest 1 = .ok (.istore_n 2, 1) := by decide +kernel
theorem dX2_leastRest_2 : decode cX2_leastRest 2 = .ok (.iload_n 2, 1) := by decide +kernel
theorem dX2_leastRest_3 : decode cX2_leastRest 3 = .ok (.aload_n 0, 1) := by decide +kernel
theorem dX2_leastRest_4 : decode cX2_leastRest 4 = .ok (.getfield 14, 3) := by decide +kernel
theorem dX2_leastRest_7 : decode cX2_leastRest 7 = .ok (.invokevirtual 27, 3) := by decide +kernel
theorem dX2_leastRest_10 : decode cX2_leastRest 10 = .ok (.if_icmp .ge 33, 3) := by decide +kernel
theorem dX2_leastRest_13 : decode cX2_leastRest 13 = .ok (.aload_n 0, 1) := by decide +kernel
theorem dX2_leastRest_14 : decode cX2_leastRest 14 = .ok (.getfield 14, 3) := by decide +kernel
theorem dX2_leastRest_17 : decode cX2_leastRest 17 = .ok (.aload_n 0, 1) := by decide +kernel
theorem dX2_leastRest_18 : decode cX2_leastRest 18 = .ok (.getfield 14, 3) := by decide +kernel
theorem dX2_leastRest_21 : decode cX2_leastRest 21 = .ok (.invokevirtual 27, 3) := by decide +kernel
theorem dX2_leastRest_24 : decode cX2_leastRest 24 = .ok (.iconst 1, 1) := by decide +kernel
theorem dX2_leastRest_25 : decode cX2_leastRest 25 = .ok (.isub, 1) := by decide +kernel
theorem dX2_leastRest_26 : decode cX2_leastRest 26 = .ok (.iload_n 2, 1) := by decide +kernel
theorem dX2_leastRest_27 : decode cX2_leastRest 27 = .ok (.isub, 1) := by decide +kernel
theorem dX2_leastRest_28 : decode cX2_leastRest 28 = .ok (.invokevirtual 20, 3) := by decide +kernel
theorem dX2_leastRest_31 : decode cX2_leastRest 31 = .ok (.iload_n 1, 1) := by decide +kernel
theorem dX2_leastRest_32 : decode cX2_leastRest 32 = .ok (.if_icmp .gt 5, 3) := by decide +kernel
theorem dX2_leastRest_35 : decode cX2_leastRest 35 = .ok (.iload_n 2, 1) := by decide +kernel
theorem dX2_leastRest_36 : decode cX2_leastRest 36 = .ok (.ireturn, 1) := by decide +kernel
theorem dX2_leastRest_37 : decode cX2_leastRest 37 = .ok (.iinc 2 1, 3) := by decide +kernel
theorem dX2_leastRest_40 : decode cX2_leastRest 40 = .ok (.goto (-38), 3) := by decide +kernel
theorem dX2_leastRest_43 : decode cX2_leastRest 43 = .ok (.iconst (-1), 1) := by decide +kernel
theorem dX2_leastRest_44 : decode cX2_leastRest 44 = .ok (.ireturn, 1) := by decide +kernel
theorem dX3_init_0 : decode cX3_init 0 = .ok (.aload_n 0, 1) := by decide +kernel
theorem dX3_init_1 : decode cX3_init 1 = .ok (.invokespecial 3, 3) := by decide +kernel
theorem dX3_init_4 : decode cX3_init 4 = .ok (.aload_n 0, 1) := by decide +kernel
theorem dX3_init_5 : decode cX3_init 5 = .ok (.new 9, 3) := by decide +kernel
theorem dX3_init_8 : decode cX3_init 8 = .ok (.dup, 1) := by decide +kernel
theorem dX3_init_9 : decode cX3_init 9 = .ok (.bipush 41, 2) := by decide +kernel
theorem dX3_init_11 : decode cX3_init 11 = .ok (.invokespecial 11, 3) := by decide +kernel
theorem dX3_init_14 : decode cX3_init 14 = .ok (.putfield 14, 3) := by decide +kernel
theorem dX3_init_17 : decode cX3_init 17 = .ok (.aload_n 0, 1) := by decide +kernel
theorem dX3_init_18 : decode cX3_init 18 = .ok (.new 9, 3) := by decide +kernel
theorem dX3_init_21 : decode cX3_init 21 = .ok (.dup, 1) := by decide +kernel
theorem dX3_init_22 : decode cX3_init 22 = .ok (.bipush 41, 2) := by decide +kernel
theorem dX3_init_24 : decode cX3_init 24 = .ok (.invokespecial 11, 3) := by decide +kernel
theorem dX3_init_27 : decode cX3_init 27 = .ok (.putfield 20, 3) := by decide +kernel
theorem dX3_init_30 : decode cX3_init 30 = .ok (.return_, 1) := by decide +kernel
theorem dX3_held_0 : decode cX3_held 0 = .ok (.aload_n 0, 1) := by decide +kernel
theorem dX3_held_1 : decode cX3_held 1 = .ok (.getfield 14, 3) := by decide +kernel
theorem dX3_held_4 : decode cX3_held 4 = .ok (.invokevirtual 23, 3) := by decide +kernel
theorem dX3_held_7 : decode cX3_held 7 = .ok (.ireturn, 1) := by decide +kernel
theorem dX3_x_0 : decode cX3_x 0 = .ok (.aload_n 0, 1) := by decide +kernel
theorem dX3_x_1 : decode cX3_x 1 = .ok (.getfield 14, 3) := by decide +kernel
theorem dX3_x_4 : decode cX3_x 4 = .ok (.iload_n 1, 1) := by decide +kernel
theorem dX3_x_5 : decode cX3_x 5 = .ok (.invokevirtual 27, 3) := by decide +kernel
theorem dX3_x_8 : decode cX3_x 8 = .ok (.ireturn, 1) := by decide +kernel
theorem dX3_y_0 : decode cX3_y 0 = .ok (.aload_n 0, 1) := by decide +kernel
theorem dX3_y_1 : decode cX3_y 1 = .ok (.getfield 20, 3) := by decide +kernel
theorem dX3_y_4 : decode cX3_y 4 = .ok (.iload_n 1, 1) := by decide +kernel
theorem dX3_y_5 : decode cX3_y 5 = .ok (.invokevirtual 27, 3) := by decide +kernel
theorem dX3_y_8 : decode cX3_y 8 = .ok (.ireturn, 1) := by decide +kernel
theorem dX3_add_0 : decode cX3_add 0 = .ok (.aload_n 0, 1) := by decide +kernel
theorem dX3_add_1 : decode cX3_add 1 = .ok (.getfield 14, 3) := by decide +kernel
theorem dX3_add_4 : decode cX3_add 4 = .ok (.iload_n 1, 1) := by decide +kernel
theorem dX3_add_5 : decode cX3_add 5 = .ok (.invokevirtual 31, 3) := by decide +kernel
theorem dX3_add_8 : decode cX3_add 8 = .ok (.aload_n 0, 1) := by decide +kernel
theorem dX3_add_9 : decode cX3_add 9 = .ok (.getfield 20, 3) := by decide +kernel
theorem dX3_add_12 : decode cX3_add 12 = .ok (.iload_n 2, 1) := by decide +kernel
theorem dX3_add_13 : decode cX3_add 13 = .ok (.invokevirtual 31, 3) := by decide +kernel
theorem dX3_add_16 : decode cX3_add 16 = .ok (.return_, 1) := by decide +kernel
theorem dX3_cut_0 : decode cX3_cut 0 = .ok (.aload_n 0, 1) := by decide +kernel
theorem dX3_cut_1 : decode cX3_cut 1 = .ok (.getfield 14, 3) := by decide +kernel
theorem dX3_cut_4 : decode cX3_cut 4 = .ok (.iload_n 1, 1) := by decide +kernel
theorem dX3_cut_5 : decode cX3_cut 5 = .ok (.invokevirtual 34, 3) := by decide +kernel
theorem dX3_cut_8 : decode cX3_cut 8 = .ok (.aload_n 0, 1) := by decide +kernel
theorem dX3_cut_9 : decode cX3_cut 9 = .ok (.getfield 20, 3) := by decide +kernel
theorem dX3_cut_12 : decode cX3_cut 12 = .ok (.iload_n 1, 1) := by decide +kernel
theorem dX3_cut_13 : decode cX3_cut 13 = .ok (.invokevirtual 34, 3) := by decide +kernel
theorem dX3_cut_16 : decode cX3_cut 16 = .ok (.return_, 1) := by decide +kernel
theorem dX3_copy_0 : decode cX3_copy 0 = .ok (.aload_n 0, 1) := by decide +kernel
theorem dX3_copy_1 : decode cX3_copy 1 = .ok (.getfield 14, 3) := by decide +kernel
theorem dX3_copy_4 : decode cX3_copy 4 = .ok (.aload_n 1, 1) := by decide +kernel
theorem dX3_copy_5 : decode cX3_copy 5 = .ok (.getfield 14, 3) := by decide +kernel
theorem dX3_copy_8 : decode cX3_copy 8 = .ok (.invokevirtual 37, 3) := by decide +kernel
theorem dX3_copy_11 : decode cX3_copy 11 = .ok (.aload_n 0, 1) := by decide +kernel
theorem dX3_copy_12 : decode cX3_copy 12 = .ok (.getfield 20, 3) := by decide +kernel
theorem dX3_copy_15 : decode cX3_copy 15 = .ok (.aload_n 1, 1) := by decide +kernel
theorem dX3_copy_16 : decode cX3_copy 16 = .ok (.getfield 20, 3) := by decide +kernel
theorem dX3_copy_19 : decode cX3_copy 19 = .ok (.invokevirtual 37, 3) := by decide +kernel
theorem dX3_copy_22 : decode cX3_copy 22 = .ok (.return_, 1) := by decide +kernel
theorem dX3_directionTo_0 : decode cX3_directionTo 0 = .ok (.aload_n 0, 1) := by decide +kernel
theorem dX3_directionTo_1 : decode cX3_directionTo 1 = .ok (.getfield 14, 3) := by decide +kernel
theorem dX3_directionTo_4 : decode cX3_directionTo 4 = .ok (.iload_n 1, 1) := by decide +kernel
theorem dX3_directionTo_5 : decode cX3_directionTo 5 = .ok (.invokestatic 41, 3) := by decide +kernel
theorem dX3_directionTo_8 : decode cX3_directionTo 8 = .ok (.invokestatic 45, 3) := by decide +kernel
theorem dX3_directionTo_11 : decode cX3_directionTo 11 = .ok (.istore_n 2, 1) := by decide +kernel
theorem dX3_directionTo_12 : decode cX3_directionTo 12 = .ok (.aload_n 0, 1) := by decide +kernel
theorem dX3_directionTo_13 : decode cX3_directionTo 13 = .ok (.getfield 20, 3) := by decide +kernel
theorem dX3_directionTo_16 : decode cX3_directionTo 16 = .ok (.iload_n 1, 1) := by decide +kernel
theorem dX3_directionTo_17 : decode cX3_directionTo 17 = .ok (.invokestatic 41, 3) := by decide +kernel
theorem dX3_directionTo_20 : decode cX3_directionTo 20 = .ok (.invokestatic 45, 3) := by decide +kernel
theorem dX3_directionTo_23 : decode cX3_directionTo 23 = .ok (.istore_n 3, 1) := by decide +kernel
theorem dX3_directionTo_24 : decode cX3_directionTo 24 = .ok (.iconst 0, 1) := by decide +kernel
theorem dX3_directionTo_25 : decode cX3_directionTo 25 = .ok (.istore 4, 2) := by decide +kernel
theorem dX3_directionTo_27 : decode cX3_directionTo 27 = .ok (.iload 4, 2) := by decide +kernel
theorem dX3_directionTo_29 : decode cX3_directionTo 29 = .ok (.bipush 8, 2) := by decide +kernel
theorem dX3_directionTo_31 : decode cX3_directionTo 31 = .ok (.if_icmp .ge 36, 3) := by decide +kernel
theorem dX3_directionTo_34 : decode cX3_directionTo 34 = .ok (.getstatic 50, 3) := by decide +kernel
theorem dX3_directionTo_37 : decode cX3_directionTo 37 = .ok (.iload 4, 2) := by decide +kernel
theorem dX3_directionTo_39 : decode cX3_directionTo 39 = .ok (.invokestatic 54, 3) := by decide +kernel
theorem dX3_directionTo_42 : decode cX3_directionTo 42 = .ok (.iload_n 2, 1) := by decide +kernel
theorem dX3_directionTo_43 : decode cX3_directionTo 43 = .ok (.if_icmp .ne 18, 3) := by decide +kernel
theorem dX3_directionTo_46 : decode cX3_directionTo 46 = .ok (.getstatic 58, 3) := by decide +kernel
theorem dX3_directionTo_49 : decode cX3_directionTo 49 = .ok (.iload 4, 2) := by decide +kernel
theorem dX3_directionTo_51 : decode cX3_directionTo 51 = .ok (.invokestatic 54, 3) := by decide +kernel
theorem dX3_directionTo_54 : decode cX3_directionTo 54 = .ok (.iload_n 3, 1) := by decide +kernel
theorem dX3_directionTo_55 : decode cX3_directionTo 55 = .ok (.if_icmp .ne 6, 3) := by decide +kernel
theorem dX3_directionTo_58 : decode cX3_directionTo 58 = .ok (.iload 4, 2) := by decide +kernel
theorem dX3_directionTo_60 : decode cX3_directionTo 60 = .ok (.ireturn, 1) := by decide +kernel
theorem dX3_directionTo_61 : decode cX3_directionTo 61 = .ok (.iinc 4 1, 3) := by decide +kernel
theorem dX3_directionTo_64 : decode cX3_directionTo 64 = .ok (.goto (-37), 3) := by decide +kernel
theorem dX3_directionTo_67 : decode cX3_directionTo 67 = .ok (.iconst (-1), 1) := by decide +kernel
theorem dX3_directionTo_68 : decode cX3_directionTo 68 = .ok (.ireturn, 1) := by decide +kernel
theorem dX3_lengthTo_0 : decode cX3_lengthTo 0 = .ok (.aload_n 0, 1) := by decide +kernel
theorem dX3_lengthTo_1 : decode cX3_lengthTo 1 = .ok (.getfield 14, 3) := by decide +kernel
theorem dX3_lengthTo_4 : decode cX3_lengthTo 4 = .ok (.iload_n 1, 1) := by decide +kernel
theorem dX3_lengthTo_5 : decode cX3_lengthTo 5 = .ok (.invokestatic 41, 3) := by decide +kernel
theorem dX3_lengthTo_8 : decode cX3_lengthTo 8 = .ok (.invokestatic 61, 3) := by decide +kernel
theorem dX3_lengthTo_11 : decode cX3_lengthTo 11 = .ok (.aload_n 0, 1) := by decide +kernel
theorem dX3_lengthTo_12 : decode cX3_lengthTo 12 = .ok (.getfield 20, 3) := by decide +kernel
theorem dX3_lengthTo_15 : decode cX3_lengthTo 15 = .ok (.iload_n 1, 1) := by decide +kernel
theorem dX3_lengthTo_16 : decode cX3_lengthTo 16 = .ok (.invokestatic 41, 3) := by decide +kernel
theorem dX3_lengthTo_19 : decode cX3_lengthTo 19 = .ok (.invokestatic 61, 3) := by decide +kernel
theorem dX3_lengthTo_22 : decode cX3_lengthTo 22 = .ok (.invokestatic 66, 3) := by decide +kernel
theorem dX3_lengthTo_25 : decode cX3_lengthTo 25 = .ok (.ireturn, 1) := by decide +kernel
theorem dX3_isEvenTo_0 : decode cX3_isEvenTo 0 = .ok (.aload_n 0, 1) := by decide +kernel
theorem dX3_isEvenTo_1 : decode cX3_isEvenTo 1 = .ok (.getfield 14, 3) := by decide +kernel
theorem dX3_isEvenTo_4 : decode cX3_isEvenTo 4 = .ok (.iload_n 1, 1) := by decide +kernel
theorem dX3_isEvenTo_5 : decode cX3_isEvenTo 5 = .ok (.invokestatic 41, 3) := by decide +kernel
theorem dX3_isEvenTo_8 : decode cX3_isEvenTo 8 = .ok (.invokestatic 61, 3) := by decide +kernel
theorem dX3_isEvenTo_11 : decode cX3_isEvenTo 11 = .ok (.istore_n 2, 1) := by decide +kernel
theorem dX3_isEvenTo_12 : decode cX3_isEvenTo 12 = .ok (.aload_n 0, 1) := by decide +kernel
theorem dX3_isEvenTo_13 : decode cX3_isEvenTo 13 = .ok (.getfield 20, 3) := by decide +kernel
theorem dX3_isEvenTo_16 : decode cX3_isEvenTo 16 = .ok (.iload_n 1, 1) := by decide +kernel
theorem dX3_isEvenTo_17 : decode cX3_isEvenTo 17 = .ok (.invokestatic 41, 3) := by decide +kernel
theorem dX3_isEvenTo_20 : decode cX3_isEvenTo 20 = .ok (.invokestatic 61, 3) := by decide +kernel
theorem dX3_isEvenTo_23 : decode cX3_isEvenTo 23 = .ok (.istore_n 3, 1) := by decide +kernel
theorem dX3_isEvenTo_24 : decode cX3_isEvenTo 24 = .ok (.iload_n 2, 1) := by decide +kernel
theorem dX3_isEvenTo_25 : decode cX3_isEvenTo 25 = .ok (.ifCond .eq 12, 3) := by decide +kernel
theorem dX3_isEvenTo_28 : decode cX3_isEvenTo 28 = .ok (.iload_n 3, 1) := by decide +kernel
theorem dX3_isEvenTo_29 : decode cX3_isEvenTo 29 = .ok (.ifCond .eq 8, 3) := by decide +kernel
theorem dX3_isEvenTo_32 : decode cX3_isEvenTo 32 = .ok (.iload_n 2, 1) := by decide +kernel
theorem dX3_isEvenTo_33 : decode cX3_isEvenTo 33 = .ok (.iload_n 3, 1) := by decide +kernel
theorem dX3_isEvenTo_34 : decode cX3_isEvenTo 34 = .ok (.if_icmp .ne 7, 3) := by decide +kernel
theorem dX3_isEvenTo_37 : decode cX3_isEvenTo 37 = .ok (.iconst 1, 1) := by decide +kernel
theorem dX3_isEvenTo_38 : decode cX3_isEvenTo 38 = .ok (.goto 4, 3) := by decide +kernel
theorem dX3_isEvenTo_41 : decode cX3_isEvenTo 41 = .ok (.iconst 0, 1) := by decide +kernel
theorem dX3_isEvenTo_42 : decode cX3_isEvenTo 42 = .ok (.ireturn, 1) := by decide +kernel
theorem dX3_reach_0 : decode cX3_reach 0 = .ok (.aload_n 0, 1) := by decide +kernel
theorem dX3_reach_1 : decode cX3_reach 1 = .ok (.invokevirtual 70, 3) := by decide +kernel
theorem dX3_reach_4 : decode cX3_reach 4 = .ok (.iconst 1, 1) := by decide +kernel
theorem dX3_reach_5 : decode cX3_reach 5 = .ok (.isub, 1) := by decide +kernel
theorem dX3_reach_6 : decode cX3_reach 6 = .ok (.istore_n 1, 1) := by decide +kernel
theorem dX3_reach_7 : decode cX3_reach 7 = .ok (.aload_n 0, 1) := by decide +kernel
theorem dX3_reach_8 : decode cX3_reach 8 = .ok (.getfield 14, 3) := by decide +kernel
theorem dX3_reach_11 : decode cX3_reach 11 = .ok (.iload_n 1, 1) := by decide +kernel
theorem dX3_reach_12 : decode cX3_reach 12 = .ok (.invokevirtual 27, 3) := by decide +kernel
theorem dX3_reach_15 : decode cX3_reach 15 = .ok (.aload_n 0, 1) := by decide +kernel
theorem dX3_reach_16 : decode cX3_reach 16 = .ok (.getfield 14, 3) := by decide +kernel
theorem dX3_reach_19 : decode cX3_reach 19 = .ok (.iconst 0, 1) := by decide +kernel
theorem dX3_reach_20 : decode cX3_reach 20 = .ok (.invokevirtual 27, 3) := by decide +kernel
theorem dX3_reach_23 : decode cX3_reach 23 = .ok (.isub, 1) := by decide +kernel
theorem dX3_reach_24 : decode cX3_reach 24 = .ok (.invokestatic 61, 3) := by decide +kernel
theorem dX3_reach_27 : decode cX3_reach 27 = .ok (.aload_n 0, 1) := by decide +kernel
theorem dX3_reach_28 : decode cX3_reach 28 = .ok (.getfield 20, 3) := by decide +kernel
theorem dX3_reach_31 : decode cX3_reach 31 = .ok (.iload_n 1, 1) := by decide +kernel
theorem dX3_reach_32 : decode cX3_reach 32 = .ok (.invokevirtual 27, 3) := by decide +kernel
theorem dX3_reach_35 : decode cX3_reach 35 = .ok (.aload_n 0, 1) := by decide +kernel
theorem dX3_reach_36 : decode cX3_reach 36 = .ok (.getfield 20, 3) := by decide +kernel
theorem dX3_reach_39 : decode cX3_reach 39 = .ok (.iconst 0, 1) := by decide +kernel
theorem dX3_reach_40 : decode cX3_reach 40 = .ok (.invokevirtual 27, 3) := by decide +kernel
theorem dX3_reach_43 : decode cX3_reach 43 = .ok (.isub, 1) := by decide +kernel
theorem dX3_reach_44 : decode cX3_reach 44 = .ok (.invokestatic 61, 3) := by decide +kernel
theorem dX3_reach_47 : decode cX3_reach 47 = .ok (.invokestatic 66, 3) := by decide +kernel
theorem dX3_reach_50 : decode cX3_reach 50 = .ok (.ireturn, 1) := by decide +kernel
theorem dX3_difference_0 : decode cX3_difference 0 = .ok (.iload_n 1, 1) := by decide +kernel
theorem dX3_difference_1 : decode cX3_difference 1 = .ok (.iconst 1, 1) := by decide +kernel
theorem dX3_difference_2 : decode cX3_difference 2 = .ok (.if_icmp .lt 11, 3) := by decide +kernel
theorem dX3_difference_5 : decode cX3_difference 5 = .ok (.iload_n 1, 1) := by decide +kernel
theorem dX3_difference_6 : decode cX3_difference 6 = .ok (.aload_n 0, 1) := by decide +kernel
theorem dX3_difference_7 : decode cX3_difference 7 = .ok (.invokevirtual 23, 3) := by decide +kernel
theorem dX3_difference_10 : decode cX3_difference 10 = .ok (.if_icmp .lt 5, 3) := by decide +kernel
theorem dX3_difference_13 : decode cX3_difference 13 = .ok (.iconst 0, 1) := by decide +kernel
theorem dX3_difference_14 : decode cX3_difference 14 = .ok (.ireturn, 1) := by decide +kernel
theorem dX3_difference_15 : decode cX3_difference 15 = .ok (.aload_n 0, 1) := by decide +kernel
theorem dX3_difference_16 : decode cX3_difference 16 = .ok (.iload_n 1, 1) := by decide +kernel
theorem dX3_difference_17 : decode cX3_difference 17 = .ok (.invokevirtual 27, 3) := by decide +kernel
theorem dX3_difference_20 : decode cX3_difference 20 = .ok (.aload_n 0, 1) := by decide +kernel
theorem dX3_difference_21 : decode cX3_difference 21 = .ok (.iload_n 1, 1) := by decide +kernel
theorem dX3_difference_22 : decode cX3_difference 22 = .ok (.iconst 1, 1) := by decide +kernel
theorem dX3_difference_23 : decode cX3_difference 23 = .ok (.isub, 1) := by decide +kernel
theorem dX3_difference_24 : decode cX3_difference 24 = .ok (.invokevirtual 27, 3) := by decide +kernel
theorem dX3_difference_27 : decode cX3_difference 27 = .ok (.isub, 1) := by decide +kernel
theorem dX3_difference_28 : decode cX3_difference 28 = .ok (.ireturn, 1) := by decide +kernel
theorem dX4_init_0 : decode cX4_init 0 = .ok (.aload_n 0, 1) := by decide +kernel
theorem dX4_init_1 : decode cX4_init 1 = .ok (.invokespecial 3, 3) := by decide +kernel
theorem dX4_init_4 : decode cX4_init 4 = .ok (.aload_n 0, 1) := by decide +kernel
theorem dX4_init_5 : decode cX4_init 5 = .ok (.iload_n 1, 1) := by decide +kernel
theorem dX4_init_6 : decode cX4_init 6 = .ok (.ifCond .le 7, 3) := by decide +kernel
theorem dX4_init_9 : decode cX4_init 9 = .ok (.iload_n 1, 1) := by decide +kernel
theorem dX4_init_10 : decode cX4_init 10 = .ok (.goto 4, 3) := by decide +kernel
theorem dX4_init_13 : decode cX4_init 13 = .ok (.iconst 0, 1) := by decide +kernel
theorem dX4_init_14 : decode cX4_init 14 = .ok (.newarray .int, 2) := by decide +kernel
theorem dX4_init_16 : decode cX4_init 16 = .ok (.putfield 9, 3) := by decide +kernel
theorem dX4_init_19 : decode cX4_init 19 = .ok (.aload_n 0, 1) := by decide +kernel
theorem dX4_init_20 : decode cX4_init 20 = .ok (.iconst 0, 1) := by decide +kernel
theorem dX4_init_21 : decode cX4_init 21 = .ok (.putfield 15, 3) := by decide +kernel
theorem dX4_init_24 : decode cX4_init 24 = .ok (.return_, 1) := by decide +kernel
theorem dX4_held_0 : decode cX4_held 0 = .ok (.aload_n 0, 1) := by decide +kernel
theorem dX4_held_1 : decode cX4_held 1 = .ok (.getfield 15, 3) := by decide +kernel
theorem dX4_held_4 : decode cX4_held 4 = .ok (.ireturn, 1) := by decide +kernel
theorem dX4_at_0 : decode cX4_at 0 = .ok (.iload_n 1, 1) := by decide +kernel
theorem dX4_at_1 : decode cX4_at 1 = .ok (.ifCond .lt 29, 3) := by decide +kernel
theorem dX4_at_4 : decode cX4_at 4 = .ok (.iload_n 1, 1) := by decide +kernel
theorem dX4_at_5 : decode cX4_at 5 = .ok (.aload_n 0, 1) := by decide +kernel
theorem dX4_at_6 : decode cX4_at 6 = .ok (.getfield 15, 3) := by decide +kernel
theorem dX4_at_9 : decode cX4_at 9 = .ok (.if_icmp .ge 21, 3) := by decide +kernel
theorem dX4_at_12 : decode cX4_at 12 = .ok (.iload_n 1, 1) := by decide +kernel
theorem dX4_at_13 : decode cX4_at 13 = .ok (.aload_n 0, 1) := by decide +kernel
theorem dX4_at_14 : decode cX4_at 14 = .ok (.getfield 9, 3) := by decide +kernel
theorem dX4_at_17 : decode cX4_at 17 = .ok (.arraylength, 1) := by decide +kernel
theorem dX4_at_18 : decode cX4_at 18 = .ok (.if_icmp .ge 12, 3) := by decide +kernel
theorem dX4_at_21 : decode cX4_at 21 = .ok (.aload_n 0, 1) := by decide +kernel
theorem dX4_at_22 : decode cX4_at 22 = .ok (.getfield 9, 3) := by decide +kernel
theorem dX4_at_25 : decode cX4_at 25 = .ok (.iload_n 1, 1) := by decide +kernel
theorem dX4_at_26 : decode cX4_at 26 = .ok (.iaload, 1) := by decide +kernel
theorem dX4_at_27 : decode cX4_at 27 = .ok (.goto 4, 3) := by decide +kernel
theorem dX4_at_30 : decode cX4_at 30 = .ok (.iconst (-1), 1) := by decide +kernel
theorem dX4_at_31 : decode cX4_at 31 = .ok (.ireturn, 1) := by decide +kernel
theorem dX4_put_0 : decode cX4_put 0 = .ok (.iload_n 1, 1) := by decide +kernel
theorem dX4_put_1 : decode cX4_put 1 = .ok (.ifCond .lt 27, 3) := by decide +kernel
theorem dX4_put_4 : decode cX4_put 4 = .ok (.iload_n 1, 1) := by decide +kernel
theorem dX4_put_5 : decode cX4_put 5 = .ok (.aload_n 0, 1) := by decide +kernel
theorem dX4_put_6 : decode cX4_put 6 = .ok (.getfield 15, 3) := by decide +kernel
theorem dX4_put_9 : decode cX4_put 9 = .ok (.if_icmp .ge 19, 3) := by decide +kernel
theorem dX4_put_12 : decode cX4_put 12 = .ok (.iload_n 1, 1) := by decide +kernel
theorem dX4_put_13 : decode cX4_put 13 = .ok (.aload_n 0, 1) := by decide +kernel
theorem dX4_put_14 : decode cX4_put 14 = .ok (.getfield 9, 3) := by decide +kernel
theorem dX4_put_17 : decode cX4_put 17 = .ok (.arraylength, 1) := by decide +kernel
theorem dX4_put_18 : decode cX4_put 18 = .ok (.if_icmp .ge 10, 3) := by decide +kernel
theorem dX4_put_21 : decode cX4_put 21 = .ok (.aload_n 0, 1) := by decide +kernel
theorem dX4_put_22 : decode cX4_put 22 = .ok (.getfield 9, 3) := by decide +kernel
theorem dX4_put_25 : decode cX4_put 25 = .ok (.iload_n 1, 1) := by decide +kernel
theorem dX4_put_26 : decode cX4_put 26 = .ok (.iload_n 2, 1) := by decide +kernel
theorem dX4_put_27 : decode cX4_put 27 = .ok (.iastore, 1) := by decide +kernel
theorem dX4_put_28 : decode cX4_put 28 = .ok (.return_, 1) := by decide +kernel
theorem dX4_add_0 : decode cX4_add 0 = .ok (.aload_n 0, 1) := by decide +kernel
theorem dX4_add_1 : decode cX4_add 1 = .ok (.getfield 15, 3) := by decide +kernel
theorem dX4_add_4 : decode cX4_add 4 = .ok (.ifCond .lt 35, 3) := by decide +kernel
theorem dX4_add_7 : decode cX4_add 7 = .ok (.aload_n 0, 1) := by decide +kernel
theorem dX4_add_8 : decode cX4_add 8 = .ok (.getfield 15, 3) := by decide +kernel
theorem dX4_add_11 : decode cX4_add 11 = .ok (.aload_n 0, 1) := by decide +kernel
theorem dX4_add_12 : decode cX4_add 12 = .ok (.getfield 9, 3) := by decide +kernel
theorem dX4_add_15 : decode cX4_add 15 = .ok (.arraylength, 1) := by decide +kernel
theorem dX4_add_16 : decode cX4_add 16 = .ok (.if_icmp .ge 23, 3) := by decide +kernel
theorem dX4_add_19 : decode cX4_add 19 = .ok (.aload_n 0, 1) := by decide +kernel
theorem dX4_add_20 : decode cX4_add 20 = .ok (.getfield 9, 3) := by decide +kernel
theorem dX4_add_23 : decode cX4_add 23 = .ok (.aload_n 0, 1) := by decide +kernel
theorem dX4_add_24 : decode cX4_add 24 = .ok (.getfield 15, 3) := by decide +kernel
theorem dX4_add_27 : decode cX4_add 27 = .ok (.iload_n 1, 1) := by decide +kernel
theorem dX4_add_28 : decode cX4_add 28 = .ok (.iastore, 1) := by decide +kernel
theorem dX4_add_29 : decode cX4_add 29 = .ok (.aload_n 0, 1) := by decide +kernel
theorem dX4_add_30 : decode cX4_add 30 = .ok (.dup, 1) := by decide +kernel
theorem dX4_add_31 : decode cX4_add 31 = .ok (.getfield 15, 3) := by decide +kernel
theorem dX4_add_34 : decode cX4_add 34 = .ok (.iconst 1, 1) := by decide +kernel
theorem dX4_add_35 : decode cX4_add 35 = .ok (.iadd, 1) := by decide +kernel
theorem dX4_add_36 : decode cX4_add 36 = .ok (.putfield 15, 3) := by decide +kernel
theorem dX4_add_39 : decode cX4_add 39 = .ok (.return_, 1) := by decide +kernel
theorem dX4_cut_0 : decode cX4_cut 0 = .ok (.iload_n 1, 1) := by decide +kernel
theorem dX4_cut_1 : decode cX4_cut 1 = .ok (.ifCond .lt 16, 3) := by decide +kernel
theorem dX4_cut_4 : decode cX4_cut 4 = .ok (.iload_n 1, 1) := by decide +kernel
theorem dX4_cut_5 : decode cX4_cut 5 = .ok (.aload_n 0, 1) := by decide +kernel
theorem dX4_cut_6 : decode cX4_cut 6 = .ok (.getfield 15, 3) := by decide +kernel
theorem dX4_cut_9 : decode cX4_cut 9 = .ok (.if_icmp .ge 8, 3) := by decide +kernel
theorem dX4_cut_12 : decode cX4_cut 12 = .ok (.aload_n 0, 1) := by decide +kernel
theorem dX4_cut_13 : decode cX4_cut 13 = .ok (.iload_n 1, 1) := by decide +kernel
theorem dX4_cut_14 : decode cX4_cut 14 = .ok (.putfield 15, 3) := by decide +kernel
theorem dX4_cut_17 : decode cX4_cut 17 = .ok (.return_, 1) := by decide +kernel
theorem dX4_clear_0 : decode cX4_clear 0 = .ok (.aload_n 0, 1) := by decide +kernel
theorem dX4_clear_1 : decode cX4_clear 1 = .ok (.iconst 0, 1) := by decide +kernel
theorem dX4_clear_2 : decode cX4_clear 2 = .ok (.putfield 15, 3) := by decide +kernel
theorem dX4_clear_5 : decode cX4_clear 5 = .ok (.return_, 1) := by decide +kernel
theorem dX4_remove_0 : decode cX4_remove 0 = .ok (.iload_n 1, 1) := by decide +kernel
theorem dX4_remove_1 : decode cX4_remove 1 = .ok (.ifCond .lt 11, 3) := by decide +kernel
theorem dX4_remove_4 : decode cX4_remove 4 = .ok (.iload_n 1, 1) := by decide +kernel
theorem dX4_remove_5 : decode cX4_remove 5 = .ok (.aload_n 0, 1) := by decide +kernel
theorem dX4_remove_6 : decode cX4_remove 6 = .ok (.getfield 15, 3) := by decide +kernel
theorem dX4_remove_9 : decode cX4_remove 9 = .ok (.if_icmp .lt 4, 3) := by decide +kernel
theorem dX4_remove_12 : decode cX4_remove 12 = .ok (.return_, 1) := by decide +kernel
theorem dX4_remove_13 : decode cX4_remove 13 = .ok (.iload_n 1, 1) := by decide +kernel
theorem dX4_remove_14 : decode cX4_remove 14 = .ok (.iconst 1, 1) := by decide +kernel
theorem dX4_remove_15 : decode cX4_remove 15 = .ok (.iadd, 1) := by decide +kernel
theorem dX4_remove_16 : decode cX4_remove 16 = .ok (.istore_n 2, 1) := by decide +kernel
theorem dX4_remove_17 : decode cX4_remove 17 = .ok (.iload_n 2, 1) := by decide +kernel
theorem dX4_remove_18 : decode cX4_remove 18 = .ok (.aload_n 0, 1) := by decide +kernel
theorem dX4_remove_19 : decode cX4_remove 19 = .ok (.getfield 15, 3) := by decide +kernel
theorem dX4_remove_22 : decode cX4_remove 22 = .ok (.if_icmp .ge 21, 3) := by decide +kernel
theorem dX4_remove_25 : decode cX4_remove 25 = .ok (.aload_n 0, 1) := by decide +kernel
theorem dX4_remove_26 : decode cX4_remove 26 = .ok (.iload_n 2, 1) := by decide +kernel
theorem dX4_remove_27 : decode cX4_remove 27 = .ok (.iconst 1, 1) := by decide +kernel
theorem dX4_remove_28 : decode cX4_remove 28 = .ok (.isub, 1) := by decide +kernel
theorem dX4_remove_29 : decode cX4_remove 29 = .ok (.aload_n 0, 1) := by decide +kernel
theorem dX4_remove_30 : decode cX4_remove 30 = .ok (.iload_n 2, 1) := by decide +kernel
theorem dX4_remove_31 : decode cX4_remove 31 = .ok (.invokevirtual 19, 3) := by decide +kernel
theorem dX4_remove_34 : decode cX4_remove 34 = .ok (.invokevirtual 23, 3) := by decide +kernel
theorem dX4_remove_37 : decode cX4_remove 37 = .ok (.iinc 2 1, 3) := by decide +kernel
theorem dX4_remove_40 : decode cX4_remove 40 = .ok (.goto (-23), 3) := by decide +kernel
theorem dX4_remove_43 : decode cX4_remove 43 = .ok (.aload_n 0, 1) := by decide +kernel
theorem dX4_remove_44 : decode cX4_remove 44 = .ok (.dup, 1) := by decide +kernel
theorem dX4_remove_45 : decode cX4_remove 45 = .ok (.getfield 15, 3) := by decide +kernel
theorem dX4_remove_48 : decode cX4_remove 48 = .ok (.iconst 1, 1) := by decide +kernel
theorem dX4_remove_49 : decode cX4_remove 49 = .ok (.isub, 1) := by decide +kernel
theorem dX4_remove_50 : decode cX4_remove 50 = .ok (.putfield 15, 3) := by decide +kernel
theorem dX4_remove_53 : decode cX4_remove 53 = .ok (.return_, 1) := by decide +kernel
theorem dX4_copy_0 : decode cX4_copy 0 = .ok (.aload_n 0, 1) := by decide +kernel
theorem dX4_copy_1 : decode cX4_copy 1 = .ok (.iconst 0, 1) := by decide +kernel
theorem dX4_copy_2 : decode cX4_copy 2 = .ok (.putfield 15, 3) := by decide +kernel
theorem dX4_copy_5 : decode cX4_copy 5 = .ok (.iconst 0, 1) := by decide +kernel
theorem dX4_copy_6 : decode cX4_copy 6 = .ok (.istore_n 2, 1) := by decide +kernel
theorem dX4_copy_7 : decode cX4_copy 7 = .ok (.iload_n 2, 1) := by decide +kernel
theorem dX4_copy_8 : decode cX4_copy 8 = .ok (.aload_n 1, 1) := by decide +kernel
theorem dX4_copy_9 : decode cX4_copy 9 = .ok (.getfield 15, 3) := by decide +kernel
theorem dX4_copy_12 : decode cX4_copy 12 = .ok (.if_icmp .ge 18, 3) := by decide +kernel
theorem dX4_copy_15 : decode cX4_copy 15 = .ok (.aload_n 0, 1) := by decide +kernel
theorem dX4_copy_16 : decode cX4_copy 16 = .ok (.aload_n 1, 1) := by decide +kernel
theorem dX4_copy_17 : decode cX4_copy 17 = .ok (.iload_n 2, 1) := by decide +kernel
theorem dX4_copy_18 : decode cX4_copy 18 = .ok (.invokevirtual 19, 3) := by decide +kernel
theorem dX4_copy_21 : decode cX4_copy 21 = .ok (.invokevirtual 27, 3) := by decide +kernel
theorem dX4_copy_24 : decode cX4_copy 24 = .ok (.iinc 2 1, 3) := by decide +kernel
theorem dX4_copy_27 : decode cX4_copy 27 = .ok (.goto (-20), 3) := by decide +kernel
theorem dX4_copy_30 : decode cX4_copy 30 = .ok (.return_, 1) := by decide +kernel
theorem dX4_sum_0 : decode cX4_sum 0 = .ok (.iconst 0, 1) := by decide +kernel
theorem dX4_sum_1 : decode cX4_sum 1 = .ok (.istore_n 1, 1) := by decide +kernel
theorem dX4_sum_2 : decode cX4_sum 2 = .ok (.iconst 0, 1) := by decide +kernel
theorem dX4_sum_3 : decode cX4_sum 3 = .ok (.istore_n 2, 1) := by decide +kernel
theorem dX4_sum_4 : decode cX4_sum 4 = .ok (.iload_n 2, 1) := by decide +kernel
theorem dX4_sum_5 : decode cX4_sum 5 = .ok (.aload_n 0, 1) := by decide +kernel
theorem dX4_sum_6 : decode cX4_sum 6 = .ok (.getfield 15, 3) := by decide +kernel
theorem dX4_sum_9 : decode cX4_sum 9 = .ok (.if_icmp .ge 17, 3) := by decide +kernel
theorem dX4_sum_12 : decode cX4_sum 12 = .ok (.iload_n 1, 1) := by decide +kernel
theorem dX4_sum_13 : decode cX4_sum 13 = .ok (.aload_n 0, 1) := by decide +kernel
theorem dX4_sum_14 : decode cX4_sum 14 = .ok (.iload_n 2, 1) := by decide +kernel
theorem dX4_sum_15 : decode cX4_sum 15 = .ok (.invokevirtual 19, 3) := by decide +kernel
theorem dX4_sum_18 : decode cX4_sum 18 = .ok (.iadd, 1) := by decide +kernel
theorem dX4_sum_19 : decode cX4_sum 19 = .ok (.istore_n 1, 1) := by decide +kernel
theorem dX4_sum_20 : decode cX4_sum 20 = .ok (.iinc 2 1, 3) := by decide +kernel
theorem dX4_sum_23 : decode cX4_sum 23 = .ok (.goto (-19), 3) := by decide +kernel
theorem dX4_sum_26 : decode cX4_sum 26 = .ok (.iload_n 1, 1) := by decide +kernel
theorem dX4_sum_27 : decode cX4_sum 27 = .ok (.ireturn, 1) := by decide +kernel
theorem dX5_init_0 : decode cX5_init 0 = .ok (.aload_n 0, 1) := by decide +kernel
theorem dX5_init_1 : decode cX5_init 1 = .ok (.invokespecial 3, 3) := by decide +kernel
theorem dX5_init_4 : decode cX5_init 4 = .ok (.aload_n 0, 1) := by decide +kernel
theorem dX5_init_5 : decode cX5_init 5 = .ok (.new 9, 3) := by decide +kernel
theorem dX5_init_8 : decode cX5_init 8 = .ok (.dup, 1) := by decide +kernel
theorem dX5_init_9 : decode cX5_init 9 = .ok (.invokespecial 11, 3) := by decide +kernel
theorem dX5_init_12 : decode cX5_init 12 = .ok (.putfield 12, 3) := by decide +kernel
theorem dX5_init_15 : decode cX5_init 15 = .ok (.aload_n 0, 1) := by decide +kernel
theorem dX5_init_16 : decode cX5_init 16 = .ok (.new 18, 3) := by decide +kernel
theorem dX5_init_19 : decode cX5_init 19 = .ok (.dup, 1) := by decide +kernel
theorem dX5_init_20 : decode cX5_init 20 = .ok (.invokespecial 20, 3) := by decide +kernel
theorem dX5_init_23 : decode cX5_init 23 = .ok (.putfield 21, 3) := by decide +kernel
theorem dX5_init_26 : decode cX5_init 26 = .ok (.aload_n 0, 1) := by decide +kernel
theorem dX5_init_27 : decode cX5_init 27 = .ok (.new 25, 3) := by decide +kernel
theorem dX5_init_30 : decode cX5_init 30 = .ok (.dup, 1) := by decide +kernel
theorem dX5_init_31 : decode cX5_init 31 = .ok (.iconst 5, 1) := by decide +kernel
theorem dX5_init_32 : decode cX5_init 32 = .ok (.invokespecial 27, 3) := by decide +kernel
theorem dX5_init_35 : decode cX5_init 35 = .ok (.putfield 30, 3) := by decide +kernel
theorem dX5_init_38 : decode cX5_init 38 = .ok (.iconst 0, 1) := by decide +kernel
theorem dX5_init_39 : decode cX5_init 39 = .ok (.istore_n 1, 1) := by decide +kernel
theorem dX5_init_40 : decode cX5_init 40 = .ok (.iload_n 1, 1) := by decide +kernel
theorem dX5_init_41 : decode cX5_init 41 = .ok (.iconst 5, 1) := by decide +kernel
theorem dX5_init_42 : decode cX5_init 42 = .ok (.if_icmp .ge 23, 3) := by decide +kernel
theorem dX5_init_45 : decode cX5_init 45 = .ok (.aload_n 0, 1) := by decide +kernel
theorem dX5_init_46 : decode cX5_init 46 = .ok (.getfield 30, 3) := by decide +kernel
theorem dX5_init_49 : decode cX5_init 49 = .ok (.getstatic 34, 3) := by decide +kernel
theorem dX5_init_52 : decode cX5_init 52 = .ok (.iload_n 1, 1) := by decide +kernel
theorem dX5_init_53 : decode cX5_init 53 = .ok (.invokestatic 38, 3) := by decide +kernel
theorem dX5_init_56 : decode cX5_init 56 = .ok (.invokevirtual 42, 3) := by decide +kernel
theorem dX5_init_59 : decode cX5_init 59 = .ok (.iinc 1 1, 3) := by decide +kernel
theorem dX5_init_62 : decode cX5_init 62 = .ok (.goto (-22), 3) := by decide +kernel
theorem dX5_init_65 : decode cX5_init 65 = .ok (.return_, 1) := by decide +kernel
theorem dX5_copy_0 : decode cX5_copy 0 = .ok (.aload_n 0, 1) := by decide +kernel
theorem dX5_copy_1 : decode cX5_copy 1 = .ok (.getfield 12, 3) := by decide +kernel
theorem dX5_copy_4 : decode cX5_copy 4 = .ok (.aload_n 1, 1) := by decide +kernel
theorem dX5_copy_5 : decode cX5_copy 5 = .ok (.getfield 12, 3) := by decide +kernel
theorem dX5_copy_8 : decode cX5_copy 8 = .ok (.invokevirtual 45, 3) := by decide +kernel
theorem dX5_copy_11 : decode cX5_copy 11 = .ok (.aload_n 0, 1) := by decide +kernel
theorem dX5_copy_12 : decode cX5_copy 12 = .ok (.getfield 21, 3) := by decide +kernel
theorem dX5_copy_15 : decode cX5_copy 15 = .ok (.aload_n 1, 1) := by decide +kernel
theorem dX5_copy_16 : decode cX5_copy 16 = .ok (.getfield 21, 3) := by decide +kernel
theorem dX5_copy_19 : decode cX5_copy 19 = .ok (.invokevirtual 49, 3) := by decide +kernel
theorem dX5_copy_22 : decode cX5_copy 22 = .ok (.aload_n 0, 1) := by decide +kernel
theorem dX5_copy_23 : decode cX5_copy 23 = .ok (.getfield 30, 3) := by decide +kernel
theorem dX5_copy_26 : decode cX5_copy 26 = .ok (.aload_n 1, 1) := by decide +kernel
theorem dX5_copy_27 : decode cX5_copy 27 = .ok (.getfield 30, 3) := by decide +kernel
theorem dX5_copy_30 : decode cX5_copy 30 = .ok (.invokevirtual 52, 3) := by decide +kernel
theorem dX5_copy_33 : decode cX5_copy 33 = .ok (.return_, 1) := by decide +kernel
theorem dX6_init_0 : decode cX6_init 0 = .ok (.aload_n 0, 1) := by decide +kernel
theorem dX6_init_1 : decode cX6_init 1 = .ok (.invokespecial 3, 3) := by decide +kernel
theorem dX6_init_4 : decode cX6_init 4 = .ok (.aload_n 0, 1) := by decide +kernel
theorem dX6_init_5 : decode cX6_init 5 = .ok (.new 9, 3) := by decide +kernel
theorem dX6_init_8 : decode cX6_init 8 = .ok (.dup, 1) := by decide +kernel
theorem dX6_init_9 : decode cX6_init 9 = .ok (.invokespecial 11, 3) := by decide +kernel
theorem dX6_init_12 : decode cX6_init 12 = .ok (.putfield 12, 3) := by decide +kernel
theorem dX6_init_15 : decode cX6_init 15 = .ok (.aload_n 0, 1) := by decide +kernel
theorem dX6_init_16 : decode cX6_init 16 = .ok (.new 18, 3) := by decide +kernel
theorem dX6_init_19 : decode cX6_init 19 = .ok (.dup, 1) := by decide +kernel
theorem dX6_init_20 : decode cX6_init 20 = .ok (.bipush 40, 2) := by decide +kernel
theorem dX6_init_22 : decode cX6_init 22 = .ok (.invokespecial 20, 3) := by decide +kernel
theorem dX6_init_25 : decode cX6_init 25 = .ok (.putfield 23, 3) := by decide +kernel
theorem dX6_init_28 : decode cX6_init 28 = .ok (.aload_n 0, 1) := by decide +kernel
theorem dX6_init_29 : decode cX6_init 29 = .ok (.new 18, 3) := by decide +kernel
theorem dX6_init_32 : decode cX6_init 32 = .ok (.dup, 1) := by decide +kernel
theorem dX6_init_33 : decode cX6_init 33 = .ok (.bipush 40, 2) := by decide +kernel
theorem dX6_init_35 : decode cX6_init 35 = .ok (.invokespecial 20, 3) := by decide +kernel
theorem dX6_init_38 : decode cX6_init 38 = .ok (.putfield 27, 3) := by decide +kernel
theorem dX6_init_41 : decode cX6_init 41 = .ok (.aload_n 0, 1) := by decide +kernel
theorem dX6_init_42 : decode cX6_init 42 = .ok (.new 18, 3) := by decide +kernel
theorem dX6_init_45 : decode cX6_init 45 = .ok (.dup, 1) := by decide +kernel
theorem dX6_init_46 : decode cX6_init 46 = .ok (.bipush 40, 2) := by decide +kernel
theorem dX6_init_48 : decode cX6_init 48 = .ok (.invokespecial 20, 3) := by decide +kernel
theorem dX6_init_51 : decode cX6_init 51 = .ok (.putfield 30, 3) := by decide +kernel
theorem dX6_init_54 : decode cX6_init 54 = .ok (.aload_n 0, 1) := by decide +kernel
theorem dX6_init_55 : decode cX6_init 55 = .ok (.new 18, 3) := by decide +kernel
theorem dX6_init_58 : decode cX6_init 58 = .ok (.dup, 1) := by decide +kernel
theorem dX6_init_59 : decode cX6_init 59 = .ok (.bipush 40, 2) := by decide +kernel
theorem dX6_init_61 : decode cX6_init 61 = .ok (.invokespecial 20, 3) := by decide +kernel
theorem dX6_init_64 : decode cX6_init 64 = .ok (.putfield 33, 3) := by decide +kernel
theorem dX6_init_67 : decode cX6_init 67 = .ok (.aload_n 0, 1) := by decide +kernel
theorem dX6_init_68 : decode cX6_init 68 = .ok (.new 18, 3) := by decide +kernel
theorem dX6_init_71 : decode cX6_init 71 = .ok (.dup, 1) := by decide +kernel
theorem dX6_init_72 : decode cX6_init 72 = .ok (.bipush 10, 2) := by decide +kernel
theorem dX6_init_74 : decode cX6_init 74 = .ok (.invokespecial 20, 3) := by decide +kernel
theorem dX6_init_77 : decode cX6_init 77 = .ok (.putfield 36, 3) := by decide +kernel
theorem dX6_init_80 : decode cX6_init 80 = .ok (.aload_n 0, 1) := by decide +kernel
theorem dX6_init_81 : decode cX6_init 81 = .ok (.new 18, 3) := by decide +kernel
theorem dX6_init_84 : decode cX6_init 84 = .ok (.dup, 1) := by decide +kernel
theorem dX6_init_85 : decode cX6_init 85 = .ok (.bipush 10, 2) := by decide +kernel
theorem dX6_init_87 : decode cX6_init 87 = .ok (.invokespecial 20, 3) := by decide +kernel
theorem dX6_init_90 : decode cX6_init 90 = .ok (.putfield 39, 3) := by decide +kernel
theorem dX6_init_93 : decode cX6_init 93 = .ok (.aload_n 0, 1) := by decide +kernel
theorem dX6_init_94 : decode cX6_init 94 = .ok (.iconst 0, 1) := by decide +kernel
theorem dX6_init_95 : decode cX6_init 95 = .ok (.putfield 42, 3) := by decide +kernel
theorem dX6_init_98 : decode cX6_init 98 = .ok (.return_, 1) := by decide +kernel
theorem dX6_look_0 : decode cX6_look 0 = .ok (.aload_n 0, 1) := by decide +kernel
theorem dX6_look_1 : decode cX6_look 1 = .ok (.aload_n 1, 1) := by decide +kernel
theorem dX6_look_2 : decode cX6_look 2 = .ok (.invokevirtual 46, 3) := by decide +kernel
theorem dX6_look_5 : decode cX6_look 5 = .ok (.aload_n 0, 1) := by decide +kernel
theorem dX6_look_6 : decode cX6_look 6 = .ok (.aload_n 2, 1) := by decide +kernel
theorem dX6_look_7 : decode cX6_look 7 = .ok (.getfield 50, 3) := by decide +kernel
theorem dX6_look_10 : decode cX6_look 10 = .ok (.invokevirtual 55, 3) := by decide +kernel
theorem dX6_look_13 : decode cX6_look 13 = .ok (.aload_n 0, 1) := by decide +kernel
theorem dX6_look_14 : decode cX6_look 14 = .ok (.getfield 36, 3) := by decide +kernel
theorem dX6_look_17 : decode cX6_look 17 = .ok (.invokevirtual 59, 3) := by decide +kernel
theorem dX6_look_20 : decode cX6_look 20 = .ok (.aload_n 0, 1) := by decide +kernel
theorem dX6_look_21 : decode cX6_look 21 = .ok (.getfield 39, 3) := by decide +kernel
theorem dX6_look_24 : decode cX6_look 24 = .ok (.invokevirtual 59, 3) := by decide +kernel
theorem dX6_look_27 : decode cX6_look 27 = .ok (.iconst 0, 1) := by decide +kernel
theorem dX6_look_28 : decode cX6_look 28 = .ok (.istore_n 3, 1) := by decide +kernel
theorem dX6_look_29 : decode cX6_look 29 = .ok (.iload_n 3, 1) := by decide +kernel
theorem dX6_look_30 : decode cX6_look 30 = .ok (.aload_n 2, 1) := by decide +kernel
theorem dX6_look_31 : decode cX6_look 31 = .ok (.getfield 62, 3) := by decide +kernel
theorem dX6_look_34 : decode cX6_look 34 = .ok (.invokevirtual 66, 3) := by decide +kernel
theorem dX6_look_37 : decode cX6_look 37 = .ok (.if_icmp .ge 68, 3) := by decide +kernel
theorem dX6_look_40 : decode cX6_look 40 = .ok (.aload_n 0, 1) := by decide +kernel
theorem dX6_look_41 : decode cX6_look 41 = .ok (.getfield 12, 3) := by decide +kernel
theorem dX6_look_44 : decode cX6_look 44 = .ok (.aload_n 0, 1) := by decide +kernel
theorem dX6_look_45 : decode cX6_look 45 = .ok (.getfield 30, 3) := by decide +kernel
theorem dX6_look_48 : decode cX6_look 48 = .ok (.aload_n 2, 1) := by decide +kernel
theorem dX6_look_49 : decode cX6_look 49 = .ok (.getfield 62, 3) := by decide +kernel
theorem dX6_look_52 : decode cX6_look 52 = .ok (.iload_n 3, 1) := by decide +kernel
theorem dX6_look_53 : decode cX6_look 53 = .ok (.invokevirtual 72, 3) := by decide +kernel
theorem dX6_look_56 : decode cX6_look 56 = .ok (.aload_n 2, 1) := by decide +kernel
theorem dX6_look_57 : decode cX6_look 57 = .ok (.getfield 50, 3) := by decide +kernel
theorem dX6_look_60 : decode cX6_look 60 = .ok (.invokevirtual 75, 3) := by decide +kernel
theorem dX6_look_63 : decode cX6_look 63 = .ok (.aload_n 0, 1) := by decide +kernel
theorem dX6_look_64 : decode cX6_look 64 = .ok (.getfield 36, 3) := by decide +kernel
theorem dX6_look_67 : decode cX6_look 67 = .ok (.aload_n 0, 1) := by decide +kernel
theorem dX6_look_68 : decode cX6_look 68 = .ok (.getfield 12, 3) := by decide +kernel
theorem dX6_look_71 : decode cX6_look 71 = .ok (.invokevirtual 79, 3) := by decide +kernel
theorem dX6_look_74 : decode cX6_look 74 = .ok (.invokevirtual 82, 3) := by decide +kernel
theorem dX6_look_77 : decode cX6_look 77 = .ok (.aload_n 0, 1) := by decide +kernel
theorem dX6_look_78 : decode cX6_look 78 = .ok (.getfield 39, 3) := by decide +kernel
theorem dX6_look_81 : decode cX6_look 81 = .ok (.aload_n 0, 1) := by decide +kernel
theorem dX6_look_82 : decode cX6_look 82 = .ok (.getfield 12, 3) := by decide +kernel
theorem dX6_look_85 : decode cX6_look 85 = .ok (.aload_n 2, 1) := by decide +kernel
theorem dX6_look_86 : decode cX6_look 86 = .ok (.getfield 50, 3) := by decide +kernel
theorem dX6_look_89 : decode cX6_look 89 = .ok (.iconst 4, 1) := by decide +kernel
theorem dX6_look_90 : decode cX6_look 90 = .ok (.invokevirtual 85, 3) := by decide +kernel
theorem dX6_look_93 : decode cX6_look 93 = .ok (.invokevirtual 89, 3) := by decide +kernel
theorem dX6_look_96 : decode cX6_look 96 = .ok (.invokevirtual 82, 3) := by decide +kernel
theorem dX6_look_99 : decode cX6_look 99 = .ok (.iinc 3 1, 3) := by decide +kernel
theorem dX6_look_102 : decode cX6_look 102 = .ok (.goto (-73), 3) := by decide +kernel
theorem dX6_look_105 : decode cX6_look 105 = .ok (.return_, 1) := by decide +kernel
theorem dX6_findRuns_0 : decode cX6_findRuns 0 = .ok (.aload_n 0, 1) := by decide +kernel
theorem dX6_findRuns_1 : decode cX6_findRuns 1 = .ok (.getfield 23, 3) := by decide +kernel
theorem dX6_findRuns_4 : decode cX6_findRuns 4 = .ok (.invokevirtual 59, 3) := by decide +kernel
theorem dX6_findRuns_7 : decode cX6_findRuns 7 = .ok (.aload_n 0, 1) := by decide +kernel
theorem dX6_findRuns_8 : decode cX6_findRuns 8 = .ok (.getfield 27, 3) := by decide +kernel
theorem dX6_findRuns_11 : decode cX6_findRuns 11 = .ok (.invokevirtual 59, 3) := by decide +kernel
theorem dX6_findRuns_14 : decode cX6_findRuns 14 = .ok (.iconst 1, 1) := by decide +kernel
theorem dX6_findRuns_15 : decode cX6_findRuns 15 = .ok (.istore_n 2, 1) := by decide +kernel
theorem dX6_findRuns_16 : decode cX6_findRuns 16 = .ok (.iload_n 2, 1) := by decide +kernel
theorem dX6_findRuns_17 : decode cX6_findRuns 17 = .ok (.aload_n 1, 1) := by decide +kernel
theorem dX6_findRuns_18 : decode cX6_findRuns 18 = .ok (.invokevirtual 92, 3) := by decide +kernel
theorem dX6_findRuns_21 : decode cX6_findRuns 21 = .ok (.if_icmp .ge 96, 3) := by decide +kernel
theorem dX6_findRuns_24 : decode cX6_findRuns 24 = .ok (.aload_n 1, 1) := by decide +kernel
theorem dX6_findRuns_25 : decode cX6_findRuns 25 = .ok (.iload_n 2, 1) := by decide +kernel
theorem dX6_findRuns_26 : decode cX6_findRuns 26 = .ok (.invokevirtual 95, 3) := by decide +kernel
theorem dX6_findRuns_29 : decode cX6_findRuns 29 = .ok (.istore_n 3, 1) := by decide +kernel
theorem dX6_findRuns_30 : decode cX6_findRuns 30 = .ok (.aload_n 0, 1) := by decide +kernel
theorem dX6_findRuns_31 : decode cX6_findRuns 31 = .ok (.getfield 23, 3) := by decide +kernel
theorem dX6_findRuns_34 : decode cX6_findRuns 34 = .ok (.invokevirtual 98, 3) := by decide +kernel
theorem dX6_findRuns_37 : decode cX6_findRuns 37 = .ok (.iconst 1, 1) := by decide +kernel
theorem dX6_findRuns_38 : decode cX6_findRuns 38 = .ok (.isub, 1) := by decide +kernel
theorem dX6_findRuns_39 : decode cX6_findRuns 39 = .ok (.istore 4, 2) := by decide +kernel
theorem dX6_findRuns_41 : decode cX6_findRuns 41 = .ok (.iload_n 3, 1) := by decide +kernel
theorem dX6_findRuns_42 : decode cX6_findRuns 42 = .ok (.iconst (-1), 1) := by decide +kernel
theorem dX6_findRuns_43 : decode cX6_findRuns 43 = .ok (.if_icmp .eq 43, 3) := by decide +kernel
theorem dX6_findRuns_46 : decode cX6_findRuns 46 = .ok (.iload_n 3, 1) := by decide +kernel
theorem dX6_findRuns_47 : decode cX6_findRuns 47 = .ok (.aload_n 0, 1) := by decide +kernel
theorem dX6_findRuns_48 : decode cX6_findRuns 48 = .ok (.getfield 23, 3) := by decide +kernel
theorem dX6_findRuns_51 : decode cX6_findRuns 51 = .ok (.iload 4, 2) := by decide +kernel
theorem dX6_findRuns_53 : decode cX6_findRuns 53 = .ok (.invokevirtual 85, 3) := by decide +kernel
theorem dX6_findRuns_56 : decode cX6_findRuns 56 = .ok (.if_icmp .ne 30, 3) := by decide +kernel
theorem dX6_findRuns_59 : decode cX6_findRuns 59 = .ok (.aload_n 0, 1) := by decide +kernel
theorem dX6_findRuns_60 : decode cX6_findRuns 60 = .ok (.getfield 27, 3) := by decide +kernel
theorem dX6_findRuns_63 : decode cX6_findRuns 63 = .ok (.iload 4, 2) := by decide +kernel
theorem dX6_findRuns_65 : decode cX6_findRuns 65 = .ok (.aload_n 0, 1) := by decide +kernel
theorem dX6_findRuns_66 : decode cX6_findRuns 66 = .ok (.getfield 27, 3) := by decide +kernel
theorem dX6_findRuns_69 : decode cX6_findRuns 69 = .ok (.iload 4, 2) := by decide +kernel
theorem dX6_findRuns_71 : decode cX6_findRuns 71 = .ok (.invokevirtual 85, 3) := by decide +kernel
theorem dX6_findRuns_74 : decode cX6_findRuns 74 = .ok (.aload_n 1, 1) := by decide +kernel
theorem dX6_findRuns_75 : decode cX6_findRuns 75 = .ok (.iload_n 2, 1) := by decide +kernel
theorem dX6_findRuns_76 : decode cX6_findRuns 76 = .ok (.invokevirtual 99, 3) := by decide +kernel
theorem dX6_findRuns_79 : decode cX6_findRuns 79 = .ok (.iadd, 1) := by decide +kernel
theorem dX6_findRuns_80 : decode cX6_findRuns 80 = .ok (.invokevirtual 102, 3) := by decide +kernel
theorem dX6_findRuns_83 : decode cX6_findRuns 83 = .ok (.goto 28, 3) := by decide +kernel
theorem dX6_findRuns_86 : decode cX6_findRuns 86 = .ok (.iload_n 3, 1) := by decide +kernel
theorem dX6_findRuns_87 : decode cX6_findRuns 87 = .ok (.iconst (-1), 1) := by decide +kernel
theorem dX6_findRuns_88 : decode cX6_findRuns 88 = .ok (.if_icmp .eq 23, 3) := by decide +kernel
theorem dX6_findRuns_91 : decode cX6_findRuns 91 = .ok (.aload_n 0, 1) := by decide +kernel
theorem dX6_findRuns_92 : decode cX6_findRuns 92 = .ok (.getfield 23, 3) := by decide +kernel
theorem dX6_findRuns_95 : decode cX6_findRuns 95 = .ok (.iload_n 3, 1) := by decide +kernel
theorem dX6_findRuns_96 : decode cX6_findRuns 96 = .ok (.invokevirtual 82, 3) := by decide +kernel
theorem dX6_findRuns_99 : decode cX6_findRuns 99 = .ok (.aload_n 0, 1) := by decide +kernel
theorem dX6_findRuns_100 : decode cX6_findRuns 100 = .ok (.getfield 27, 3) := by decide +kernel
theorem dX6_findRuns_103 : decode cX6_findRuns 103 = .ok (.aload_n 1, 1) := by decide +kernel
theorem dX6_findRuns_104 : decode cX6_findRuns 104 = .ok (.iload_n 2, 1) := by decide +kernel
theorem dX6_findRuns_105 : decode cX6_findRuns 105 = .ok (.invokevirtual 99, 3) := by decide +kernel
theorem dX6_findRuns_108 : decode cX6_findRuns 108 = .ok (.invokevirtual 82, 3) := by decide +kernel
theorem dX6_findRuns_111 : decode cX6_findRuns 111 = .ok (.iinc 2 1, 3) := by decide +kernel
theorem dX6_findRuns_114 : decode cX6_findRuns 114 = .ok (.goto (-98), 3) := by decide +kernel
theorem dX6_findRuns_117 : decode cX6_findRuns 117 = .ok (.return_, 1) := by decide +kernel
theorem dX6_forgive_0 : decode cX6_forgive 0 = .ok (.aload_n 0, 1) := by decide +kernel
theorem dX6_forgive_1 : decode cX6_forgive 1 = .ok (.getfield 30, 3) := by decide +kernel
theorem dX6_forgive_4 : decode cX6_forgive 4 = .ok (.aload_n 0, 1) := by decide +kernel
theorem dX6_forgive_5 : decode cX6_forgive 5 = .ok (.getfield 23, 3) := by decide +kernel
theorem dX6_forgive_8 : decode cX6_forgive 8 = .ok (.invokevirtual 106, 3) := by decide +kernel
theorem dX6_forgive_11 : decode cX6_forgive 11 = .ok (.aload_n 0, 1) := by decide +kernel
theorem dX6_forgive_12 : decode cX6_forgive 12 = .ok (.getfield 33, 3) := by decide +kernel
theorem dX6_forgive_15 : decode cX6_forgive 15 = .ok (.aload_n 0, 1) := by decide +kernel
theorem dX6_forgive_16 : decode cX6_forgive 16 = .ok (.getfield 27, 3) := by decide +kernel
theorem dX6_forgive_19 : decode cX6_forgive 19 = .ok (.invokevirtual 106, 3) := by decide +kernel
theorem dX6_forgive_22 : decode cX6_forgive 22 = .ok (.aload_n 0, 1) := by decide +kernel
theorem dX6_forgive_23 : decode cX6_forgive 23 = .ok (.iconst 0, 1) := by decide +kernel
theorem dX6_forgive_24 : decode cX6_forgive 24 = .ok (.putfield 42, 3) := by decide +kernel
theorem dX6_forgive_27 : decode cX6_forgive 27 = .ok (.iconst 0, 1) := by decide +kernel
theorem dX6_forgive_28 : decode cX6_forgive 28 = .ok (.istore_n 2, 1) := by decide +kernel
theorem dX6_forgive_29 : decode cX6_forgive 29 = .ok (.iload_n 2, 1) := by decide +kernel
theorem dX6_forgive_30 : decode cX6_forgive 30 = .ok (.bipush 40, 2) := by decide +kernel
theorem dX6_forgive_32 : decode cX6_forgive 32 = .ok (.if_icmp .ge 37, 3) := by decide +kernel
theorem dX6_forgive_35 : decode cX6_forgive 35 = .ok (.aload_n 0, 1) := by decide +kernel
theorem dX6_forgive_36 : decode cX6_forgive 36 = .ok (.getfield 30, 3) := by decide +kernel
theorem dX6_forgive_39 : decode cX6_forgive 39 = .ok (.invokevirtual 98, 3) := by decide +kernel
theorem dX6_forgive_42 : decode cX6_forgive 42 = .ok (.iconst 1, 1) := by decide +kernel
theorem dX6_forgive_43 : decode cX6_forgive 43 = .ok (.if_icmp .le 26, 3) := by decide +kernel
theorem dX6_forgive_46 : decode cX6_forgive 46 = .ok (.aload_n 0, 1) := by decide +kernel
theorem dX6_forgive_47 : decode cX6_forgive 47 = .ok (.aload_n 1, 1) := by decide +kernel
theorem dX6_forgive_48 : decode cX6_forgive 48 = .ok (.invokevirtual 109, 3) := by decide +kernel
theorem dX6_forgive_51 : decode cX6_forgive 51 = .ok (.istore_n 3, 1) := by decide +kernel
theorem dX6_forgive_52 : decode cX6_forgive 52 = .ok (.iload_n 3, 1) := by decide +kernel
theorem dX6_forgive_53 : decode cX6_forgive 53 = .ok (.iconst (-1), 1) := by decide +kernel
theorem dX6_forgive_54 : decode cX6_forgive 54 = .ok (.if_icmp .ne 4, 3) := by decide +kernel
theorem dX6_forgive_57 : decode cX6_forgive 57 = .ok (.return_, 1) := by decide +kernel
theorem dX6_forgive_58 : decode cX6_forgive 58 = .ok (.aload_n 0, 1) := by decide +kernel
theorem dX6_forgive_59 : decode cX6_forgive 59 = .ok (.iload_n 3, 1) := by decide +kernel
theorem dX6_forgive_60 : decode cX6_forgive 60 = .ok (.invokevirtual 113, 3) := by decide +kernel
theorem dX6_forgive_63 : decode cX6_forgive 63 = .ok (.iinc 2 1, 3) := by decide +kernel
theorem dX6_forgive_66 : decode cX6_forgive 66 = .ok (.goto (-37), 3) := by decide +kernel
theorem dX6_forgive_69 : decode cX6_forgive 69 = .ok (.return_, 1) := by decide +kernel
theorem dX6_firstToDrop_0 : decode cX6_firstToDrop 0 = .ok (.iconst 0, 1) := by decide +kernel
theorem dX6_firstToDrop_1 : decode cX6_firstToDrop 1 = .ok (.istore_n 2, 1) := by decide +kernel
theorem dX6_firstToDrop_2 : decode cX6_firstToDrop 2 = .ok (.iload_n 2, 1) := by decide +kernel
theorem dX6_firstToDrop_3 : decode cX6_firstToDrop 3 = .ok (.aload_n 0, 1) := by decide +kernel
theorem dX6_firstToDrop_4 : decode cX6_firstToDrop 4 = .ok (.getfield 30, 3) := by decide +kernel
theorem dX6_firstToDrop_7 : decode cX6_firstToDrop 7 = .ok (.invokevirtual 98, 3) := by decide +kernel
theorem dX6_firstToDrop_10 : decode cX6_firstToDrop 10 = .ok (.if_icmp .ge 47, 3) := by decide +kernel
theorem dX6_firstToDrop_13 : decode cX6_firstToDrop 13 = .ok (.aload_n 0, 1) := by decide +kernel
theorem dX6_firstToDrop_14 : decode cX6_firstToDrop 14 = .ok (.getfield 33, 3) := by decide +kernel
theorem dX6_firstToDrop_17 : decode cX6_firstToDrop 17 = .ok (.iload_n 2, 1) := by decide +kernel
theorem dX6_firstToDrop_18 : decode cX6_firstToDrop 18 = .ok (.invokevirtual 85, 3) := by decide +kernel
theorem dX6_firstToDrop_21 : decode cX6_firstToDrop 21 = .ok (.aload_n 1, 1) := by decide +kernel
theorem dX6_firstToDrop_22 : decode cX6_firstToDrop 22 = .ok (.iconst 0, 1) := by decide +kernel
theorem dX6_firstToDrop_23 : decode cX6_firstToDrop 23 = .ok (.invokevirtual 85, 3) := by decide +kernel
theorem dX6_firstToDrop_26 : decode cX6_firstToDrop 26 = .ok (.if_icmp .lt 23, 3) := by decide +kernel
theorem dX6_firstToDrop_29 : decode cX6_firstToDrop 29 = .ok (.aload_n 0, 1) := by decide +kernel
theorem dX6_firstToDrop_30 : decode cX6_firstToDrop 30 = .ok (.getfield 30, 3) := by decide +kernel
theorem dX6_firstToDrop_33 : decode cX6_firstToDrop 33 = .ok (.aload_n 0, 1) := by decide +kernel
theorem dX6_firstToDrop_34 : decode cX6_firstToDrop 34 = .ok (.getfield 33, 3) := by decide +kernel
theorem dX6_firstToDrop_37 : decode cX6_firstToDrop 37 = .ok (.iload_n 2, 1) := by decide +kernel
theorem dX6_firstToDrop_38 : decode cX6_firstToDrop 38 = .ok (.aload_n 1, 1) := by decide +kernel
theorem dX6_firstToDrop_39 : decode cX6_firstToDrop 39 = .ok (.iconst 1, 1) := by decide +kernel
theorem dX6_firstToDrop_40 : decode cX6_firstToDrop 40 = .ok (.invokevirtual 85, 3) := by decide +kernel
theorem dX6_firstToDrop_43 : decode cX6_firstToDrop 43 = .ok (.invokestatic 116, 3) := by decide +kernel
theorem dX6_firstToDrop_46 : decode cX6_firstToDrop 46 = .ok (.ifCond .eq 5, 3) := by decide +kernel
theorem dX6_firstToDrop_49 : decode cX6_firstToDrop 49 = .ok (.iload_n 2, 1) := by decide +kernel
theorem dX6_firstToDrop_50 : decode cX6_firstToDrop 50 = .ok (.ireturn, 1) := by decide +kernel
theorem dX6_firstToDrop_51 : decode cX6_firstToDrop 51 = .ok (.iinc 2 1, 3) := by decide +kernel
theorem dX6_firstToDrop_54 : decode cX6_firstToDrop 54 = .ok (.goto (-52), 3) := by decide +kernel
theorem dX6_firstToDrop_57 : decode cX6_firstToDrop 57 = .ok (.iconst (-1), 1) := by decide +kernel
theorem dX6_firstToDrop_58 : decode cX6_firstToDrop 58 = .ok (.ireturn, 1) := by decide +kernel
theorem dX6_drop_0 : decode cX6_drop 0 = .ok (.aload_n 0, 1) := by decide +kernel
theorem dX6_drop_1 : decode cX6_drop 1 = .ok (.getfield 30, 3) := by decide +kernel
theorem dX6_drop_4 : decode cX6_drop 4 = .ok (.iload_n 1, 1) := by decide +kernel
theorem dX6_drop_5 : decode cX6_drop 5 = .ok (.invokevirtual 120, 3) := by decide +kernel
theorem dX6_drop_8 : decode cX6_drop 8 = .ok (.aload_n 0, 1) := by decide +kernel
theorem dX6_drop_9 : decode cX6_drop 9 = .ok (.getfield 33, 3) := by decide +kernel
theorem dX6_drop_12 : decode cX6_drop 12 = .ok (.iload_n 1, 1) := by decide +kernel
theorem dX6_drop_13 : decode cX6_drop 13 = .ok (.invokevirtual 120, 3) := by decide +kernel
theorem dX6_drop_16 : decode cX6_drop 16 = .ok (.aload_n 0, 1) := by decide +kernel
theorem dX6_drop_17 : decode cX6_drop 17 = .ok (.dup, 1) := by decide +kernel
theorem dX6_drop_18 : decode cX6_drop 18 = .ok (.getfield 42, 3) := by decide +kernel
theorem dX6_drop_21 : decode cX6_drop 21 = .ok (.iconst 1, 1) := by decide +kernel
theorem dX6_drop_22 : decode cX6_drop 22 = .ok (.iadd, 1) := by decide +kernel
theorem dX6_drop_23 : decode cX6_drop 23 = .ok (.putfield 42, 3) := by decide +kernel
theorem dX6_drop_26 : decode cX6_drop 26 = .ok (.iload_n 1, 1) := by decide +kernel
theorem dX6_drop_27 : decode cX6_drop 27 = .ok (.iconst 1, 1) := by decide +kernel
theorem dX6_drop_28 : decode cX6_drop 28 = .ok (.if_icmp .lt 80, 3) := by decide +kernel
theorem dX6_drop_31 : decode cX6_drop 31 = .ok (.iload_n 1, 1) := by decide +kernel
theorem dX6_drop_32 : decode cX6_drop 32 = .ok (.aload_n 0, 1) := by decide +kernel
theorem dX6_drop_33 : decode cX6_drop 33 = .ok (.getfield 30, 3) := by decide +kernel
theorem dX6_drop_36 : decode cX6_drop 36 = .ok (.invokevirtual 98, 3) := by decide +kernel
theorem dX6_drop_39 : decode cX6_drop 39 = .ok (.if_icmp .ge 69, 3) := by decide +kernel
theorem dX6_drop_42 : decode cX6_drop 42 = .ok (.aload_n 0, 1) := by decide +kernel
theorem dX6_drop_43 : decode cX6_drop 43 = .ok (.getfield 30, 3) := by decide +kernel
theorem dX6_drop_46 : decode cX6_drop 46 = .ok (.iload_n 1, 1) := by decide +kernel
theorem dX6_drop_47 : decode cX6_drop 47 = .ok (.iconst 1, 1) := by decide +kernel
theorem dX6_drop_48 : decode cX6_drop 48 = .ok (.isub, 1) := by decide +kernel
theorem dX6_drop_49 : decode cX6_drop 49 = .ok (.invokevirtual 85, 3) := by decide +kernel
theorem dX6_drop_52 : decode cX6_drop 52 = .ok (.aload_n 0, 1) := by decide +kernel
theorem dX6_drop_53 : decode cX6_drop 53 = .ok (.getfield 30, 3) := by decide +kernel
theorem dX6_drop_56 : decode cX6_drop 56 = .ok (.iload_n 1, 1) := by decide +kernel
theorem dX6_drop_57 : decode cX6_drop 57 = .ok (.invokevirtual 85, 3) := by decide +kernel
theorem dX6_drop_60 : decode cX6_drop 60 = .ok (.if_icmp .ne 48, 3) := by decide +kernel
theorem dX6_drop_63 : decode cX6_drop 63 = .ok (.aload_n 0, 1) := by decide +kernel
theorem dX6_drop_64 : decode cX6_drop 64 = .ok (.getfield 33, 3) := by decide +kernel
theorem dX6_drop_67 : decode cX6_drop 67 = .ok (.iload_n 1, 1) := by decide +kernel
theorem dX6_drop_68 : decode cX6_drop 68 = .ok (.iconst 1, 1) := by decide +kernel
theorem dX6_drop_69 : decode cX6_drop 69 = .ok (.isub, 1) := by decide +kernel
theorem dX6_drop_70 : decode cX6_drop 70 = .ok (.aload_n 0, 1) := by decide +kernel
theorem dX6_drop_71 : decode cX6_drop 71 = .ok (.getfield 33, 3) := by decide +kernel
theorem dX6_drop_74 : decode cX6_drop 74 = .ok (.iload_n 1, 1) := by decide +kernel
theorem dX6_drop_75 : decode cX6_drop 75 = .ok (.iconst 1, 1) := by decide +kernel
theorem dX6_drop_76 : decode cX6_drop 76 = .ok (.isub, 1) := by decide +kernel
theorem dX6_drop_77 : decode cX6_drop 77 = .ok (.invokevirtual 85, 3) := by decide +kernel
theorem dX6_drop_80 : decode cX6_drop 80 = .ok (.aload_n 0, 1) := by decide +kernel
theorem dX6_drop_81 : decode cX6_drop 81 = .ok (.getfield 33, 3) := by decide +kernel
theorem dX6_drop_84 : decode cX6_drop 84 = .ok (.iload_n 1, 1) := by decide +kernel
theorem dX6_drop_85 : decode cX6_drop 85 = .ok (.invokevirtual 85, 3) := by decide +kernel
theorem dX6_drop_88 : decode cX6_drop 88 = .ok (.iadd, 1) := by decide +kernel
theorem dX6_drop_89 : decode cX6_drop 89 = .ok (.invokevirtual 102, 3) := by decide +kernel
theorem dX6_drop_92 : decode cX6_drop 92 = .ok (.aload_n 0, 1) := by decide +kernel
theorem dX6_drop_93 : decode cX6_drop 93 = .ok (.getfield 30, 3) := by decide +kernel
theorem dX6_drop_96 : decode cX6_drop 96 = .ok (.iload_n 1, 1) := by decide +kernel
theorem dX6_drop_97 : decode cX6_drop 97 = .ok (.invokevirtual 120, 3) := by decide +kernel
theorem dX6_drop_100 : decode cX6_drop 100 = .ok (.aload_n 0, 1) := by decide +kernel
theorem dX6_drop_101 : decode cX6_drop 101 = .ok (.getfield 33, 3) := by decide +kernel
theorem dX6_drop_104 : decode cX6_drop 104 = .ok (.iload_n 1, 1) := by decide +kernel
theorem dX6_drop_105 : decode cX6_drop 105 = .ok (.invokevirtual 120, 3) := by decide +kernel
theorem dX6_drop_108 : decode cX6_drop 108 = .ok (.return_, 1) := by decide +kernel
theorem dX6_readAs_0 : decode cX6_readAs 0 = .ok (.aload_n 0, 1) := by decide +kernel
theorem dX6_readAs_1 : decode cX6_readAs 1 = .ok (.iconst (-1), 1) := by decide +kernel
theorem dX6_readAs_2 : decode cX6_readAs 2 = .ok (.invokevirtual 123, 3) := by decide +kernel
theorem dX6_readAs_5 : decode cX6_readAs 5 = .ok (.istore_n 2, 1) := by decide +kernel
theorem dX6_readAs_6 : decode cX6_readAs 6 = .ok (.aload_n 0, 1) := by decide +kernel
theorem dX6_readAs_7 : decode cX6_readAs 7 = .ok (.getfield 23, 3) := by decide +kernel
theorem dX6_readAs_10 : decode cX6_readAs 10 = .ok (.invokevirtual 98, 3) := by decide +kernel
theorem dX6_readAs_13 : decode cX6_readAs 13 = .ok (.ifCond .le 7, 3) := by decide +kernel
theorem dX6_readAs_16 : decode cX6_readAs 16 = .ok (.iconst 1, 1) := by decide +kernel
theorem dX6_readAs_17 : decode cX6_readAs 17 = .ok (.goto 4, 3) := by decide +kernel
theorem dX6_readAs_20 : decode cX6_readAs 20 = .ok (.iconst 0, 1) := by decide +kernel
theorem dX6_readAs_21 : decode cX6_readAs 21 = .ok (.istore_n 3, 1) := by decide +kernel
theorem dX6_readAs_22 : decode cX6_readAs 22 = .ok (.iload_n 3, 1) := by decide +kernel
theorem dX6_readAs_23 : decode cX6_readAs 23 = .ok (.ifCond .eq 23, 3) := by decide +kernel
theorem dX6_readAs_26 : decode cX6_readAs 26 = .ok (.aload_n 0, 1) := by decide +kernel
theorem dX6_readAs_27 : decode cX6_readAs 27 = .ok (.getfield 36, 3) := by decide +kernel
theorem dX6_readAs_30 : decode cX6_readAs 30 = .ok (.iload_n 2, 1) := by decide +kernel
theorem dX6_readAs_31 : decode cX6_readAs 31 = .ok (.invokevirtual 85, 3) := by decide +kernel
theorem dX6_readAs_34 : decode cX6_readAs 34 = .ok (.aload_n 1, 1) := by decide +kernel
theorem dX6_readAs_35 : decode cX6_readAs 35 = .ok (.iconst 4, 1) := by decide +kernel
theorem dX6_readAs_36 : decode cX6_readAs 36 = .ok (.invokevirtual 85, 3) := by decide +kernel
theorem dX6_readAs_39 : decode cX6_readAs 39 = .ok (.if_icmp .gt 7, 3) := by decide +kernel
theorem dX6_readAs_42 : decode cX6_readAs 42 = .ok (.iload_n 2, 1) := by decide +kernel
theorem dX6_readAs_43 : decode cX6_readAs 43 = .ok (.goto 4, 3) := by decide +kernel
theorem dX6_readAs_46 : decode cX6_readAs 46 = .ok (.iconst (-1), 1) := by decide +kernel
theorem dX6_readAs_47 : decode cX6_readAs 47 = .ok (.ireturn, 1) := by decide +kernel
theorem dX6_nearestBut_0 : decode cX6_nearestBut 0 = .ok (.iconst (-1), 1) := by decide +kernel
theorem dX6_nearestBut_1 : decode cX6_nearestBut 1 = .ok (.istore_n 2, 1) := by decide +kernel
theorem dX6_nearestBut_2 : decode cX6_nearestBut 2 = .ok (.iconst 0, 1) := by decide +kernel
theorem dX6_nearestBut_3 : decode cX6_nearestBut 3 = .ok (.istore_n 3, 1) := by decide +kernel
theorem dX6_nearestBut_4 : decode cX6_nearestBut 4 = .ok (.iload_n 3, 1) := by decide +kernel
theorem dX6_nearestBut_5 : decode cX6_nearestBut 5 = .ok (.aload_n 0, 1) := by decide +kernel
theorem dX6_nearestBut_6 : decode cX6_nearestBut 6 = .ok (.getfield 36, 3) := by decide +kernel
theorem dX6_nearestBut_9 : decode cX6_nearestBut 9 = .ok (.invokevirtual 98, 3) := by decide +kernel
theorem dX6_nearestBut_12 : decode cX6_nearestBut 12 = .ok (.if_icmp .ge 52, 3) := by decide +kernel
theorem dX6_nearestBut_15 : decode cX6_nearestBut 15 = .ok (.iload_n 2, 1) := by decide +kernel
theorem dX6_nearestBut_16 : decode cX6_nearestBut 16 = .ok (.iconst (-1), 1) := by decide +kernel
theorem dX6_nearestBut_17 : decode cX6_nearestBut 17 = .ok (.if_icmp .eq 22, 3) := by decide +kernel
theorem dX6_nearestBut_20 : decode cX6_nearestBut 20 = .ok (.aload_n 0, 1) := by decide +kernel
theorem dX6_nearestBut_21 : decode cX6_nearestBut 21 = .ok (.getfield 36, 3) := by decide +kernel
theorem dX6_nearestBut_24 : decode cX6_nearestBut 24 = .ok (.iload_n 3, 1) := by decide +kernel
theorem dX6_nearestBut_25 : decode cX6_nearestBut 25 = .ok (.invokevirtual 85, 3) := by decide +kernel
theorem dX6_nearestBut_28 : decode cX6_nearestBut 28 = .ok (.aload_n 0, 1) := by decide +kernel
theorem dX6_nearestBut_29 : decode cX6_nearestBut 29 = .ok (.getfield 36, 3) := by decide +kernel
theorem dX6_nearestBut_32 : decode cX6_nearestBut 32 = .ok (.iload_n 2, 1) := by decide +kernel
theorem dX6_nearestBut_33 : decode cX6_nearestBut 33 = .ok (.invokevirtual 85, 3) := by decide +kernel
theorem dX6_nearestBut_36 : decode cX6_nearestBut 36 = .ok (.if_icmp .ge 7, 3) := by decide +kernel
theorem dX6_nearestBut_39 : decode cX6_nearestBut 39 = .ok (.iconst 1, 1) := by decide +kernel
theorem dX6_nearestBut_40 : decode cX6_nearestBut 40 = .ok (.goto 4, 3) := by decide +kernel
theorem dX6_nearestBut_43 : decode cX6_nearestBut 43 = .ok (.iconst 0, 1) := by decide +kernel
theorem dX6_nearestBut_44 : decode cX6_nearestBut 44 = .ok (.istore 4, 2) := by decide +kernel
theorem dX6_nearestBut_46 : decode cX6_nearestBut 46 = .ok (.iload_n 3, 1) := by decide +kernel
theorem dX6_nearestBut_47 : decode cX6_nearestBut 47 = .ok (.iload_n 1, 1) := by decide +kernel
theorem dX6_nearestBut_48 : decode cX6_nearestBut 48 = .ok (.if_icmp .eq 10, 3) := by decide +kernel
theorem dX6_nearestBut_51 : decode cX6_nearestBut 51 = .ok (.iload 4, 2) := by decide +kernel
theorem dX6_nearestBut_53 : decode cX6_nearestBut 53 = .ok (.ifCond .eq 5, 3) := by decide +kernel
theorem dX6_nearestBut_56 : decode cX6_nearestBut 56 = .ok (.iload_n 3, 1) := by decide +kernel
theorem dX6_nearestBut_57 : decode cX6_nearestBut 57 = .ok (.istore_n 2, 1) := by decide +kernel
theorem dX6_nearestBut_58 : decode cX6_nearestBut 58 = .ok (.iinc 3 1, 3) := by decide +kernel
theorem dX6_nearestBut_61 : decode cX6_nearestBut 61 = .ok (.goto (-57), 3) := by decide +kernel
theorem dX6_nearestBut_64 : decode cX6_nearestBut 64 = .ok (.iload_n 2, 1) := by decide +kernel
theorem dX6_nearestBut_65 : decode cX6_nearestBut 65 = .ok (.ireturn, 1) := by decide +kernel
theorem dX6_canBecome_0 : decode cX6_canBecome 0 = .ok (.iconst 0, 1) := by decide +kernel
theorem dX6_canBecome_1 : decode cX6_canBecome 1 = .ok (.istore_n 1, 1) := by decide +kernel
theorem dX6_canBecome_2 : decode cX6_canBecome 2 = .ok (.iconst 0, 1) := by decide +kernel
theorem dX6_canBecome_3 : decode cX6_canBecome 3 = .ok (.istore_n 2, 1) := by decide +kernel
theorem dX6_canBecome_4 : decode cX6_canBecome 4 = .ok (.iload_n 2, 1) := by decide +kernel
theorem dX6_canBecome_5 : decode cX6_canBecome 5 = .ok (.aload_n 0, 1) := by decide +kernel
theorem dX6_canBecome_6 : decode cX6_canBecome 6 = .ok (.getfield 39, 3) := by decide +kernel
theorem dX6_canBecome_9 : decode cX6_canBecome 9 = .ok (.invokevirtual 98, 3) := by decide +kernel
theorem dX6_canBecome_12 : decode cX6_canBecome 12 = .ok (.if_icmp .ge 27, 3) := by decide +kernel
theorem dX6_canBecome_15 : decode cX6_canBecome 15 = .ok (.aload_n 0, 1) := by decide +kernel
theorem dX6_canBecome_16 : decode cX6_canBecome 16 = .ok (.getfield 39, 3) := by decide +kernel
theorem dX6_canBecome_19 : decode cX6_canBecome 19 = .ok (.iload_n 2, 1) := by decide +kernel
theorem dX6_canBecome_20 : decode cX6_canBecome 20 = .ok (.invokevirtual 85, 3) := by decide +kernel
theorem dX6_canBecome_23 : decode cX6_canBecome 23 = .ok (.iconst (-1), 1) := by decide +kernel
theorem dX6_canBecome_24 : decode cX6_canBecome 24 = .ok (.if_icmp .eq 9, 3) := by decide +kernel
theorem dX6_canBecome_27 : decode cX6_canBecome 27 = .ok (.iload_n 1, 1) := by decide +kernel
theorem dX6_canBecome_28 : decode cX6_canBecome 28 = .ok (.iconst 1, 1) := by decide +kernel
theorem dX6_canBecome_29 : decode cX6_canBecome 29 = .ok (.iload_n 2, 1) := by decide +kernel
theorem dX6_canBecome_30 : decode cX6_canBecome 30 = .ok (.ishl, 1) := by decide +kernel
theorem dX6_canBecome_31 : decode cX6_canBecome 31 = .ok (.ior, 1) := by decide +kernel
theorem dX6_canBecome_32 : decode cX6_canBecome 32 = .ok (.istore_n 1, 1) := by decide +kernel
theorem dX6_canBecome_33 : decode cX6_canBecome 33 = .ok (.iinc 2 1, 3) := by decide +kernel
theorem dX6_canBecome_36 : decode cX6_canBecome 36 = .ok (.goto (-32), 3) := by decide +kernel
theorem dX6_canBecome_39 : decode cX6_canBecome 39 = .ok (.iload_n 1, 1) := by decide +kernel
theorem dX6_canBecome_40 : decode cX6_canBecome 40 = .ok (.ireturn, 1) := by decide +kernel
theorem dX6_stillToCome_0 : decode cX6_stillToCome 0 = .ok (.iconst 0, 1) := by decide +kernel
theorem dX6_stillToCome_1 : decode cX6_stillToCome 1 = .ok (.istore_n 1, 1) := by decide +kernel
theorem dX6_stillToCome_2 : decode cX6_stillToCome 2 = .ok (.iconst (-1), 1) := by decide +kernel
theorem dX6_stillToCome_3 : decode cX6_stillToCome 3 = .ok (.istore_n 2, 1) := by decide +kernel
theorem dX6_stillToCome_4 : decode cX6_stillToCome 4 = .ok (.iconst 0, 1) := by decide +kernel
theorem dX6_stillToCome_5 : decode cX6_stillToCome 5 = .ok (.istore_n 3, 1) := by decide +kernel
theorem dX6_stillToCome_6 : decode cX6_stillToCome 6 = .ok (.iload_n 3, 1) := by decide +kernel
theorem dX6_stillToCome_7 : decode cX6_stillToCome 7 = .ok (.aload_n 0, 1) := by decide +kernel
theorem dX6_stillToCome_8 : decode cX6_stillToCome 8 = .ok (.getfield 39, 3) := by decide +kernel
theorem dX6_stillToCome_11 : decode cX6_stillToCome 11 = .ok (.invokevirtual 98, 3) := by decide +kernel
theorem dX6_stillToCome_14 : decode cX6_stillToCome 14 = .ok (.if_icmp .ge 33, 3) := by decide +kernel
theorem dX6_stillToCome_17 : decode cX6_stillToCome 17 = .ok (.aload_n 0, 1) := by decide +kernel
theorem dX6_stillToCome_18 : decode cX6_stillToCome 18 = .ok (.getfield 39, 3) := by decide +kernel
theorem dX6_stillToCome_21 : decode cX6_stillToCome 21 = .ok (.iload_n 3, 1) := by decide +kernel
theorem dX6_stillToCome_22 : decode cX6_stillToCome 22 = .ok (.invokevirtual 85, 3) := by decide +kernel
theorem dX6_stillToCome_25 : decode cX6_stillToCome 25 = .ok (.iconst (-1), 1) := by decide +kernel
theorem dX6_stillToCome_26 : decode cX6_stillToCome 26 = .ok (.if_icmp .eq 15, 3) := by decide +kernel
theorem dX6_stillToCome_29 : decode cX6_stillToCome 29 = .ok (.iinc 1 1, 3) := by decide +kernel
theorem dX6_stillToCome_32 : decode cX6_stillToCome 32 = .ok (.aload_n 0, 1) := by decide +kernel
theorem dX6_stillToCome_33 : decode cX6_stillToCome 33 = .ok (.getfield 39, 3) := by decide +kernel
theorem dX6_stillToCome_36 : decode cX6_stillToCome 36 = .ok (.iload_n 3, 1) := by decide +kernel
theorem dX6_stillToCome_37 : decode cX6_stillToCome 37 = .ok (.invokevirtual 85, 3) := by decide +kernel
theorem dX6_stillToCome_40 : decode cX6_stillToCome 40 = .ok (.istore_n 2, 1) := by decide +kernel
theorem dX6_stillToCome_41 : decode cX6_stillToCome 41 = .ok (.iinc 3 1, 3) := by decide +kernel
theorem dX6_stillToCome_44 : decode cX6_stillToCome 44 = .ok (.goto (-38), 3) := by decide +kernel
theorem dX6_stillToCome_47 : decode cX6_stillToCome 47 = .ok (.iload_n 1, 1) := by decide +kernel
theorem dX6_stillToCome_48 : decode cX6_stillToCome 48 = .ok (.iconst 1, 1) := by decide +kernel
theorem dX6_stillToCome_49 : decode cX6_stillToCome 49 = .ok (.if_icmp .ne 7, 3) := by decide +kernel
theorem dX6_stillToCome_52 : decode cX6_stillToCome 52 = .ok (.iload_n 2, 1) := by decide +kernel
theorem dX6_stillToCome_53 : decode cX6_stillToCome 53 = .ok (.goto 4, 3) := by decide +kernel
theorem dX6_stillToCome_56 : decode cX6_stillToCome 56 = .ok (.iconst (-1), 1) := by decide +kernel
theorem dX6_stillToCome_57 : decode cX6_stillToCome 57 = .ok (.ireturn, 1) := by decide +kernel
theorem dX7_init_0 : decode cX7_init 0 = .ok (.aload_n 0, 1) := by decide +kernel
theorem dX7_init_1 : decode cX7_init 1 = .ok (.invokespecial 1, 3) := by decide +kernel
theorem dX7_init_4 : decode cX7_init 4 = .ok (.aload_n 0, 1) := by decide +kernel
theorem dX7_init_5 : decode cX7_init 5 = .ok (.new 7, 3) := by decide +kernel
theorem dX7_init_8 : decode cX7_init 8 = .ok (.dup, 1) := by decide +kernel
theorem dX7_init_9 : decode cX7_init 9 = .ok (.invokespecial 9, 3) := by decide +kernel
theorem dX7_init_12 : decode cX7_init 12 = .ok (.putfield 10, 3) := by decide +kernel
theorem dX7_init_15 : decode cX7_init 15 = .ok (.aload_n 0, 1) := by decide +kernel
theorem dX7_init_16 : decode cX7_init 16 = .ok (.new 16, 3) := by decide +kernel
theorem dX7_init_19 : decode cX7_init 19 = .ok (.dup, 1) := by decide +kernel
theorem dX7_init_20 : decode cX7_init 20 = .ok (.invokespecial 18, 3) := by decide +kernel
theorem dX7_init_23 : decode cX7_init 23 = .ok (.putfield 19, 3) := by decide +kernel
theorem dX7_init_26 : decode cX7_init 26 = .ok (.aload_n 0, 1) := by decide +kernel
theorem dX7_init_27 : decode cX7_init 27 = .ok (.new 23, 3) := by decide +kernel
theorem dX7_init_30 : decode cX7_init 30 = .ok (.dup, 1) := by decide +kernel
theorem dX7_init_31 : decode cX7_init 31 = .ok (.bipush 60, 2) := by decide +kernel
theorem dX7_init_33 : decode cX7_init 33 = .ok (.invokespecial 25, 3) := by decide +kernel
theorem dX7_init_36 : decode cX7_init 36 = .ok (.putfield 28, 3) := by decide +kernel
theorem dX7_init_39 : decode cX7_init 39 = .ok (.aload_n 0, 1) := by decide +kernel
theorem dX7_init_40 : decode cX7_init 40 = .ok (.new 32, 3) := by decide +kernel
theorem dX7_init_43 : decode cX7_init 43 = .ok (.dup, 1) := by decide +kernel
theorem dX7_init_44 : decode cX7_init 44 = .ok (.invokespecial 34, 3) := by decide +kernel
theorem dX7_init_47 : decode cX7_init 47 = .ok (.putfield 35, 3) := by decide +kernel
theorem dX7_init_50 : decode cX7_init 50 = .ok (.aload_n 0, 1) := by decide +kernel
theorem dX7_init_51 : decode cX7_init 51 = .ok (.new 39, 3) := by decide +kernel
theorem dX7_init_54 : decode cX7_init 54 = .ok (.dup, 1) := by decide +kernel
theorem dX7_init_55 : decode cX7_init 55 = .ok (.invokespecial 41, 3) := by decide +kernel
theorem dX7_init_58 : decode cX7_init 58 = .ok (.putfield 42, 3) := by decide +kernel
theorem dX7_init_61 : decode cX7_init 61 = .ok (.aload_n 0, 1) := by decide +kernel
theorem dX7_init_62 : decode cX7_init 62 = .ok (.new 46, 3) := by decide +kernel
theorem dX7_init_65 : decode cX7_init 65 = .ok (.dup, 1) := by decide +kernel
theorem dX7_init_66 : decode cX7_init 66 = .ok (.invokespecial 48, 3) := by decide +kernel
theorem dX7_init_69 : decode cX7_init 69 = .ok (.putfield 49, 3) := by decide +kernel
theorem dX7_init_72 : decode cX7_init 72 = .ok (.aload_n 0, 1) := by decide +kernel
theorem dX7_init_73 : decode cX7_init 73 = .ok (.new 32, 3) := by decide +kernel
theorem dX7_init_76 : decode cX7_init 76 = .ok (.dup, 1) := by decide +kernel
theorem dX7_init_77 : decode cX7_init 77 = .ok (.invokespecial 34, 3) := by decide +kernel
theorem dX7_init_80 : decode cX7_init 80 = .ok (.putfield 53, 3) := by decide +kernel
theorem dX7_init_83 : decode cX7_init 83 = .ok (.aload_n 0, 1) := by decide +kernel
theorem dX7_init_84 : decode cX7_init 84 = .ok (.new 23, 3) := by decide +kernel
theorem dX7_init_87 : decode cX7_init 87 = .ok (.dup, 1) := by decide +kernel
theorem dX7_init_88 : decode cX7_init 88 = .ok (.iconst 5, 1) := by decide +kernel
theorem dX7_init_89 : decode cX7_init 89 = .ok (.invokespecial 25, 3) := by decide +kernel
theorem dX7_init_92 : decode cX7_init 92 = .ok (.putfield 56, 3) := by decide +kernel
theorem dX7_init_95 : decode cX7_init 95 = .ok (.aload_n 0, 1) := by decide +kernel
theorem dX7_init_96 : decode cX7_init 96 = .ok (.new 23, 3) := by decide +kernel
theorem dX7_init_99 : decode cX7_init 99 = .ok (.dup, 1) := by decide +kernel
theorem dX7_init_100 : decode cX7_init 100 = .ok (.bipush 8, 2) := by decide +kernel
theorem dX7_init_102 : decode cX7_init 102 = .ok (.invokespecial 25, 3) := by decide +kernel
theorem dX7_init_105 : decode cX7_init 105 = .ok (.putfield 59, 3) := by decide +kernel
theorem dX7_init_108 : decode cX7_init 108 = .ok (.return_, 1) := by decide +kernel
theorem dX7_point_0 : decode cX7_point 0 = .ok (.iload_n 1, 1) := by decide +kernel
theorem dX7_point_1 : decode cX7_point 1 = .ok (.iload_n 2, 1) := by decide +kernel
theorem dX7_point_2 : decode cX7_point 2 = .ok (.invokestatic 62, 3) := by decide +kernel
theorem dX7_point_5 : decode cX7_point 5 = .ok (.ifCond .ne 13, 3) := by decide +kernel
theorem dX7_point_8 : decode cX7_point 8 = .ok (.new 66, 3) := by decide +kernel
theorem dX7_point_11 : decode cX7_point 11 = .ok (.dup, 1) := by decide +kernel
theorem dX7_point_12 : decode cX7_point 12 = .ok (.ldc 68, 2) := by decide +kernel
theorem dX7_point_14 : decode cX7_point 14 = .ok (.invokespecial 70, 3) := by decide +kernel
theorem dX7_point_17 : decode cX7_point 17 = .ok (.athrow, 1) := by decide +kernel
theorem dX7_point_18 : decode cX7_point 18 = .ok (.aload_n 0, 1) := by decide +kernel
theorem dX7_point_19 : decode cX7_point 19 = .ok (.getfield 10, 3) := by decide +kernel
theorem dX7_point_22 : decode cX7_point 22 = .ok (.getfield 73, 3) := by decide +kernel
theorem dX7_point_25 : decode cX7_point 25 = .ok (.invokevirtual 76, 3) := by decide +kernel
theorem dX7_point_28 : decode cX7_point 28 = .ok (.bipush 40, 2) := by decide +kernel
theorem dX7_point_30 : decode cX7_point 30 = .ok (.if_icmp .lt 13, 3) := by decide +kernel
theorem dX7_point_33 : decode cX7_point 33 = .ok (.new 80, 3) := by decide +kernel
theorem dX7_point_36 : decode cX7_point 36 = .ok (.dup, 1) := by decide +kernel
theorem dX7_point_37 : decode cX7_point 37 = .ok (.ldc 82, 2) := by decide +kernel
theorem dX7_point_39 : decode cX7_point 39 = .ok (.invokespecial 84, 3) := by decide +kernel
theorem dX7_point_42 : decode cX7_point 42 = .ok (.athrow, 1) := by decide +kernel
theorem dX7_point_43 : decode cX7_point 43 = .ok (.aload_n 0, 1) := by decide +kernel
theorem dX7_point_44 : decode cX7_point 44 = .ok (.getfield 19, 3) := by decide +kernel
theorem dX7_point_47 : decode cX7_point 47 = .ok (.aload_n 0, 1) := by decide +kernel
theorem dX7_point_48 : decode cX7_point 48 = .ok (.getfield 10, 3) := by decide +kernel
theorem dX7_point_51 : decode cX7_point 51 = .ok (.invokevirtual 85, 3) := by decide +kernel
theorem dX7_point_54 : decode cX7_point 54 = .ok (.aload_n 0, 1) := by decide +kernel
theorem dX7_point_55 : decode cX7_point 55 = .ok (.getfield 10, 3) := by decide +kernel
theorem dX7_point_58 : decode cX7_point 58 = .ok (.getfield 73, 3) := by decide +kernel
theorem dX7_point_61 : decode cX7_point 61 = .ok (.iload_n 1, 1) := by decide +kernel
theorem dX7_point_62 : decode cX7_point 62 = .ok (.iload_n 2, 1) := by decide +kernel
theorem dX7_point_63 : decode cX7_point 63 = .ok (.invokevirtual 89, 3) := by decide +kernel
theorem dX7_point_66 : decode cX7_point 66 = .ok (.aload_n 0, 1) := by decide +kernel
theorem dX7_point_67 : decode cX7_point 67 = .ok (.invokevirtual 93, 3) := by decide +kernel
theorem dX7_point_70 : decode cX7_point 70 = .ok (.aload_n 0, 1) := by decide +kernel
theorem dX7_point_71 : decode cX7_point 71 = .ok (.getfield 10, 3) := by decide +kernel
theorem dX7_point_74 : decode cX7_point 74 = .ok (.getfield 73, 3) := by decide +kernel
theorem dX7_point_77 : decode cX7_point 77 = .ok (.invokevirtual 76, 3) := by decide +kernel
theorem dX7_point_80 : decode cX7_point 80 = .ok (.ireturn, 1) := by decide +kernel
theorem dX7_go_0 : decode cX7_go 0 = .ok (.iload_n 1, 1) := by decide +kernel
theorem dX7_go_1 : decode cX7_go 1 = .ok (.invokestatic 96, 3) := by decide +kernel
theorem dX7_go_4 : decode cX7_go 4 = .ok (.ifCond .eq 14, 3) := by decide +kernel
theorem dX7_go_7 : decode cX7_go 7 = .ok (.iload_n 2, 1) := by decide +kernel
theorem dX7_go_8 : decode cX7_go 8 = .ok (.iconst 1, 1) := by decide +kernel
theorem dX7_go_9 : decode cX7_go 9 = .ok (.if_icmp .lt 9, 3) := by decide +kernel
theorem dX7_go_12 : decode cX7_go 12 = .ok (.iload_n 2, 1) := by decide +kernel
theorem dX7_go_13 : decode cX7_go 13 = .ok (.bipush 31, 2) := by decide +kernel
theorem dX7_go_15 : decode cX7_go 15 = .ok (.if_icmp .le 13, 3) := by decide +kernel
theorem dX7_go_18 : decode cX7_go 18 = .ok (.new 66, 3) := by decide +kernel
theorem dX7_go_21 : decode cX7_go 21 = .ok (.dup, 1) := by decide +kernel
theorem dX7_go_22 : decode cX7_go 22 = .ok (.ldc 100, 2) := by decide +kernel
theorem dX7_go_24 : decode cX7_go 24 = .ok (.invokespecial 70, 3) := by decide +kernel
theorem dX7_go_27 : decode cX7_go 27 = .ok (.athrow, 1) := by decide +kernel
theorem dX7_go_28 : decode cX7_go 28 = .ok (.aload_n 0, 1) := by decide +kernel
theorem dX7_go_29 : decode cX7_go 29 = .ok (.getfield 10, 3) := by decide +kernel
theorem dX7_go_32 : decode cX7_go 32 = .ok (.getfield 73, 3) := by decide +kernel
theorem dX7_go_35 : decode cX7_go 35 = .ok (.astore_n 3, 1) := by decide +kernel
theorem dX7_go_36 : decode cX7_go 36 = .ok (.aload_n 3, 1) := by decide +kernel
theorem dX7_go_37 : decode cX7_go 37 = .ok (.invokevirtual 76, 3) := by decide +kernel
theorem dX7_go_40 : decode cX7_go 40 = .ok (.ifCond .ne 7, 3) := by decide +kernel
theorem dX7_go_43 : decode cX7_go 43 = .ok (.iconst 1, 1) := by decide +kernel
theorem dX7_go_44 : decode cX7_go 44 = .ok (.goto 4, 3) := by decide +kernel
theorem dX7_go_47 : decode cX7_go 47 = .ok (.iconst 0, 1) := by decide +kernel
theorem dX7_go_48 : decode cX7_go 48 = .ok (.istore 4, 2) := by decide +kernel
theorem dX7_go_50 : decode cX7_go 50 = .ok (.iload 4, 2) := by decide +kernel
theorem dX7_go_52 : decode cX7_go 52 = .ok (.ifCond .eq 7, 3) := by decide +kernel
theorem dX7_go_55 : decode cX7_go 55 = .ok (.iconst 0, 1) := by decide +kernel
theorem dX7_go_56 : decode cX7_go 56 = .ok (.goto 13, 3) := by decide +kernel
theorem dX7_go_59 : decode cX7_go 59 = .ok (.aload_n 3, 1) := by decide +kernel
theorem dX7_go_60 : decode cX7_go 60 = .ok (.aload_n 3, 1) := by decide +kernel
theorem dX7_go_61 : decode cX7_go 61 = .ok (.invokevirtual 76, 3) := by decide +kernel
theorem dX7_go_64 : decode cX7_go 64 = .ok (.iconst 1, 1) := by decide +kernel
theorem dX7_go_65 : decode cX7_go 65 = .ok (.isub, 1) := by decide +kernel
theorem dX7_go_66 : decode cX7_go 66 = .ok (.invokevirtual 102, 3) := by decide +kernel
theorem dX7_go_69 : decode cX7_go 69 = .ok (.istore 5, 2) := by decide +kernel
theorem dX7_go_71 : decode cX7_go 71 = .ok (.iload 4, 2) := by decide +kernel
theorem dX7_go_73 : decode cX7_go 73 = .ok (.ifCond .eq 7, 3) := by decide +kernel
theorem dX7_go_76 : decode cX7_go 76 = .ok (.iconst 0, 1) := by decide +kernel
theorem dX7_go_77 : decode cX7_go 77 = .ok (.goto 13, 3) := by decide +kernel
theorem dX7_go_80 : decode cX7_go 80 = .ok (.aload_n 3, 1) := by decide +kernel
theorem dX7_go_81 : decode cX7_go 81 = .ok (.aload_n 3, 1) := by decide +kernel
theorem dX7_go_82 : decode cX7_go 82 = .ok (.invokevirtual 76, 3) := by decide +kernel
theorem dX7_go_85 : decode cX7_go 85 = .ok (.iconst 1, 1) := by decide +kernel
theorem dX7_go_86 : decode cX7_go 86 = .ok (.isub, 1) := by decide +kernel
theorem dX7_go_87 : decode cX7_go 87 = .ok (.invokevirtual 106, 3) := by decide +kernel
theorem dX7_go_90 : decode cX7_go 90 = .ok (.istore 6, 2) := by decide +kernel
theorem dX7_go_92 : decode cX7_go 92 = .ok (.getstatic 109, 3) := by decide +kernel
theorem dX7_go_95 : decode cX7_go 95 = .ok (.iload_n 1, 1) := by decide +kernel
theorem dX7_go_96 : decode cX7_go 96 = .ok (.invokestatic 113, 3) := by decide +kernel
theorem dX7_go_99 : decode cX7_go 99 = .ok (.istore 7, 2) := by decide +kernel
theorem dX7_go_101 : decode cX7_go 101 = .ok (.getstatic 117, 3) := by decide +kernel
theorem dX7_go_104 : decode cX7_go 104 = .ok (.iload_n 1, 1) := by decide +kernel
theorem dX7_go_105 : decode cX7_go 105 = .ok (.invokestatic 113, 3) := by decide +kernel
theorem dX7_go_108 : decode cX7_go 108 = .ok (.istore 8, 2) := by decide +kernel
theorem dX7_go_110 : decode cX7_go 110 = .ok (.iload_n 2, 1) := by decide +kernel
theorem dX7_go_111 : decode cX7_go 111 = .ok (.iload 5, 2) := by decide +kernel
theorem dX7_go_113 : decode cX7_go 113 = .ok (.iload 7, 2) := by decide +kernel
theorem dX7_go_115 : decode cX7_go 115 = .ok (.invokestatic 120, 3) := by decide +kernel
theorem dX7_go_118 : decode cX7_go 118 = .ok (.iload 6, 2) := by decide +kernel
theorem dX7_go_120 : decode cX7_go 120 = .ok (.iload 8, 2) := by decide +kernel
theorem dX7_go_122 : decode cX7_go 122 = .ok (.invokestatic 120, 3) := by decide +kernel
theorem dX7_go_125 : decode cX7_go 125 = .ok (.invokestatic 124, 3) := by decide +kernel
theorem dX7_go_128 : decode cX7_go 128 = .ok (.invokestatic 124, 3) := by decide +kernel
theorem dX7_go_131 : decode cX7_go 131 = .ok (.istore 9, 2) := by decide +kernel
theorem dX7_go_133 : decode cX7_go 133 = .ok (.aload_n 3, 1) := by decide +kernel
theorem dX7_go_134 : decode cX7_go 134 = .ok (.invokevirtual 76, 3) := by decide +kernel
theorem dX7_go_137 : decode cX7_go 137 = .ok (.iload 4, 2) := by decide +kernel
theorem dX7_go_139 : decode cX7_go 139 = .ok (.ifCond .eq 7, 3) := by decide +kernel
theorem dX7_go_142 : decode cX7_go 142 = .ok (.iconst 1, 1) := by decide +kernel
theorem dX7_go_143 : decode cX7_go 143 = .ok (.goto 4, 3) := by decide +kernel
theorem dX7_go_146 : decode cX7_go 146 = .ok (.iconst 0, 1) := by decide +kernel
theorem dX7_go_147 : decode cX7_go 147 = .ok (.iadd, 1) := by decide +kernel
theorem dX7_go_148 : decode cX7_go 148 = .ok (.iload 9, 2) := by decide +kernel
theorem dX7_go_150 : decode cX7_go 150 = .ok (.iadd, 1) := by decide +kernel
theorem dX7_go_151 : decode cX7_go 151 = .ok (.bipush 40, 2) := by decide +kernel
theorem dX7_go_153 : decode cX7_go 153 = .ok (.if_icmp .le 13, 3) := by decide +kernel
theorem dX7_go_156 : decode cX7_go 156 = .ok (.new 80, 3) := by decide +kernel
theorem dX7_go_159 : decode cX7_go 159 = .ok (.dup, 1) := by decide +kernel
theorem dX7_go_160 : decode cX7_go 160 = .ok (.ldc 129, 2) := by decide +kernel
theorem dX7_go_162 : decode cX7_go 162 = .ok (.invokespecial 84, 3) := by decide +kernel
theorem dX7_go_165 : decode cX7_go 165 = .ok (.athrow, 1) := by decide +kernel
theorem dX7_go_166 : decode cX7_go 166 = .ok (.aload_n 0, 1) := by decide +kernel
theorem dX7_go_167 : decode cX7_go 167 = .ok (.getfield 19, 3) := by decide +kernel
theorem dX7_go_170 : decode cX7_go 170 = .ok (.aload_n 0, 1) := by decide +kernel
theorem dX7_go_171 : decode cX7_go 171 = .ok (.getfield 10, 3) := by decide +kernel
theorem dX7_go_174 : decode cX7_go 174 = .ok (.invokevirtual 85, 3) := by decide +kernel
theorem dX7_go_177 : decode cX7_go 177 = .ok (.iload 4, 2) := by decide +kernel
theorem dX7_go_179 : decode cX7_go 179 = .ok (.ifCond .eq 11, 3) := by decide +kernel
theorem dX7_go_182 : decode cX7_go 182 = .ok (.aload_n 3, 1) := by decide +kernel
theorem dX7_go_183 : decode cX7_go 183 = .ok (.iload 5, 2) := by decide +kernel
theorem dX7_go_185 : decode cX7_go 185 = .ok (.iload 6, 2) := by decide +kernel
theorem dX7_go_187 : decode cX7_go 187 = .ok (.invokevirtual 89, 3) := by decide +kernel
theorem dX7_go_190 : decode cX7_go 190 = .ok (.iconst 1, 1) := by decide +kernel
theorem dX7_go_191 : decode cX7_go 191 = .ok (.istore 10, 2) := by decide +kernel
theorem dX7_go_193 : decode cX7_go 193 = .ok (.iload 10, 2) := by decide +kernel
theorem dX7_go_195 : decode cX7_go 195 = .ok (.iload 9, 2) := by decide +kernel
theorem dX7_go_197 : decode cX7_go 197 = .ok (.if_icmp .gt 29, 3) := by decide +kernel
theorem dX7_go_200 : decode cX7_go 200 = .ok (.aload_n 3, 1) := by decide +kernel
theorem dX7_go_201 : decode cX7_go 201 = .ok (.iload 5, 2) := by decide +kernel
theorem dX7_go_203 : decode cX7_go 203 = .ok (.iload 10, 2) := by decide +kernel
theorem dX7_go_205 : decode cX7_go 205 = .ok (.iload 7, 2) := by decide +kernel
theorem dX7_go_207 : decode cX7_go 207 = .ok (.imul, 1) := by decide +kernel
theorem dX7_go_208 : decode cX7_go 208 = .ok (.iadd, 1) := by decide +kernel
theorem dX7_go_209 : decode cX7_go 209 = .ok (.iload 6, 2) := by decide +kernel
theorem dX7_go_211 : decode cX7_go 211 = .ok (.iload 10, 2) := by decide +kernel
theorem dX7_go_213 : decode cX7_go 213 = .ok (.iload 8, 2) := by decide +kernel
theorem dX7_go_215 : decode cX7_go 215 = .ok (.imul, 1) := by decide +kernel
theorem dX7_go_216 : decode cX7_go 216 = .ok (.iadd, 1) := by decide +kernel
theorem dX7_go_217 : decode cX7_go 217 = .ok (.invokevirtual 89, 3) := by decide +kernel
theorem dX7_go_220 : decode cX7_go 220 = .ok (.iinc 10 1, 3) := by decide +kernel
theorem dX7_go_223 : decode cX7_go 223 = .ok (.goto (-30), 3) := by decide +kernel
theorem dX7_go_226 : decode cX7_go 226 = .ok (.aload_n 0, 1) := by decide +kernel
theorem dX7_go_227 : decode cX7_go 227 = .ok (.invokevirtual 93, 3) := by decide +kernel
theorem dX7_go_230 : decode cX7_go 230 = .ok (.iload 9, 2) := by decide +kernel
theorem dX7_go_232 : decode cX7_go 232 = .ok (.ireturn, 1) := by decide +kernel
theorem dX7_back_0 : decode cX7_back 0 = .ok (.iload_n 1, 1) := by decide +kernel
theorem dX7_back_1 : decode cX7_back 1 = .ok (.iconst 1, 1) := by decide +kernel
theorem dX7_back_2 : decode cX7_back 2 = .ok (.if_icmp .lt 17, 3) := by decide +kernel
theorem dX7_back_5 : decode cX7_back 5 = .ok (.iload_n 1, 1) := by decide +kernel
theorem dX7_back_6 : decode cX7_back 6 = .ok (.aload_n 0, 1) := by decide +kernel
theorem dX7_back_7 : decode cX7_back 7 = .ok (.getfield 10, 3) := by decide +kernel
theorem dX7_back_10 : decode cX7_back 10 = .ok (.getfield 73, 3) := by decide +kernel
theorem dX7_back_13 : decode cX7_back 13 = .ok (.invokevirtual 76, 3) := by decide +kernel
theorem dX7_back_16 : decode cX7_back 16 = .ok (.if_icmp .le 13, 3) := by decide +kernel
theorem dX7_back_19 : decode cX7_back 19 = .ok (.new 66, 3) := by decide +kernel
theorem dX7_back_22 : decode cX7_back 22 = .ok (.dup, 1) := by decide +kernel
theorem dX7_back_23 : decode cX7_back 23 = .ok (.ldc 131, 2) := by decide +kernel
theorem dX7_back_25 : decode cX7_back 25 = .ok (.invokespecial 70, 3) := by decide +kernel
theorem dX7_back_28 : decode cX7_back 28 = .ok (.athrow, 1) := by decide +kernel
theorem dX7_back_29 : decode cX7_back 29 = .ok (.aload_n 0, 1) := by decide +kernel
theorem dX7_back_30 : decode cX7_back 30 = .ok (.getfield 19, 3) := by decide +kernel
theorem dX7_back_33 : decode cX7_back 33 = .ok (.aload_n 0, 1) := by decide +kernel
theorem dX7_back_34 : decode cX7_back 34 = .ok (.getfield 10, 3) := by decide +kernel
theorem dX7_back_37 : decode cX7_back 37 = .ok (.invokevirtual 85, 3) := by decide +kernel
theorem dX7_back_40 : decode cX7_back 40 = .ok (.aload_n 0, 1) := by decide +kernel
theorem dX7_back_41 : decode cX7_back 41 = .ok (.getfield 10, 3) := by decide +kernel
theorem dX7_back_44 : decode cX7_back 44 = .ok (.getfield 73, 3) := by decide +kernel
theorem dX7_back_47 : decode cX7_back 47 = .ok (.aload_n 0, 1) := by decide +kernel
theorem dX7_back_48 : decode cX7_back 48 = .ok (.getfield 10, 3) := by decide +kernel
theorem dX7_back_51 : decode cX7_back 51 = .ok (.getfield 73, 3) := by decide +kernel
theorem dX7_back_54 : decode cX7_back 54 = .ok (.invokevirtual 76, 3) := by decide +kernel
theorem dX7_back_57 : decode cX7_back 57 = .ok (.iload_n 1, 1) := by decide +kernel
theorem dX7_back_58 : decode cX7_back 58 = .ok (.isub, 1) := by decide +kernel
theorem dX7_back_59 : decode cX7_back 59 = .ok (.invokevirtual 133, 3) := by decide +kernel
theorem dX7_back_62 : decode cX7_back 62 = .ok (.aload_n 0, 1) := by decide +kernel
theorem dX7_back_63 : decode cX7_back 63 = .ok (.invokevirtual 93, 3) := by decide +kernel
theorem dX7_back_66 : decode cX7_back 66 = .ok (.aload_n 0, 1) := by decide +kernel
theorem dX7_back_67 : decode cX7_back 67 = .ok (.getfield 10, 3) := by decide +kernel
theorem dX7_back_70 : decode cX7_back 70 = .ok (.getfield 73, 3) := by decide +kernel
theorem dX7_back_73 : decode cX7_back 73 = .ok (.invokevirtual 76, 3) := by decide +kernel
theorem dX7_back_76 : decode cX7_back 76 = .ok (.ireturn, 1) := by decide +kernel
theorem dX7_begin_0 : decode cX7_begin 0 = .ok (.aload_n 0, 1) := by decide +kernel
theorem dX7_begin_1 : decode cX7_begin 1 = .ok (.getfield 10, 3) := by decide +kernel
theorem dX7_begin_4 : decode cX7_begin 4 = .ok (.getfield 73, 3) := by decide +kernel
theorem dX7_begin_7 : decode cX7_begin 7 = .ok (.invokevirtual 76, 3) := by decide +kernel
theorem dX7_begin_10 : decode cX7_begin 10 = .ok (.istore_n 1, 1) := by decide +kernel
theorem dX7_begin_11 : decode cX7_begin 11 = .ok (.aload_n 0, 1) := by decide +kernel
theorem dX7_begin_12 : decode cX7_begin 12 = .ok (.getfield 19, 3) := by decide +kernel
theorem dX7_begin_15 : decode cX7_begin 15 = .ok (.aload_n 0, 1) := by decide +kernel
theorem dX7_begin_16 : decode cX7_begin 16 = .ok (.getfield 10, 3) := by decide +kernel
theorem dX7_begin_19 : decode cX7_begin 19 = .ok (.invokevirtual 85, 3) := by decide +kernel
theorem dX7_begin_22 : decode cX7_begin 22 = .ok (.aload_n 0, 1) := by decide +kernel
theorem dX7_begin_23 : decode cX7_begin 23 = .ok (.getfield 10, 3) := by decide +kernel
theorem dX7_begin_26 : decode cX7_begin 26 = .ok (.getfield 73, 3) := by decide +kernel
theorem dX7_begin_29 : decode cX7_begin 29 = .ok (.iconst 0, 1) := by decide +kernel
theorem dX7_begin_30 : decode cX7_begin 30 = .ok (.invokevirtual 133, 3) := by decide +kernel
theorem dX7_begin_33 : decode cX7_begin 33 = .ok (.aload_n 0, 1) := by decide +kernel
theorem dX7_begin_34 : decode cX7_begin 34 = .ok (.invokevirtual 93, 3) := by decide +kernel
theorem dX7_begin_37 : decode cX7_begin 37 = .ok (.iload_n 1, 1) := by decide +kernel
theorem dX7_begin_38 : decode cX7_begin 38 = .ok (.ireturn, 1) := by decide +kernel
theorem dX7_turn_0 : decode cX7_turn 0 = .ok (.iload_n 1, 1) := by decide +kernel
theorem dX7_turn_1 : decode cX7_turn 1 = .ok (.iconst 1, 1) := by decide +kernel
theorem dX7_turn_2 : decode cX7_turn 2 = .ok (.if_icmp .lt 9, 3) := by decide +kernel
theorem dX7_turn_5 : decode cX7_turn 5 = .ok (.iload_n 1, 1) := by decide +kernel
theorem dX7_turn_6 : decode cX7_turn 6 = .ok (.bipush 8, 2) := by decide +kernel
theorem dX7_turn_8 : decode cX7_turn 8 = .ok (.if_icmp .lt 13, 3) := by decide +kernel
theorem dX7_turn_11 : decode cX7_turn 11 = .ok (.new 66, 3) := by decide +kernel
theorem dX7_turn_14 : decode cX7_turn 14 = .ok (.dup, 1) := by decide +kernel
theorem dX7_turn_15 : decode cX7_turn 15 = .ok (.ldc 136, 2) := by decide +kernel
theorem dX7_turn_17 : decode cX7_turn 17 = .ok (.invokespecial 70, 3) := by decide +kernel
theorem dX7_turn_20 : decode cX7_turn 20 = .ok (.athrow, 1) := by decide +kernel
theorem dX7_turn_21 : decode cX7_turn 21 = .ok (.aload_n 0, 1) := by decide +kernel
theorem dX7_turn_22 : decode cX7_turn 22 = .ok (.iload_n 1, 1) := by decide +kernel
theorem dX7_turn_23 : decode cX7_turn 23 = .ok (.invokevirtual 138, 3) := by decide +kernel
theorem dX7_turn_26 : decode cX7_turn 26 = .ok (.ifCond .ne 13, 3) := by decide +kernel
theorem dX7_turn_29 : decode cX7_turn 29 = .ok (.new 80, 3) := by decide +kernel
theorem dX7_turn_32 : decode cX7_turn 32 = .ok (.dup, 1) := by decide +kernel
theorem dX7_turn_33 : decode cX7_turn 33 = .ok (.ldc 141, 2) := by decide +kernel
theorem dX7_turn_35 : decode cX7_turn 35 = .ok (.invokespecial 84, 3) := by decide +kernel
theorem dX7_turn_38 : decode cX7_turn 38 = .ok (.athrow, 1) := by decide +kernel
theorem dX7_turn_39 : decode cX7_turn 39 = .ok (.aload_n 0, 1) := by decide +kernel
theorem dX7_turn_40 : decode cX7_turn 40 = .ok (.getfield 19, 3) := by decide +kernel
theorem dX7_turn_43 : decode cX7_turn 43 = .ok (.aload_n 0, 1) := by decide +kernel
theorem dX7_turn_44 : decode cX7_turn 44 = .ok (.getfield 10, 3) := by decide +kernel
theorem dX7_turn_47 : decode cX7_turn 47 = .ok (.invokevirtual 85, 3) := by decide +kernel
theorem dX7_turn_50 : decode cX7_turn 50 = .ok (.aload_n 0, 1) := by decide +kernel
theorem dX7_turn_51 : decode cX7_turn 51 = .ok (.getfield 10, 3) := by decide +kernel
theorem dX7_turn_54 : decode cX7_turn 54 = .ok (.getfield 73, 3) := by decide +kernel
theorem dX7_turn_57 : decode cX7_turn 57 = .ok (.aload_n 0, 1) := by decide +kernel
theorem dX7_turn_58 : decode cX7_turn 58 = .ok (.getfield 49, 3) := by decide +kernel
theorem dX7_turn_61 : decode cX7_turn 61 = .ok (.invokevirtual 143, 3) := by decide +kernel
theorem dX7_turn_64 : decode cX7_turn 64 = .ok (.aload_n 0, 1) := by decide +kernel
theorem dX7_turn_65 : decode cX7_turn 65 = .ok (.invokevirtual 93, 3) := by decide +kernel
theorem dX7_turn_68 : decode cX7_turn 68 = .ok (.aload_n 0, 1) := by decide +kernel
theorem dX7_turn_69 : decode cX7_turn 69 = .ok (.getfield 10, 3) := by decide +kernel
theorem dX7_turn_72 : decode cX7_turn 72 = .ok (.getfield 73, 3) := by decide +kernel
theorem dX7_turn_75 : decode cX7_turn 75 = .ok (.invokevirtual 76, 3) := by decide +kernel
theorem dX7_turn_78 : decode cX7_turn 78 = .ok (.ireturn, 1) := by decide +kernel
theorem dX7_learn_0 : decode cX7_learn 0 = .ok (.aload_n 0, 1) := by decide +kernel
theorem dX7_learn_1 : decode cX7_learn 1 = .ok (.getfield 35, 3) := by decide +kernel
theorem dX7_learn_4 : decode cX7_learn 4 = .ok (.getfield 147, 3) := by decide +kernel
theorem dX7_learn_7 : decode cX7_learn 7 = .ok (.invokevirtual 150, 3) := by decide +kernel
theorem dX7_learn_10 : decode cX7_learn 10 = .ok (.istore_n 1, 1) := by decide +kernel
theorem dX7_learn_11 : decode cX7_learn 11 = .ok (.aload_n 0, 1) := by decide +kernel
theorem dX7_learn_12 : decode cX7_learn 12 = .ok (.getfield 10, 3) := by decide +kernel
theorem dX7_learn_15 : decode cX7_learn 15 = .ok (.getfield 151, 3) := by decide +kernel
theorem dX7_learn_18 : decode cX7_learn 18 = .ok (.invokevirtual 155, 3) := by decide +kernel
theorem dX7_learn_21 : decode cX7_learn 21 = .ok (.bipush 10, 2) := by decide +kernel
theorem dX7_learn_23 : decode cX7_learn 23 = .ok (.if_icmp .ge 14, 3) := by decide +kernel
theorem dX7_learn_26 : decode cX7_learn 26 = .ok (.iload_n 1, 1) := by decide +kernel
theorem dX7_learn_27 : decode cX7_learn 27 = .ok (.iconst 1, 1) := by decide +kernel
theorem dX7_learn_28 : decode cX7_learn 28 = .ok (.if_icmp .lt 9, 3) := by decide +kernel
theorem dX7_learn_31 : decode cX7_learn 31 = .ok (.iload_n 1, 1) := by decide +kernel
theorem dX7_learn_32 : decode cX7_learn 32 = .ok (.bipush 8, 2) := by decide +kernel
theorem dX7_learn_34 : decode cX7_learn 34 = .ok (.if_icmp .le 13, 3) := by decide +kernel
theorem dX7_learn_37 : decode cX7_learn 37 = .ok (.new 80, 3) := by decide +kernel
theorem dX7_learn_40 : decode cX7_learn 40 = .ok (.dup, 1) := by decide +kernel
theorem dX7_learn_41 : decode cX7_learn 41 = .ok (.ldc 158, 2) := by decide +kernel
theorem dX7_learn_43 : decode cX7_learn 43 = .ok (.invokespecial 84, 3) := by decide +kernel
theorem dX7_learn_46 : decode cX7_learn 46 = .ok (.athrow, 1) := by decide +kernel
theorem dX7_learn_47 : decode cX7_learn 47 = .ok (.aload_n 0, 1) := by decide +kernel
theorem dX7_learn_48 : decode cX7_learn 48 = .ok (.aload_n 0, 1) := by decide +kernel
theorem dX7_learn_49 : decode cX7_learn 49 = .ok (.getfield 35, 3) := by decide +kernel
theorem dX7_learn_52 : decode cX7_learn 52 = .ok (.getfield 147, 3) := by decide +kernel
theorem dX7_learn_55 : decode cX7_learn 55 = .ok (.invokevirtual 160, 3) := by decide +kernel
theorem dX7_learn_58 : decode cX7_learn 58 = .ok (.ifCond .eq 13, 3) := by decide +kernel
theorem dX7_learn_61 : decode cX7_learn 61 = .ok (.new 80, 3) := by decide +kernel
theorem dX7_learn_64 : decode cX7_learn 64 = .ok (.dup, 1) := by decide +kernel
theorem dX7_learn_65 : decode cX7_learn 65 = .ok (.ldc 164, 2) := by decide +kernel
theorem dX7_learn_67 : decode cX7_learn 67 = .ok (.invokespecial 84, 3) := by decide +kernel
theorem dX7_learn_70 : decode cX7_learn 70 = .ok (.athrow, 1) := by decide +kernel
theorem dX7_learn_71 : decode cX7_learn 71 = .ok (.aload_n 0, 1) := by decide +kernel
theorem dX7_learn_72 : decode cX7_learn 72 = .ok (.aload_n 0, 1) := by decide +kernel
theorem dX7_learn_73 : decode cX7_learn 73 = .ok (.getfield 35, 3) := by decide +kernel
theorem dX7_learn_76 : decode cX7_learn 76 = .ok (.getfield 147, 3) := by decide +kernel
theorem dX7_learn_79 : decode cX7_learn 79 = .ok (.invokevirtual 166, 3) := by decide +kernel
theorem dX7_learn_82 : decode cX7_learn 82 = .ok (.ireturn, 1) := by decide +kernel
theorem dX7_read_0 : decode cX7_read 0 = .ok (.aload_n 0, 1) := by decide +kernel
theorem dX7_read_1 : decode cX7_read 1 = .ok (.getfield 28, 3) := by decide +kernel
theorem dX7_read_4 : decode cX7_read 4 = .ok (.invokevirtual 150, 3) := by decide +kernel
theorem dX7_read_7 : decode cX7_read 7 = .ok (.ifCond .eq 17, 3) := by decide +kernel
theorem dX7_read_10 : decode cX7_read 10 = .ok (.aload_n 0, 1) := by decide +kernel
theorem dX7_read_11 : decode cX7_read 11 = .ok (.invokevirtual 170, 3) := by decide +kernel
theorem dX7_read_14 : decode cX7_read 14 = .ok (.aload_n 0, 1) := by decide +kernel
theorem dX7_read_15 : decode cX7_read 15 = .ok (.getfield 28, 3) := by decide +kernel
theorem dX7_read_18 : decode cX7_read 18 = .ok (.invokevirtual 150, 3) := by decide +kernel
theorem dX7_read_21 : decode cX7_read 21 = .ok (.if_icmp .ge 13, 3) := by decide +kernel
theorem dX7_read_24 : decode cX7_read 24 = .ok (.new 66, 3) := by decide +kernel
theorem dX7_read_27 : decode cX7_read 27 = .ok (.dup, 1) := by decide +kernel
theorem dX7_read_28 : decode cX7_read 28 = .ok (.ldc 173, 2) := by decide +kernel
theorem dX7_read_30 : decode cX7_read 30 = .ok (.invokespecial 70, 3) := by decide +kernel
theorem dX7_read_33 : decode cX7_read 33 = .ok (.athrow, 1) := by decide +kernel
theorem dX7_read_34 : decode cX7_read 34 = .ok (.aload_n 0, 1) := by decide +kernel
theorem dX7_read_35 : decode cX7_read 35 = .ok (.getfield 10, 3) := by decide +kernel
theorem dX7_read_38 : decode cX7_read 38 = .ok (.getfield 151, 3) := by decide +kernel
theorem dX7_read_41 : decode cX7_read 41 = .ok (.invokevirtual 155, 3) := by decide +kernel
theorem dX7_read_44 : decode cX7_read 44 = .ok (.bipush 10, 2) := by decide +kernel
theorem dX7_read_46 : decode cX7_read 46 = .ok (.if_icmp .lt 13, 3) := by decide +kernel
theorem dX7_read_49 : decode cX7_read 49 = .ok (.new 80, 3) := by decide +kernel
theorem dX7_read_52 : decode cX7_read 52 = .ok (.dup, 1) := by decide +kernel
theorem dX7_read_53 : decode cX7_read 53 = .ok (.ldc 175, 2) := by decide +kernel
theorem dX7_read_55 : decode cX7_read 55 = .ok (.invokespecial 84, 3) := by decide +kernel
theorem dX7_read_58 : decode cX7_read 58 = .ok (.athrow, 1) := by decide +kernel
theorem dX7_read_59 : decode cX7_read 59 = .ok (.aload_n 0, 1) := by decide +kernel
theorem dX7_read_60 : decode cX7_read 60 = .ok (.getfield 59, 3) := by decide +kernel
theorem dX7_read_63 : decode cX7_read 63 = .ok (.invokevirtual 177, 3) := by decide +kernel
theorem dX7_read_66 : decode cX7_read 66 = .ok (.iconst 0, 1) := by decide +kernel
theorem dX7_read_67 : decode cX7_read 67 = .ok (.istore_n 1, 1) := by decide +kernel
theorem dX7_read_68 : decode cX7_read 68 = .ok (.iload_n 1, 1) := by decide +kernel
theorem dX7_read_69 : decode cX7_read 69 = .ok (.aload_n 0, 1) := by decide +kernel
theorem dX7_read_70 : decode cX7_read 70 = .ok (.getfield 28, 3) := by decide +kernel
theorem dX7_read_73 : decode cX7_read 73 = .ok (.invokevirtual 150, 3) := by decide +kernel
theorem dX7_read_76 : decode cX7_read 76 = .ok (.if_icmp .ge 27, 3) := by decide +kernel
theorem dX7_read_79 : decode cX7_read 79 = .ok (.aload_n 0, 1) := by decide +kernel
theorem dX7_read_80 : decode cX7_read 80 = .ok (.getfield 59, 3) := by decide +kernel
theorem dX7_read_83 : decode cX7_read 83 = .ok (.aload_n 0, 1) := by decide +kernel
theorem dX7_read_84 : decode cX7_read 84 = .ok (.getfield 28, 3) := by decide +kernel
theorem dX7_read_87 : decode cX7_read 87 = .ok (.iload_n 1, 1) := by decide +kernel
theorem dX7_read_88 : decode cX7_read 88 = .ok (.invokevirtual 180, 3) := by decide +kernel
theorem dX7_read_91 : decode cX7_read 91 = .ok (.bipush 48, 2) := by decide +kernel
theorem dX7_read_93 : decode cX7_read 93 = .ok (.isub, 1) := by decide +kernel
theorem dX7_read_94 : decode cX7_read 94 = .ok (.invokevirtual 183, 3) := by decide +kernel
theorem dX7_read_97 : decode cX7_read 97 = .ok (.iinc 1 1, 3) := by decide +kernel
theorem dX7_read_100 : decode cX7_read 100 = .ok (.goto (-32), 3) := by decide +kernel
theorem dX7_read_103 : decode cX7_read 103 = .ok (.aload_n 0, 1) := by decide +kernel
theorem dX7_read_104 : decode cX7_read 104 = .ok (.aload_n 0, 1) := by decide +kernel
theorem dX7_read_105 : decode cX7_read 105 = .ok (.getfield 59, 3) := by decide +kernel
theorem dX7_read_108 : decode cX7_read 108 = .ok (.invokevirtual 160, 3) := by decide +kernel
theorem dX7_read_111 : decode cX7_read 111 = .ok (.ifCond .eq 13, 3) := by decide +kernel
theorem dX7_read_114 : decode cX7_read 114 = .ok (.new 80, 3) := by decide +kernel
theorem dX7_read_117 : decode cX7_read 117 = .ok (.dup, 1) := by decide +kernel
theorem dX7_read_118 : decode cX7_read 118 = .ok (.ldc 164, 2) := by decide +kernel
theorem dX7_read_120 : decode cX7_read 120 = .ok (.invokespecial 84, 3) := by decide +kernel
theorem dX7_read_123 : decode cX7_read 123 = .ok (.athrow, 1) := by decide +kernel
theorem dX7_read_124 : decode cX7_read 124 = .ok (.aload_n 0, 1) := by decide +kernel
theorem dX7_read_125 : decode cX7_read 125 = .ok (.getfield 28, 3) := by decide +kernel
theorem dX7_read_128 : decode cX7_read 128 = .ok (.invokevirtual 177, 3) := by decide +kernel
theorem dX7_read_131 : decode cX7_read 131 = .ok (.aload_n 0, 1) := by decide +kernel
theorem dX7_read_132 : decode cX7_read 132 = .ok (.aload_n 0, 1) := by decide +kernel
theorem dX7_read_133 : decode cX7_read 133 = .ok (.getfield 59, 3) := by decide +kernel
theorem dX7_read_136 : decode cX7_read 136 = .ok (.invokevirtual 166, 3) := by decide +kernel
theorem dX7_read_139 : decode cX7_read 139 = .ok (.ireturn, 1) := by decide +kernel
theorem dX7_forget_0 : decode cX7_forget 0 = .ok (.aload_n 0, 1) := by decide +kernel
theorem dX7_forget_1 : decode cX7_forget 1 = .ok (.iload_n 1, 1) := by decide +kernel
theorem dX7_forget_2 : decode cX7_forget 2 = .ok (.invokevirtual 185, 3) := by decide +kernel
theorem dX7_forget_5 : decode cX7_forget 5 = .ok (.ifCond .ne 13, 3) := by decide +kernel
theorem dX7_forget_8 : decode cX7_forget 8 = .ok (.new 188, 3) := by decide +kernel
theorem dX7_forget_11 : decode cX7_forget 11 = .ok (.dup, 1) := by decide +kernel
theorem dX7_forget_12 : decode cX7_forget 12 = .ok (.ldc 190, 2) := by decide +kernel
theorem dX7_forget_14 : decode cX7_forget 14 = .ok (.invokespecial 192, 3) := by decide +kernel
theorem dX7_forget_17 : decode cX7_forget 17 = .ok (.athrow, 1) := by decide +kernel
theorem dX7_forget_18 : decode cX7_forget 18 = .ok (.aload_n 0, 1) := by decide +kernel
theorem dX7_forget_19 : decode cX7_forget 19 = .ok (.getfield 19, 3) := by decide +kernel
theorem dX7_forget_22 : decode cX7_forget 22 = .ok (.aload_n 0, 1) := by decide +kernel
theorem dX7_forget_23 : decode cX7_forget 23 = .ok (.getfield 10, 3) := by decide +kernel
theorem dX7_forget_26 : decode cX7_forget 26 = .ok (.invokevirtual 85, 3) := by decide +kernel
theorem dX7_forget_29 : decode cX7_forget 29 = .ok (.aload_n 0, 1) := by decide +kernel
theorem dX7_forget_30 : decode cX7_forget 30 = .ok (.getfield 10, 3) := by decide +kernel
theorem dX7_forget_33 : decode cX7_forget 33 = .ok (.getfield 151, 3) := by decide +kernel
theorem dX7_forget_36 : decode cX7_forget 36 = .ok (.iload_n 1, 1) := by decide +kernel
theorem dX7_forget_37 : decode cX7_forget 37 = .ok (.invokevirtual 193, 3) := by decide +kernel
theorem dX7_forget_40 : decode cX7_forget 40 = .ok (.aload_n 0, 1) := by decide +kernel
theorem dX7_forget_41 : decode cX7_forget 41 = .ok (.invokevirtual 93, 3) := by decide +kernel
theorem dX7_forget_44 : decode cX7_forget 44 = .ok (.aload_n 0, 1) := by decide +kernel
theorem dX7_forget_45 : decode cX7_forget 45 = .ok (.getfield 10, 3) := by decide +kernel
theorem dX7_forget_48 : decode cX7_forget 48 = .ok (.getfield 151, 3) := by decide +kernel
theorem dX7_forget_51 : decode cX7_forget 51 = .ok (.invokevirtual 155, 3) := by decide +kernel
theorem dX7_forget_54 : decode cX7_forget 54 = .ok (.ireturn, 1) := by decide +kernel
theorem dX7_set_0 : decode cX7_set 0 = .ok (.iload_n 1, 1) := by decide +kernel
theorem dX7_set_1 : decode cX7_set 1 = .ok (.invokestatic 196, 3) := by decide +kernel
theorem dX7_set_4 : decode cX7_set 4 = .ok (.ifCond .ne 13, 3) := by decide +kernel
theorem dX7_set_7 : decode cX7_set 7 = .ok (.new 188, 3) := by decide +kernel
theorem dX7_set_10 : decode cX7_set 10 = .ok (.dup, 1) := by decide +kernel
theorem dX7_set_11 : decode cX7_set 11 = .ok (.ldc 199, 2) := by decide +kernel
theorem dX7_set_13 : decode cX7_set 13 = .ok (.invokespecial 192, 3) := by decide +kernel
theorem dX7_set_16 : decode cX7_set 16 = .ok (.athrow, 1) := by decide +kernel
theorem dX7_set_17 : decode cX7_set 17 = .ok (.iload_n 2, 1) := by decide +kernel
theorem dX7_set_18 : decode cX7_set 18 = .ok (.getstatic 201, 3) := by decide +kernel
theorem dX7_set_21 : decode cX7_set 21 = .ok (.iload_n 1, 1) := by decide +kernel
theorem dX7_set_22 : decode cX7_set 22 = .ok (.invokestatic 113, 3) := by decide +kernel
theorem dX7_set_25 : decode cX7_set 25 = .ok (.if_icmp .lt 14, 3) := by decide +kernel
theorem dX7_set_28 : decode cX7_set 28 = .ok (.iload_n 2, 1) := by decide +kernel
theorem dX7_set_29 : decode cX7_set 29 = .ok (.getstatic 204, 3) := by decide +kernel
theorem dX7_set_32 : decode cX7_set 32 = .ok (.iload_n 1, 1) := by decide +kernel
theorem dX7_set_33 : decode cX7_set 33 = .ok (.invokestatic 113, 3) := by decide +kernel
theorem dX7_set_36 : decode cX7_set 36 = .ok (.if_icmp .le 13, 3) := by decide +kernel
theorem dX7_set_39 : decode cX7_set 39 = .ok (.new 66, 3) := by decide +kernel
theorem dX7_set_42 : decode cX7_set 42 = .ok (.dup, 1) := by decide +kernel
theorem dX7_set_43 : decode cX7_set 43 = .ok (.ldc 207, 2) := by decide +kernel
theorem dX7_set_45 : decode cX7_set 45 = .ok (.invokespecial 70, 3) := by decide +kernel
theorem dX7_set_48 : decode cX7_set 48 = .ok (.athrow, 1) := by decide +kernel
theorem dX7_set_49 : decode cX7_set 49 = .ok (.aload_n 0, 1) := by decide +kernel
theorem dX7_set_50 : decode cX7_set 50 = .ok (.getfield 56, 3) := by decide +kernel
theorem dX7_set_53 : decode cX7_set 53 = .ok (.aload_n 0, 1) := by decide +kernel
theorem dX7_set_54 : decode cX7_set 54 = .ok (.getfield 10, 3) := by decide +kernel
theorem dX7_set_57 : decode cX7_set 57 = .ok (.getfield 209, 3) := by decide +kernel
theorem dX7_set_60 : decode cX7_set 60 = .ok (.invokevirtual 212, 3) := by decide +kernel
theorem dX7_set_63 : decode cX7_set 63 = .ok (.aload_n 0, 1) := by decide +kernel
theorem dX7_set_64 : decode cX7_set 64 = .ok (.getfield 56, 3) := by decide +kernel
theorem dX7_set_67 : decode cX7_set 67 = .ok (.iload_n 1, 1) := by decide +kernel
theorem dX7_set_68 : decode cX7_set 68 = .ok (.iload_n 2, 1) := by decide +kernel
theorem dX7_set_69 : decode cX7_set 69 = .ok (.invokevirtual 215, 3) := by decide +kernel
theorem dX7_set_72 : decode cX7_set 72 = .ok (.aload_n 0, 1) := by decide +kernel
theorem dX7_set_73 : decode cX7_set 73 = .ok (.aload_n 0, 1) := by decide +kernel
theorem dX7_set_74 : decode cX7_set 74 = .ok (.getfield 56, 3) := by decide +kernel
theorem dX7_set_77 : decode cX7_set 77 = .ok (.invokevirtual 218, 3) := by decide +kernel
theorem dX7_set_80 : decode cX7_set 80 = .ok (.istore_n 3, 1) := by decide +kernel
theorem dX7_set_81 : decode cX7_set 81 = .ok (.iload_n 3, 1) := by decide +kernel
theorem dX7_set_82 : decode cX7_set 82 = .ok (.iconst (-1), 1) := by decide +kernel
theorem dX7_set_83 : decode cX7_set 83 = .ok (.if_icmp .eq 27, 3) := by decide +kernel
theorem dX7_set_86 : decode cX7_set 86 = .ok (.iload_n 3, 1) := by decide +kernel
theorem dX7_set_87 : decode cX7_set 87 = .ok (.iconst 2, 1) := by decide +kernel
theorem dX7_set_88 : decode cX7_set 88 = .ok (.aload_n 0, 1) := by decide +kernel
theorem dX7_set_89 : decode cX7_set 89 = .ok (.getfield 56, 3) := by decide +kernel
theorem dX7_set_92 : decode cX7_set 92 = .ok (.iconst 4, 1) := by decide +kernel
theorem dX7_set_93 : decode cX7_set 93 = .ok (.invokevirtual 180, 3) := by decide +kernel
theorem dX7_set_96 : decode cX7_set 96 = .ok (.imul, 1) := by decide +kernel
theorem dX7_set_97 : decode cX7_set 97 = .ok (.if_icmp .gt 13, 3) := by decide +kernel
theorem dX7_set_100 : decode cX7_set 100 = .ok (.new 80, 3) := by decide +kernel
theorem dX7_set_103 : decode cX7_set 103 = .ok (.dup, 1) := by decide +kernel
theorem dX7_set_104 : decode cX7_set 104 = .ok (.ldc 221, 2) := by decide +kernel
theorem dX7_set_106 : decode cX7_set 106 = .ok (.invokespecial 84, 3) := by decide +kernel
theorem dX7_set_109 : decode cX7_set 109 = .ok (.athrow, 1) := by decide +kernel
theorem dX7_set_110 : decode cX7_set 110 = .ok (.aload_n 0, 1) := by decide +kernel
theorem dX7_set_111 : decode cX7_set 111 = .ok (.getfield 10, 3) := by decide +kernel
theorem dX7_set_114 : decode cX7_set 114 = .ok (.getfield 209, 3) := by decide +kernel
theorem dX7_set_117 : decode cX7_set 117 = .ok (.iload_n 1, 1) := by decide +kernel
theorem dX7_set_118 : decode cX7_set 118 = .ok (.invokevirtual 180, 3) := by decide +kernel
theorem dX7_set_121 : decode cX7_set 121 = .ok (.istore 4, 2) := by decide +kernel
theorem dX7_set_123 : decode cX7_set 123 = .ok (.aload_n 0, 1) := by decide +kernel
theorem dX7_set_124 : decode cX7_set 124 = .ok (.getfield 19, 3) := by decide +kernel
theorem dX7_set_127 : decode cX7_set 127 = .ok (.aload_n 0, 1) := by decide +kernel
theorem dX7_set_128 : decode cX7_set 128 = .ok (.getfield 10, 3) := by decide +kernel
theorem dX7_set_131 : decode cX7_set 131 = .ok (.invokevirtual 85, 3) := by decide +kernel
theorem dX7_set_134 : decode cX7_set 134 = .ok (.aload_n 0, 1) := by decide +kernel
theorem dX7_set_135 : decode cX7_set 135 = .ok (.getfield 10, 3) := by decide +kernel
theorem dX7_set_138 : decode cX7_set 138 = .ok (.getfield 209, 3) := by decide +kernel
theorem dX7_set_141 : decode cX7_set 141 = .ok (.iload_n 1, 1) := by decide +kernel
theorem dX7_set_142 : decode cX7_set 142 = .ok (.iload_n 2, 1) := by decide +kernel
theorem dX7_set_143 : decode cX7_set 143 = .ok (.invokevirtual 215, 3) := by decide +kernel
theorem dX7_set_146 : decode cX7_set 146 = .ok (.aload_n 0, 1) := by decide +kernel
theorem dX7_set_147 : decode cX7_set 147 = .ok (.invokevirtual 93, 3) := by decide +kernel
theorem dX7_set_150 : decode cX7_set 150 = .ok (.iload 4, 2) := by decide +kernel
theorem dX7_set_152 : decode cX7_set 152 = .ok (.ireturn, 1) := by decide +kernel
theorem dX7_append_0 : decode cX7_append 0 = .ok (.iload_n 1, 1) := by decide +kernel
theorem dX7_append_1 : decode cX7_append 1 = .ok (.bipush 33, 2) := by decide +kernel
theorem dX7_append_3 : decode cX7_append 3 = .ok (.if_icmp .lt 9, 3) := by decide +kernel
theorem dX7_append_6 : decode cX7_append 6 = .ok (.iload_n 1, 1) := by decide +kernel
theorem dX7_append_7 : decode cX7_append 7 = .ok (.bipush 126, 2) := by decide +kernel
theorem dX7_append_9 : decode cX7_append 9 = .ok (.if_icmp .le 13, 3) := by decide +kernel
theorem dX7_append_12 : decode cX7_append 12 = .ok (.new 66, 3) := by decide +kernel
theorem dX7_append_15 : decode cX7_append 15 = .ok (.dup, 1) := by decide +kernel
theorem dX7_append_16 : decode cX7_append 16 = .ok (.ldc 223, 2) := by decide +kernel
theorem dX7_append_18 : decode cX7_append 18 = .ok (.invokespecial 70, 3) := by decide +kernel
theorem dX7_append_21 : decode cX7_append 21 = .ok (.athrow, 1) := by decide +kernel
theorem dX7_append_22 : decode cX7_append 22 = .ok (.aload_n 0, 1) := by decide +kernel
theorem dX7_append_23 : decode cX7_append 23 = .ok (.getfield 28, 3) := by decide +kernel
theorem dX7_append_26 : decode cX7_append 26 = .ok (.invokevirtual 150, 3) := by decide +kernel
theorem dX7_append_29 : decode cX7_append 29 = .ok (.bipush 60, 2) := by decide +kernel
theorem dX7_append_31 : decode cX7_append 31 = .ok (.if_icmp .lt 13, 3) := by decide +kernel
theorem dX7_append_34 : decode cX7_append 34 = .ok (.new 80, 3) := by decide +kernel
theorem dX7_append_37 : decode cX7_append 37 = .ok (.dup, 1) := by decide +kernel
theorem dX7_append_38 : decode cX7_append 38 = .ok (.ldc 225, 2) := by decide +kernel
theorem dX7_append_40 : decode cX7_append 40 = .ok (.invokespecial 84, 3) := by decide +kernel
theorem dX7_append_43 : decode cX7_append 43 = .ok (.athrow, 1) := by decide +kernel
theorem dX7_append_44 : decode cX7_append 44 = .ok (.aload_n 0, 1) := by decide +kernel
theorem dX7_append_45 : decode cX7_append 45 = .ok (.getfield 28, 3) := by decide +kernel
theorem dX7_append_48 : decode cX7_append 48 = .ok (.iload_n 1, 1) := by decide +kernel
theorem dX7_append_49 : decode cX7_append 49 = .ok (.invokevirtual 183, 3) := by decide +kernel
theorem dX7_append_52 : decode cX7_append 52 = .ok (.aload_n 0, 1) := by decide +kernel
theorem dX7_append_53 : decode cX7_append 53 = .ok (.getfield 28, 3) := by decide +kernel
theorem dX7_append_56 : decode cX7_append 56 = .ok (.invokevirtual 150, 3) := by decide +kernel
theorem dX7_append_59 : decode cX7_append 59 = .ok (.ireturn, 1) := by decide +kernel
theorem dX7_clearBuffer_0 : decode cX7_clearBuffer 0 = .ok (.aload_n 0, 1) := by decide +kernel
theorem dX7_clearBuffer_1 : decode cX7_clearBuffer 1 = .ok (.getfield 28, 3) := by decide +kernel
theorem dX7_clearBuffer_4 : decode cX7_clearBuffer 4 = .ok (.invokevirtual 150, 3) := by decide +kernel
theorem dX7_clearBuffer_7 : decode cX7_clearBuffer 7 = .ok (.istore_n 1, 1) := by decide +kernel
theorem dX7_clearBuffer_8 : decode cX7_clearBuffer 8 = .ok (.aload_n 0, 1) := by decide +kernel
theorem dX7_clearBuffer_9 : decode cX7_clearBuffer 9 = .ok (.getfield 28, 3) := by decide +kernel
theorem dX7_clearBuffer_12 : decode cX7_clearBuffer 12 = .ok (.invokevirtual 177, 3) := by decide +kernel
theorem dX7_clearBuffer_15 : decode cX7_clearBuffer 15 = .ok (.iload_n 1, 1) := by decide +kernel
theorem dX7_clearBuffer_16 : decode cX7_clearBuffer 16 = .ok (.ireturn, 1) := by decide +kernel
theorem dX7_firstError_0 : decode cX7_firstError 0 = .ok (.iconst 0, 1) := by decide +kernel
theorem dX7_firstError_1 : decode cX7_firstError 1 = .ok (.istore_n 1, 1) := by decide +kernel
theorem dX7_firstError_2 : decode cX7_firstError 2 = .ok (.iload_n 1, 1) := by decide +kernel
theorem dX7_firstError_3 : decode cX7_firstError 3 = .ok (.aload_n 0, 1) := by decide +kernel
theorem dX7_firstError_4 : decode cX7_firstError 4 = .ok (.getfield 28, 3) := by decide +kernel
theorem dX7_firstError_7 : decode cX7_firstError 7 = .ok (.invokevirtual 150, 3) := by decide +kernel
theorem dX7_firstError_10 : decode cX7_firstError 10 = .ok (.if_icmp .ge 78, 3) := by decide +kernel
theorem dX7_firstError_13 : decode cX7_firstError 13 = .ok (.aload_n 0, 1) := by decide +kernel
theorem dX7_firstError_14 : decode cX7_firstError 14 = .ok (.getfield 28, 3) := by decide +kernel
theorem dX7_firstError_17 : decode cX7_firstError 17 = .ok (.iload_n 1, 1) := by decide +kernel
theorem dX7_firstError_18 : decode cX7_firstError 18 = .ok (.invokevirtual 180, 3) := by decide +kernel
theorem dX7_firstError_21 : decode cX7_firstError 21 = .ok (.istore_n 2, 1) := by decide +kernel
theorem dX7_firstError_22 : decode cX7_firstError 22 = .ok (.iload_n 2, 1) := by decide +kernel
theorem dX7_firstError_23 : decode cX7_firstError 23 = .ok (.bipush 48, 2) := by decide +kernel
theorem dX7_firstError_25 : decode cX7_firstError 25 = .ok (.if_icmp .lt 13, 3) := by decide +kernel
theorem dX7_firstError_28 : decode cX7_firstError 28 = .ok (.iload_n 2, 1) := by decide +kernel
theorem dX7_firstError_29 : decode cX7_firstError 29 = .ok (.bipush 55, 2) := by decide +kernel
theorem dX7_firstError_31 : decode cX7_firstError 31 = .ok (.if_icmp .gt 7, 3) := by decide +kernel
theorem dX7_firstError_34 : decode cX7_firstError 34 = .ok (.iconst 1, 1) := by decide +kernel
theorem dX7_firstError_35 : decode cX7_firstError 35 = .ok (.goto 4, 3) := by decide +kernel
theorem dX7_firstError_38 : decode cX7_firstError 38 = .ok (.iconst 0, 1) := by decide +kernel
theorem dX7_firstError_39 : decode cX7_firstError 39 = .ok (.istore_n 3, 1) := by decide +kernel
theorem dX7_firstError_40 : decode cX7_firstError 40 = .ok (.iload_n 1, 1) := by decide +kernel
theorem dX7_firstError_41 : decode cX7_firstError 41 = .ok (.ifCond .le 21, 3) := by decide +kernel
theorem dX7_firstError_44 : decode cX7_firstError 44 = .ok (.aload_n 0, 1) := by decide +kernel
theorem dX7_firstError_45 : decode cX7_firstError 45 = .ok (.getfield 28, 3) := by decide +kernel
theorem dX7_firstError_48 : decode cX7_firstError 48 = .ok (.iload_n 1, 1) := by decide +kernel
theorem dX7_firstError_49 : decode cX7_firstError 49 = .ok (.iconst 1, 1) := by decide +kernel
theorem dX7_firstError_50 : decode cX7_firstError 50 = .ok (.isub, 1) := by decide +kernel
theorem dX7_firstError_51 : decode cX7_firstError 51 = .ok (.invokevirtual 180, 3) := by decide +kernel
theorem dX7_firstError_54 : decode cX7_firstError 54 = .ok (.iload_n 2, 1) := by decide +kernel
theorem dX7_firstError_55 : decode cX7_firstError 55 = .ok (.if_icmp .ne 7, 3) := by decide +kernel
theorem dX7_firstError_58 : decode cX7_firstError 58 = .ok (.iconst 1, 1) := by decide +kernel
theorem dX7_firstError_59 : decode cX7_firstError 59 = .ok (.goto 4, 3) := by decide +kernel
theorem dX7_firstError_62 : decode cX7_firstError 62 = .ok (.iconst 0, 1) := by decide +kernel
theorem dX7_firstError_63 : decode cX7_firstError 63 = .ok (.istore 4, 2) := by decide +kernel
theorem dX7_firstError_65 : decode cX7_firstError 65 = .ok (.iload_n 1, 1) := by decide +kernel
theorem dX7_firstError_66 : decode cX7_firstError 66 = .ok (.bipush 8, 2) := by decide +kernel
theorem dX7_firstError_68 : decode cX7_firstError 68 = .ok (.if_icmp .ge 12, 3) := by decide +kernel
theorem dX7_firstError_71 : decode cX7_firstError 71 = .ok (.iload_n 3, 1) := by decide +kernel
theorem dX7_firstError_72 : decode cX7_firstError 72 = .ok (.ifCond .eq 8, 3) := by decide +kernel
theorem dX7_firstError_75 : decode cX7_firstError 75 = .ok (.iload 4, 2) := by decide +kernel
theorem dX7_firstError_77 : decode cX7_firstError 77 = .ok (.ifCond .eq 5, 3) := by decide +kernel
theorem dX7_firstError_80 : decode cX7_firstError 80 = .ok (.iload_n 1, 1) := by decide +kernel
theorem dX7_firstError_81 : decode cX7_firstError 81 = .ok (.ireturn, 1) := by decide +kernel
theorem dX7_firstError_82 : decode cX7_firstError 82 = .ok (.iinc 1 1, 3) := by decide +kernel
theorem dX7_firstError_85 : decode cX7_firstError 85 = .ok (.goto (-83), 3) := by decide +kernel
theorem dX7_firstError_88 : decode cX7_firstError 88 = .ok (.aload_n 0, 1) := by decide +kernel
theorem dX7_firstError_89 : decode cX7_firstError 89 = .ok (.getfield 28, 3) := by decide +kernel
theorem dX7_firstError_92 : decode cX7_firstError 92 = .ok (.invokevirtual 150, 3) := by decide +kernel
theorem dX7_firstError_95 : decode cX7_firstError 95 = .ok (.ireturn, 1) := by decide +kernel
theorem dX7_undo_0 : decode cX7_undo 0 = .ok (.aload_n 0, 1) := by decide +kernel
theorem dX7_undo_1 : decode cX7_undo 1 = .ok (.getfield 19, 3) := by decide +kernel
theorem dX7_undo_4 : decode cX7_undo 4 = .ok (.invokevirtual 227, 3) := by decide +kernel
theorem dX7_undo_7 : decode cX7_undo 7 = .ok (.ifCond .ne 13, 3) := by decide +kernel
theorem dX7_undo_10 : decode cX7_undo 10 = .ok (.new 80, 3) := by decide +kernel
theorem dX7_undo_13 : decode cX7_undo 13 = .ok (.dup, 1) := by decide +kernel
theorem dX7_undo_14 : decode cX7_undo 14 = .ok (.ldc 228, 2) := by decide +kernel
theorem dX7_undo_16 : decode cX7_undo 16 = .ok (.invokespecial 84, 3) := by decide +kernel
theorem dX7_undo_19 : decode cX7_undo 19 = .ok (.athrow, 1) := by decide +kernel
theorem dX7_undo_20 : decode cX7_undo 20 = .ok (.aload_n 0, 1) := by decide +kernel
theorem dX7_undo_21 : decode cX7_undo 21 = .ok (.getfield 19, 3) := by decide +kernel
theorem dX7_undo_24 : decode cX7_undo 24 = .ok (.aload_n 0, 1) := by decide +kernel
theorem dX7_undo_25 : decode cX7_undo 25 = .ok (.getfield 10, 3) := by decide +kernel
theorem dX7_undo_28 : decode cX7_undo 28 = .ok (.invokevirtual 230, 3) := by decide +kernel
theorem dX7_undo_31 : decode cX7_undo 31 = .ok (.aload_n 0, 1) := by decide +kernel
theorem dX7_undo_32 : decode cX7_undo 32 = .ok (.invokevirtual 93, 3) := by decide +kernel
theorem dX7_undo_35 : decode cX7_undo 35 = .ok (.aload_n 0, 1) := by decide +kernel
theorem dX7_undo_36 : decode cX7_undo 36 = .ok (.getfield 19, 3) := by decide +kernel
theorem dX7_undo_39 : decode cX7_undo 39 = .ok (.invokevirtual 227, 3) := by decide +kernel
theorem dX7_undo_42 : decode cX7_undo 42 = .ok (.ireturn, 1) := by decide +kernel
theorem dX7_pointOf_0 : decode cX7_pointOf 0 = .ok (.iload_n 1, 1) := by decide +kernel
theorem dX7_pointOf_1 : decode cX7_pointOf 1 = .ok (.ifCond .lt 17, 3) := by decide +kernel
theorem dX7_pointOf_4 : decode cX7_pointOf 4 = .ok (.iload_n 1, 1) := by decide +kernel
theorem dX7_pointOf_5 : decode cX7_pointOf 5 = .ok (.aload_n 0, 1) := by decide +kernel
theorem dX7_pointOf_6 : decode cX7_pointOf 6 = .ok (.getfield 10, 3) := by decide +kernel
theorem dX7_pointOf_9 : decode cX7_pointOf 9 = .ok (.getfield 73, 3) := by decide +kernel
theorem dX7_pointOf_12 : decode cX7_pointOf 12 = .ok (.invokevirtual 76, 3) := by decide +kernel
theorem dX7_pointOf_15 : decode cX7_pointOf 15 = .ok (.if_icmp .lt 13, 3) := by decide +kernel
theorem dX7_pointOf_18 : decode cX7_pointOf 18 = .ok (.new 188, 3) := by decide +kernel
theorem dX7_pointOf_21 : decode cX7_pointOf 21 = .ok (.dup, 1) := by decide +kernel
theorem dX7_pointOf_22 : decode cX7_pointOf 22 = .ok (.ldc 233, 2) := by decide +kernel
theorem dX7_pointOf_24 : decode cX7_pointOf 24 = .ok (.invokespecial 192, 3) := by decide +kernel
theorem dX7_pointOf_27 : decode cX7_pointOf 27 = .ok (.athrow, 1) := by decide +kernel
theorem dX7_pointOf_28 : decode cX7_pointOf 28 = .ok (.iload_n 2, 1) := by decide +kernel
theorem dX7_pointOf_29 : decode cX7_pointOf 29 = .ok (.tableswitch 79 0 3 #[31, 43, 55, 67], 31) := by decide +kernel
theorem dX7_pointOf_60 : decode cX7_pointOf 60 = .ok (.aload_n 0, 1) := by decide +kernel
theorem dX7_pointOf_61 : decode cX7_pointOf 61 = .ok (.getfield 10, 3) := by decide +kernel
theorem dX7_pointOf_64 : decode cX7_pointOf 64 = .ok (.getfield 73, 3) := by decide +kernel
theorem dX7_pointOf_67 : decode cX7_pointOf 67 = .ok (.iload_n 1, 1) := by decide +kernel
theorem dX7_pointOf_68 : decode cX7_pointOf 68 = .ok (.invokevirtual 102, 3) := by decide +kernel
theorem dX7_pointOf_71 : decode cX7_pointOf 71 = .ok (.ireturn, 1) := by decide +kernel
theorem dX7_pointOf_72 : decode cX7_pointOf 72 = .ok (.aload_n 0, 1) := by decide +kernel
theorem dX7_pointOf_73 : decode cX7_pointOf 73 = .ok (.getfield 10, 3) := by decide +kernel
theorem dX7_pointOf_76 : decode cX7_pointOf 76 = .ok (.getfield 73, 3) := by decide +kernel
theorem dX7_pointOf_79 : decode cX7_pointOf 79 = .ok (.iload_n 1, 1) := by decide +kernel
theorem dX7_pointOf_80 : decode cX7_pointOf 80 = .ok (.invokevirtual 106, 3) := by decide +kernel
theorem dX7_pointOf_83 : decode cX7_pointOf 83 = .ok (.ireturn, 1) := by decide +kernel
theorem dX7_pointOf_84 : decode cX7_pointOf 84 = .ok (.aload_n 0, 1) := by decide +kernel
theorem dX7_pointOf_85 : decode cX7_pointOf 85 = .ok (.getfield 10, 3) := by decide +kernel
theorem dX7_pointOf_88 : decode cX7_pointOf 88 = .ok (.getfield 73, 3) := by decide +kernel
theorem dX7_pointOf_91 : decode cX7_pointOf 91 = .ok (.iload_n 1, 1) := by decide +kernel
theorem dX7_pointOf_92 : decode cX7_pointOf 92 = .ok (.invokevirtual 235, 3) := by decide +kernel
theorem dX7_pointOf_95 : decode cX7_pointOf 95 = .ok (.ireturn, 1) := by decide +kernel
theorem dX7_pointOf_96 : decode cX7_pointOf 96 = .ok (.aload_n 0, 1) := by decide +kernel
theorem dX7_pointOf_97 : decode cX7_pointOf 97 = .ok (.getfield 10, 3) := by decide +kernel
theorem dX7_pointOf_100 : decode cX7_pointOf 100 = .ok (.getfield 73, 3) := by decide +kernel
theorem dX7_pointOf_103 : decode cX7_pointOf 103 = .ok (.iload_n 1, 1) := by decide +kernel
theorem dX7_pointOf_104 : decode cX7_pointOf 104 = .ok (.invokevirtual 238, 3) := by decide +kernel
theorem dX7_pointOf_107 : decode cX7_pointOf 107 = .ok (.ireturn, 1) := by decide +kernel
theorem dX7_pointOf_108 : decode cX7_pointOf 108 = .ok (.new 66, 3) := by decide +kernel
theorem dX7_pointOf_111 : decode cX7_pointOf 111 = .ok (.dup, 1) := by decide +kernel
theorem dX7_pointOf_112 : decode cX7_pointOf 112 = .ok (.ldc 241, 2) := by decide +kernel
theorem dX7_pointOf_114 : decode cX7_pointOf 114 = .ok (.invokespecial 70, 3) := by decide +kernel
theorem dX7_pointOf_117 : decode cX7_pointOf 117 = .ok (.athrow, 1) := by decide +kernel
theorem dX7_run_0 : decode cX7_run 0 = .ok (.iload_n 1, 1) := by decide +kernel
theorem dX7_run_1 : decode cX7_run 1 = .ok (.ifCond .lt 12, 3) := by decide +kernel
theorem dX7_run_4 : decode cX7_run 4 = .ok (.iload_n 2, 1) := by decide +kernel
theorem dX7_run_5 : decode cX7_run 5 = .ok (.ifCond .lt 8, 3) := by decide +kernel
theorem dX7_run_8 : decode cX7_run 8 = .ok (.iload_n 2, 1) := by decide +kernel
theorem dX7_run_9 : decode cX7_run 9 = .ok (.iconst 3, 1) := by decide +kernel
theorem dX7_run_10 : decode cX7_run 10 = .ok (.if_icmp .le 13, 3) := by decide +kernel
theorem dX7_run_13 : decode cX7_run 13 = .ok (.new 66, 3) := by decide +kernel
theorem dX7_run_16 : decode cX7_run 16 = .ok (.dup, 1) := by decide +kernel
theorem dX7_run_17 : decode cX7_run 17 = .ok (.ldc 243, 2) := by decide +kernel
theorem dX7_run_19 : decode cX7_run 19 = .ok (.invokespecial 70, 3) := by decide +kernel
theorem dX7_run_22 : decode cX7_run 22 = .ok (.athrow, 1) := by decide +kernel
theorem dX7_run_23 : decode cX7_run 23 = .ok (.iload_n 1, 1) := by decide +kernel
theorem dX7_run_24 : decode cX7_run 24 = .ok (.aload_n 0, 1) := by decide +kernel
theorem dX7_run_25 : decode cX7_run 25 = .ok (.getfield 35, 3) := by decide +kernel
theorem dX7_run_28 : decode cX7_run 28 = .ok (.getfield 245, 3) := by decide +kernel
theorem dX7_run_31 : decode cX7_run 31 = .ok (.invokevirtual 150, 3) := by decide +kernel
theorem dX7_run_34 : decode cX7_run 34 = .ok (.if_icmp .lt 5, 3) := by decide +kernel
theorem dX7_run_37 : decode cX7_run 37 = .ok (.iconst (-1), 1) := by decide +kernel
theorem dX7_run_38 : decode cX7_run 38 = .ok (.ireturn, 1) := by decide +kernel
theorem dX7_run_39 : decode cX7_run 39 = .ok (.iload_n 2, 1) := by decide +kernel
theorem dX7_run_40 : decode cX7_run 40 = .ok (.tableswitch 83 0 2 #[28, 40, 52], 28) := by decide +kernel
theorem dX7_run_68 : decode cX7_run 68 = .ok (.aload_n 0, 1) := by decide +kernel
theorem dX7_run_69 : decode cX7_run 69 = .ok (.getfield 35, 3) := by decide +kernel
theorem dX7_run_72 : decode cX7_run 72 = .ok (.getfield 245, 3) := by decide +kernel
theorem dX7_run_75 : decode cX7_run 75 = .ok (.iload_n 1, 1) := by decide +kernel
theorem dX7_run_76 : decode cX7_run 76 = .ok (.invokevirtual 180, 3) := by decide +kernel
theorem dX7_run_79 : decode cX7_run 79 = .ok (.ireturn, 1) := by decide +kernel
theorem dX7_run_80 : decode cX7_run 80 = .ok (.aload_n 0, 1) := by decide +kernel
theorem dX7_run_81 : decode cX7_run 81 = .ok (.getfield 35, 3) := by decide +kernel
theorem dX7_run_84 : decode cX7_run 84 = .ok (.getfield 248, 3) := by decide +kernel
theorem dX7_run_87 : decode cX7_run 87 = .ok (.iload_n 1, 1) := by decide +kernel
theorem dX7_run_88 : decode cX7_run 88 = .ok (.invokevirtual 180, 3) := by decide +kernel
theorem dX7_run_91 : decode cX7_run 91 = .ok (.ireturn, 1) := by decide +kernel
theorem dX7_run_92 : decode cX7_run 92 = .ok (.aload_n 0, 1) := by decide +kernel
theorem dX7_run_93 : decode cX7_run 93 = .ok (.getfield 35, 3) := by decide +kernel
theorem dX7_run_96 : decode cX7_run 96 = .ok (.getfield 248, 3) := by decide +kernel
theorem dX7_run_99 : decode cX7_run 99 = .ok (.iload_n 1, 1) := by decide +kernel
theorem dX7_run_100 : decode cX7_run 100 = .ok (.invokevirtual 180, 3) := by decide +kernel
theorem dX7_run_103 : decode cX7_run 103 = .ok (.aload_n 0, 1) := by decide +kernel
theorem dX7_run_104 : decode cX7_run 104 = .ok (.getfield 10, 3) := by decide +kernel
theorem dX7_run_107 : decode cX7_run 107 = .ok (.getfield 209, 3) := by decide +kernel
theorem dX7_run_110 : decode cX7_run 110 = .ok (.iconst 0, 1) := by decide +kernel
theorem dX7_run_111 : decode cX7_run 111 = .ok (.invokevirtual 180, 3) := by decide +kernel
theorem dX7_run_114 : decode cX7_run 114 = .ok (.if_icmp .ge 7, 3) := by decide +kernel
theorem dX7_run_117 : decode cX7_run 117 = .ok (.iconst 1, 1) := by decide +kernel
theorem dX7_run_118 : decode cX7_run 118 = .ok (.goto 4, 3) := by decide +kernel
theorem dX7_run_121 : decode cX7_run 121 = .ok (.iconst 0, 1) := by decide +kernel
theorem dX7_run_122 : decode cX7_run 122 = .ok (.ireturn, 1) := by decide +kernel
theorem dX7_run_123 : decode cX7_run 123 = .ok (.aload_n 0, 1) := by decide +kernel
theorem dX7_run_124 : decode cX7_run 124 = .ok (.getfield 35, 3) := by decide +kernel
theorem dX7_run_127 : decode cX7_run 127 = .ok (.getfield 245, 3) := by decide +kernel
theorem dX7_run_130 : decode cX7_run 130 = .ok (.aload_n 0, 1) := by decide +kernel
theorem dX7_run_131 : decode cX7_run 131 = .ok (.getfield 35, 3) := by decide +kernel
theorem dX7_run_134 : decode cX7_run 134 = .ok (.getfield 248, 3) := by decide +kernel
theorem dX7_run_137 : decode cX7_run 137 = .ok (.iload_n 1, 1) := by decide +kernel
theorem dX7_run_138 : decode cX7_run 138 = .ok (.aload_n 0, 1) := by decide +kernel
theorem dX7_run_139 : decode cX7_run 139 = .ok (.getfield 10, 3) := by decide +kernel
theorem dX7_run_142 : decode cX7_run 142 = .ok (.getfield 209, 3) := by decide +kernel
theorem dX7_run_145 : decode cX7_run 145 = .ok (.iconst 1, 1) := by decide +kernel
theorem dX7_run_146 : decode cX7_run 146 = .ok (.invokevirtual 180, 3) := by decide +kernel
theorem dX7_run_149 : decode cX7_run 149 = .ok (.invokestatic 251, 3) := by decide +kernel
theorem dX7_run_152 : decode cX7_run 152 = .ok (.ifCond .eq 7, 3) := by decide +kernel
theorem dX7_run_155 : decode cX7_run 155 = .ok (.iconst 1, 1) := by decide +kernel
theorem dX7_run_156 : decode cX7_run 156 = .ok (.goto 4, 3) := by decide +kernel
theorem dX7_run_159 : decode cX7_run 159 = .ok (.iconst 0, 1) := by decide +kernel
theorem dX7_run_160 : decode cX7_run 160 = .ok (.ireturn, 1) := by decide +kernel
theorem dX7_stroke_0 : decode cX7_stroke 0 = .ok (.iload_n 1, 1) := by decide +kernel
theorem dX7_stroke_1 : decode cX7_stroke 1 = .ok (.ifCond .ge 13, 3) := by decide +kernel
theorem dX7_stroke_4 : decode cX7_stroke 4 = .ok (.new 66, 3) := by decide +kernel
theorem dX7_stroke_7 : decode cX7_stroke 7 = .ok (.dup, 1) := by decide +kernel
theorem dX7_stroke_8 : decode cX7_stroke 8 = .ok (.ldc 255, 2) := by decide +kernel
theorem dX7_stroke_10 : decode cX7_stroke 10 = .ok (.invokespecial 70, 3) := by decide +kernel
theorem dX7_stroke_13 : decode cX7_stroke 13 = .ok (.athrow, 1) := by decide +kernel
theorem dX7_stroke_14 : decode cX7_stroke 14 = .ok (.aload_n 0, 1) := by decide +kernel
theorem dX7_stroke_15 : decode cX7_stroke 15 = .ok (.getfield 35, 3) := by decide +kernel
theorem dX7_stroke_18 : decode cX7_stroke 18 = .ok (.getfield 147, 3) := by decide +kernel
theorem dX7_stroke_21 : decode cX7_stroke 21 = .ok (.iload_n 1, 1) := by decide +kernel
theorem dX7_stroke_22 : decode cX7_stroke 22 = .ok (.invokevirtual 180, 3) := by decide +kernel
theorem dX7_stroke_25 : decode cX7_stroke 25 = .ok (.ireturn, 1) := by decide +kernel
theorem dX7_strokeOf_0 : decode cX7_strokeOf 0 = .ok (.aload_n 0, 1) := by decide +kernel
theorem dX7_strokeOf_1 : decode cX7_strokeOf 1 = .ok (.iload_n 1, 1) := by decide +kernel
theorem dX7_strokeOf_2 : decode cX7_strokeOf 2 = .ok (.invokevirtual 185, 3) := by decide +kernel
theorem dX7_strokeOf_5 : decode cX7_strokeOf 5 = .ok (.ifCond .ne 13, 3) := by decide +kernel
theorem dX7_strokeOf_8 : decode cX7_strokeOf 8 = .ok (.new 188, 3) := by decide +kernel
theorem dX7_strokeOf_11 : decode cX7_strokeOf 11 = .ok (.dup, 1) := by decide +kernel
theorem dX7_strokeOf_12 : decode cX7_strokeOf 12 = .ok (.ldc 190, 2) := by decide +kernel
theorem dX7_strokeOf_14 : decode cX7_strokeOf 14 = .ok (.invokespecial 192, 3) := by decide +kernel
theorem dX7_strokeOf_17 : decode cX7_strokeOf 17 = .ok (.athrow, 1) := by decide +kernel
theorem dX7_strokeOf_18 : decode cX7_strokeOf 18 = .ok (.iload_n 2, 1) := by decide +kernel
theorem dX7_strokeOf_19 : decode cX7_strokeOf 19 = .ok (.ifCond .ge 13, 3) := by decide +kernel
theorem dX7_strokeOf_22 : decode cX7_strokeOf 22 = .ok (.new 66, 3) := by decide +kernel
theorem dX7_strokeOf_25 : decode cX7_strokeOf 25 = .ok (.dup, 1) := by decide +kernel
theorem dX7_strokeOf_26 : decode cX7_strokeOf 26 = .ok (.ldc 255, 2) := by decide +kernel
theorem dX7_strokeOf_28 : decode cX7_strokeOf 28 = .ok (.invokespecial 70, 3) := by decide +kernel
theorem dX7_strokeOf_31 : decode cX7_strokeOf 31 = .ok (.athrow, 1) := by decide +kernel
theorem dX7_strokeOf_32 : decode cX7_strokeOf 32 = .ok (.aload_n 0, 1) := by decide +kernel
theorem dX7_strokeOf_33 : decode cX7_strokeOf 33 = .ok (.getfield 10, 3) := by decide +kernel
theorem dX7_strokeOf_36 : decode cX7_strokeOf 36 = .ok (.getfield 151, 3) := by decide +kernel
theorem dX7_strokeOf_39 : decode cX7_strokeOf 39 = .ok (.iload_n 1, 1) := by decide +kernel
theorem dX7_strokeOf_40 : decode cX7_strokeOf 40 = .ok (.invokevirtual 257, 3) := by decide +kernel
theorem dX7_strokeOf_43 : decode cX7_strokeOf 43 = .ok (.iload_n 2, 1) := by decide +kernel
theorem dX7_strokeOf_44 : decode cX7_strokeOf 44 = .ok (.invokevirtual 180, 3) := by decide +kernel
theorem dX7_strokeOf_47 : decode cX7_strokeOf 47 = .ok (.ireturn, 1) := by decide +kernel
theorem dX7_distance_0 : decode cX7_distance 0 = .ok (.aload_n 0, 1) := by decide +kernel
theorem dX7_distance_1 : decode cX7_distance 1 = .ok (.iload_n 1, 1) := by decide +kernel
theorem dX7_distance_2 : decode cX7_distance 2 = .ok (.invokevirtual 185, 3) := by decide +kernel
theorem dX7_distance_5 : decode cX7_distance 5 = .ok (.ifCond .eq 16, 3) := by decide +kernel
theorem dX7_distance_8 : decode cX7_distance 8 = .ok (.iload_n 2, 1) := by decide +kernel
theorem dX7_distance_9 : decode cX7_distance 9 = .ok (.iconst (-1), 1) := by decide +kernel
theorem dX7_distance_10 : decode cX7_distance 10 = .ok (.if_icmp .eq 21, 3) := by decide +kernel
theorem dX7_distance_13 : decode cX7_distance 13 = .ok (.aload_n 0, 1) := by decide +kernel
theorem dX7_distance_14 : decode cX7_distance 14 = .ok (.iload_n 2, 1) := by decide +kernel
theorem dX7_distance_15 : decode cX7_distance 15 = .ok (.invokevirtual 185, 3) := by decide +kernel
theorem dX7_distance_18 : decode cX7_distance 18 = .ok (.ifCond .ne 13, 3) := by decide +kernel
theorem dX7_distance_21 : decode cX7_distance 21 = .ok (.new 188, 3) := by decide +kernel
theorem dX7_distance_24 : decode cX7_distance 24 = .ok (.dup, 1) := by decide +kernel
theorem dX7_distance_25 : decode cX7_distance 25 = .ok (.ldc 190, 2) := by decide +kernel
theorem dX7_distance_27 : decode cX7_distance 27 = .ok (.invokespecial 192, 3) := by decide +kernel
theorem dX7_distance_30 : decode cX7_distance 30 = .ok (.athrow, 1) := by decide +kernel
theorem dX7_distance_31 : decode cX7_distance 31 = .ok (.iload_n 2, 1) := by decide +kernel
theorem dX7_distance_32 : decode cX7_distance 32 = .ok (.iconst (-1), 1) := by decide +kernel
theorem dX7_distance_33 : decode cX7_distance 33 = .ok (.if_icmp .ne 15, 3) := by decide +kernel
theorem dX7_distance_36 : decode cX7_distance 36 = .ok (.aload_n 0, 1) := by decide +kernel
theorem dX7_distance_37 : decode cX7_distance 37 = .ok (.getfield 35, 3) := by decide +kernel
theorem dX7_distance_40 : decode cX7_distance 40 = .ok (.getfield 260, 3) := by decide +kernel
theorem dX7_distance_43 : decode cX7_distance 43 = .ok (.iload_n 1, 1) := by decide +kernel
theorem dX7_distance_44 : decode cX7_distance 44 = .ok (.invokevirtual 180, 3) := by decide +kernel
theorem dX7_distance_47 : decode cX7_distance 47 = .ok (.ireturn, 1) := by decide +kernel
theorem dX7_distance_48 : decode cX7_distance 48 = .ok (.aload_n 0, 1) := by decide +kernel
theorem dX7_distance_49 : decode cX7_distance 49 = .ok (.getfield 42, 3) := by decide +kernel
theorem dX7_distance_52 : decode cX7_distance 52 = .ok (.aload_n 0, 1) := by decide +kernel
theorem dX7_distance_53 : decode cX7_distance 53 = .ok (.getfield 10, 3) := by decide +kernel
theorem dX7_distance_56 : decode cX7_distance 56 = .ok (.getfield 151, 3) := by decide +kernel
theorem dX7_distance_59 : decode cX7_distance 59 = .ok (.iload_n 2, 1) := by decide +kernel
theorem dX7_distance_60 : decode cX7_distance 60 = .ok (.invokevirtual 257, 3) := by decide +kernel
theorem dX7_distance_63 : decode cX7_distance 63 = .ok (.aload_n 0, 1) := by decide +kernel
theorem dX7_distance_64 : decode cX7_distance 64 = .ok (.getfield 10, 3) := by decide +kernel
theorem dX7_distance_67 : decode cX7_distance 67 = .ok (.getfield 151, 3) := by decide +kernel
theorem dX7_distance_70 : decode cX7_distance 70 = .ok (.iload_n 1, 1) := by decide +kernel
theorem dX7_distance_71 : decode cX7_distance 71 = .ok (.invokevirtual 257, 3) := by decide +kernel
theorem dX7_distance_74 : decode cX7_distance 74 = .ok (.aload_n 0, 1) := by decide +kernel
theorem dX7_distance_75 : decode cX7_distance 75 = .ok (.getfield 10, 3) := by decide +kernel
theorem dX7_distance_78 : decode cX7_distance 78 = .ok (.getfield 209, 3) := by decide +kernel
theorem dX7_distance_81 : decode cX7_distance 81 = .ok (.invokevirtual 263, 3) := by decide +kernel
theorem dX7_distance_84 : decode cX7_distance 84 = .ok (.aload_n 0, 1) := by decide +kernel
theorem dX7_distance_85 : decode cX7_distance 85 = .ok (.getfield 42, 3) := by decide +kernel
theorem dX7_distance_88 : decode cX7_distance 88 = .ok (.invokevirtual 267, 3) := by decide +kernel
theorem dX7_distance_91 : decode cX7_distance 91 = .ok (.ireturn, 1) := by decide +kernel
theorem dX7_reading_0 : decode cX7_reading 0 = .ok (.iload_n 1, 1) := by decide +kernel
theorem dX7_reading_1 : decode cX7_reading 1 = .ok (.tableswitch 94 0 4 #[35, 50, 59, 78, 86], 35) := by decide +kernel
theorem dX7_reading_36 : decode cX7_reading 36 = .ok (.aload_n 0, 1) := by decide +kernel
theorem dX7_reading_37 : decode cX7_reading 37 = .ok (.getfield 35, 3) := by decide +kernel
theorem dX7_reading_40 : decode cX7_reading 40 = .ok (.aload_n 0, 1) := by decide +kernel
theorem dX7_reading_41 : decode cX7_reading 41 = .ok (.getfield 10, 3) := by decide +kernel
theorem dX7_reading_44 : decode cX7_reading 44 = .ok (.getfield 209, 3) := by decide +kernel
theorem dX7_reading_47 : decode cX7_reading 47 = .ok (.invokevirtual 270, 3) := by decide +kernel
theorem dX7_reading_50 : decode cX7_reading 50 = .ok (.ireturn, 1) := by decide +kernel
theorem dX7_reading_51 : decode cX7_reading 51 = .ok (.aload_n 0, 1) := by decide +kernel
theorem dX7_reading_52 : decode cX7_reading 52 = .ok (.getfield 35, 3) := by decide +kernel
theorem dX7_reading_55 : decode cX7_reading 55 = .ok (.iconst (-1), 1) := by decide +kernel
theorem dX7_reading_56 : decode cX7_reading 56 = .ok (.invokevirtual 273, 3) := by decide +kernel
theorem dX7_reading_59 : decode cX7_reading 59 = .ok (.ireturn, 1) := by decide +kernel
theorem dX7_reading_60 : decode cX7_reading 60 = .ok (.aload_n 0, 1) := by decide +kernel
theorem dX7_reading_61 : decode cX7_reading 61 = .ok (.getfield 35, 3) := by decide +kernel
theorem dX7_reading_64 : decode cX7_reading 64 = .ok (.getfield 260, 3) := by decide +kernel
theorem dX7_reading_67 : decode cX7_reading 67 = .ok (.aload_n 0, 1) := by decide +kernel
theorem dX7_reading_68 : decode cX7_reading 68 = .ok (.getfield 35, 3) := by decide +kernel
theorem dX7_reading_71 : decode cX7_reading 71 = .ok (.iconst (-1), 1) := by decide +kernel
theorem dX7_reading_72 : decode cX7_reading 72 = .ok (.invokevirtual 273, 3) := by decide +kernel
theorem dX7_reading_75 : decode cX7_reading 75 = .ok (.invokevirtual 180, 3) := by decide +kernel
theorem dX7_reading_78 : decode cX7_reading 78 = .ok (.ireturn, 1) := by decide +kernel
theorem dX7_reading_79 : decode cX7_reading 79 = .ok (.aload_n 0, 1) := by decide +kernel
theorem dX7_reading_80 : decode cX7_reading 80 = .ok (.getfield 35, 3) := by decide +kernel
theorem dX7_reading_83 : decode cX7_reading 83 = .ok (.invokevirtual 276, 3) := by decide +kernel
theorem dX7_reading_86 : decode cX7_reading 86 = .ok (.ireturn, 1) := by decide +kernel
theorem dX7_reading_87 : decode cX7_reading 87 = .ok (.aload_n 0, 1) := by decide +kernel
theorem dX7_reading_88 : decode cX7_reading 88 = .ok (.getfield 35, 3) := by decide +kernel
theorem dX7_reading_91 : decode cX7_reading 91 = .ok (.invokevirtual 279, 3) := by decide +kernel
theorem dX7_reading_94 : decode cX7_reading 94 = .ok (.ireturn, 1) := by decide +kernel
theorem dX7_reading_95 : decode cX7_reading 95 = .ok (.new 66, 3) := by decide +kernel
theorem dX7_reading_98 : decode cX7_reading 98 = .ok (.dup, 1) := by decide +kernel
theorem dX7_reading_99 : decode cX7_reading 99 = .ok (.ldc_w 282, 3) := by decide +kernel
theorem dX7_reading_102 : decode cX7_reading 102 = .ok (.invokespecial 70, 3) := by decide +kernel
theorem dX7_reading_105 : decode cX7_reading 105 = .ok (.athrow, 1) := by decide +kernel
theorem dX7_count_0 : decode cX7_count 0 = .ok (.iload_n 1, 1) := by decide +kernel
theorem dX7_count_1 : decode cX7_count 1 = .ok (.tableswitch 145 0 8 #[51, 62, 73, 84, 95, 103, 114, 125, 137], 51) := by decide +kernel
theorem dX7_count_52 : decode cX7_count 52 = .ok (.aload_n 0, 1) := by decide +kernel
theorem dX7_count_53 : decode cX7_count 53 = .ok (.getfield 10, 3) := by decide +kernel
theorem dX7_count_56 : decode cX7_count 56 = .ok (.getfield 73, 3) := by decide +kernel
theorem dX7_count_59 : decode cX7_count 59 = .ok (.invokevirtual 76, 3) := by decide +kernel
theorem dX7_count_62 : decode cX7_count 62 = .ok (.ireturn, 1) := by decide +kernel
theorem dX7_count_63 : decode cX7_count 63 = .ok (.aload_n 0, 1) := by decide +kernel
theorem dX7_count_64 : decode cX7_count 64 = .ok (.getfield 35, 3) := by decide +kernel
theorem dX7_count_67 : decode cX7_count 67 = .ok (.getfield 245, 3) := by decide +kernel
theorem dX7_count_70 : decode cX7_count 70 = .ok (.invokevirtual 150, 3) := by decide +kernel
theorem dX7_count_73 : decode cX7_count 73 = .ok (.ireturn, 1) := by decide +kernel
theorem dX7_count_74 : decode cX7_count 74 = .ok (.aload_n 0, 1) := by decide +kernel
theorem dX7_count_75 : decode cX7_count 75 = .ok (.getfield 35, 3) := by decide +kernel
theorem dX7_count_78 : decode cX7_count 78 = .ok (.getfield 147, 3) := by decide +kernel
theorem dX7_count_81 : decode cX7_count 81 = .ok (.invokevirtual 150, 3) := by decide +kernel
theorem dX7_count_84 : decode cX7_count 84 = .ok (.ireturn, 1) := by decide +kernel
theorem dX7_count_85 : decode cX7_count 85 = .ok (.aload_n 0, 1) := by decide +kernel
theorem dX7_count_86 : decode cX7_count 86 = .ok (.getfield 35, 3) := by decide +kernel
theorem dX7_count_89 : decode cX7_count 89 = .ok (.getfield 248, 3) := by decide +kernel
theorem dX7_count_92 : decode cX7_count 92 = .ok (.invokevirtual 284, 3) := by decide +kernel
theorem dX7_count_95 : decode cX7_count 95 = .ok (.ireturn, 1) := by decide +kernel
theorem dX7_count_96 : decode cX7_count 96 = .ok (.aload_n 0, 1) := by decide +kernel
theorem dX7_count_97 : decode cX7_count 97 = .ok (.getfield 35, 3) := by decide +kernel
theorem dX7_count_100 : decode cX7_count 100 = .ok (.getfield 287, 3) := by decide +kernel
theorem dX7_count_103 : decode cX7_count 103 = .ok (.ireturn, 1) := by decide +kernel
theorem dX7_count_104 : decode cX7_count 104 = .ok (.aload_n 0, 1) := by decide +kernel
theorem dX7_count_105 : decode cX7_count 105 = .ok (.getfield 10, 3) := by decide +kernel
theorem dX7_count_108 : decode cX7_count 108 = .ok (.getfield 151, 3) := by decide +kernel
theorem dX7_count_111 : decode cX7_count 111 = .ok (.invokevirtual 155, 3) := by decide +kernel
theorem dX7_count_114 : decode cX7_count 114 = .ok (.ireturn, 1) := by decide +kernel
theorem dX7_count_115 : decode cX7_count 115 = .ok (.aload_n 0, 1) := by decide +kernel
theorem dX7_count_116 : decode cX7_count 116 = .ok (.getfield 10, 3) := by decide +kernel
theorem dX7_count_119 : decode cX7_count 119 = .ok (.getfield 151, 3) := by decide +kernel
theorem dX7_count_122 : decode cX7_count 122 = .ok (.invokevirtual 291, 3) := by decide +kernel
theorem dX7_count_125 : decode cX7_count 125 = .ok (.ireturn, 1) := by decide +kernel
theorem dX7_count_126 : decode cX7_count 126 = .ok (.aload_n 0, 1) := by decide +kernel
theorem dX7_count_127 : decode cX7_count 127 = .ok (.aload_n 0, 1) := by decide +kernel
theorem dX7_count_128 : decode cX7_count 128 = .ok (.getfield 10, 3) := by decide +kernel
theorem dX7_count_131 : decode cX7_count 131 = .ok (.getfield 209, 3) := by decide +kernel
theorem dX7_count_134 : decode cX7_count 134 = .ok (.invokevirtual 218, 3) := by decide +kernel
theorem dX7_count_137 : decode cX7_count 137 = .ok (.ireturn, 1) := by decide +kernel
theorem dX7_count_138 : decode cX7_count 138 = .ok (.aload_n 0, 1) := by decide +kernel
theorem dX7_count_139 : decode cX7_count 139 = .ok (.getfield 19, 3) := by decide +kernel
theorem dX7_count_142 : decode cX7_count 142 = .ok (.invokevirtual 227, 3) := by decide +kernel
theorem dX7_count_145 : decode cX7_count 145 = .ok (.ireturn, 1) := by decide +kernel
theorem dX7_count_146 : decode cX7_count 146 = .ok (.new 66, 3) := by decide +kernel
theorem dX7_count_149 : decode cX7_count 149 = .ok (.dup, 1) := by decide +kernel
theorem dX7_count_150 : decode cX7_count 150 = .ok (.ldc_w 294, 3) := by decide +kernel
theorem dX7_count_153 : decode cX7_count 153 = .ok (.invokespecial 70, 3) := by decide +kernel
theorem dX7_count_156 : decode cX7_count 156 = .ok (.athrow, 1) := by decide +kernel
theorem dX7_setting_0 : decode cX7_setting 0 = .ok (.iload_n 1, 1) := by decide +kernel
theorem dX7_setting_1 : decode cX7_setting 1 = .ok (.invokestatic 196, 3) := by decide +kernel
theorem dX7_setting_4 : decode cX7_setting 4 = .ok (.ifCond .ne 13, 3) := by decide +kernel
theorem dX7_setting_7 : decode cX7_setting 7 = .ok (.new 188, 3) := by decide +kernel
theorem dX7_setting_10 : decode cX7_setting 10 = .ok (.dup, 1) := by decide +kernel
theorem dX7_setting_11 : decode cX7_setting 11 = .ok (.ldc 199, 2) := by decide +kernel
theorem dX7_setting_13 : decode cX7_setting 13 = .ok (.invokespecial 192, 3) := by decide +kernel
theorem dX7_setting_16 : decode cX7_setting 16 = .ok (.athrow, 1) := by decide +kernel
theorem dX7_setting_17 : decode cX7_setting 17 = .ok (.aload_n 0, 1) := by decide +kernel
theorem dX7_setting_18 : decode cX7_setting 18 = .ok (.getfield 10, 3) := by decide +kernel
theorem dX7_setting_21 : decode cX7_setting 21 = .ok (.getfield 209, 3) := by decide +kernel
theorem dX7_setting_24 : decode cX7_setting 24 = .ok (.iload_n 1, 1) := by decide +kernel
theorem dX7_setting_25 : decode cX7_setting 25 = .ok (.invokevirtual 180, 3) := by decide +kernel
theorem dX7_setting_28 : decode cX7_setting 28 = .ok (.ireturn, 1) := by decide +kernel
theorem dX7_ifPoint_0 : decode cX7_ifPoint 0 = .ok (.iload_n 1, 1) := by decide +kernel
theorem dX7_ifPoint_1 : decode cX7_ifPoint 1 = .ok (.iload_n 2, 1) := by decide +kernel
theorem dX7_ifPoint_2 : decode cX7_ifPoint 2 = .ok (.invokestatic 62, 3) := by decide +kernel
theorem dX7_ifPoint_5 : decode cX7_ifPoint 5 = .ok (.ifCond .ne 13, 3) := by decide +kernel
theorem dX7_ifPoint_8 : decode cX7_ifPoint 8 = .ok (.new 66, 3) := by decide +kernel
theorem dX7_ifPoint_11 : decode cX7_ifPoint 11 = .ok (.dup, 1) := by decide +kernel
theorem dX7_ifPoint_12 : decode cX7_ifPoint 12 = .ok (.ldc 68, 2) := by decide +kernel
theorem dX7_ifPoint_14 : decode cX7_ifPoint 14 = .ok (.invokespecial 70, 3) := by decide +kernel
theorem dX7_ifPoint_17 : decode cX7_ifPoint 17 = .ok (.athrow, 1) := by decide +kernel
theorem dX7_ifPoint_18 : decode cX7_ifPoint 18 = .ok (.aload_n 0, 1) := by decide +kernel
theorem dX7_ifPoint_19 : decode cX7_ifPoint 19 = .ok (.getfield 49, 3) := by decide +kernel
theorem dX7_ifPoint_22 : decode cX7_ifPoint 22 = .ok (.aload_n 0, 1) := by decide +kernel
theorem dX7_ifPoint_23 : decode cX7_ifPoint 23 = .ok (.getfield 10, 3) := by decide +kernel
theorem dX7_ifPoint_26 : decode cX7_ifPoint 26 = .ok (.getfield 73, 3) := by decide +kernel
theorem dX7_ifPoint_29 : decode cX7_ifPoint 29 = .ok (.invokevirtual 143, 3) := by decide +kernel
theorem dX7_ifPoint_32 : decode cX7_ifPoint 32 = .ok (.aload_n 0, 1) := by decide +kernel
theorem dX7_ifPoint_33 : decode cX7_ifPoint 33 = .ok (.getfield 49, 3) := by decide +kernel
theorem dX7_ifPoint_36 : decode cX7_ifPoint 36 = .ok (.iload_n 1, 1) := by decide +kernel
theorem dX7_ifPoint_37 : decode cX7_ifPoint 37 = .ok (.iload_n 2, 1) := by decide +kernel
theorem dX7_ifPoint_38 : decode cX7_ifPoint 38 = .ok (.invokevirtual 89, 3) := by decide +kernel
theorem dX7_ifPoint_41 : decode cX7_ifPoint 41 = .ok (.aload_n 0, 1) := by decide +kernel
theorem dX7_ifPoint_42 : decode cX7_ifPoint 42 = .ok (.getfield 53, 3) := by decide +kernel
theorem dX7_ifPoint_45 : decode cX7_ifPoint 45 = .ok (.aload_n 0, 1) := by decide +kernel
theorem dX7_ifPoint_46 : decode cX7_ifPoint 46 = .ok (.getfield 49, 3) := by decide +kernel
theorem dX7_ifPoint_49 : decode cX7_ifPoint 49 = .ok (.aload_n 0, 1) := by decide +kernel
theorem dX7_ifPoint_50 : decode cX7_ifPoint 50 = .ok (.getfield 10, 3) := by decide +kernel
theorem dX7_ifPoint_53 : decode cX7_ifPoint 53 = .ok (.invokevirtual 296, 3) := by decide +kernel
theorem dX7_ifPoint_56 : decode cX7_ifPoint 56 = .ok (.aload_n 0, 1) := by decide +kernel
theorem dX7_ifPoint_57 : decode cX7_ifPoint 57 = .ok (.getfield 53, 3) := by decide +kernel
theorem dX7_ifPoint_60 : decode cX7_ifPoint 60 = .ok (.aload_n 0, 1) := by decide +kernel
theorem dX7_ifPoint_61 : decode cX7_ifPoint 61 = .ok (.getfield 10, 3) := by decide +kernel
theorem dX7_ifPoint_64 : decode cX7_ifPoint 64 = .ok (.getfield 209, 3) := by decide +kernel
theorem dX7_ifPoint_67 : decode cX7_ifPoint 67 = .ok (.invokevirtual 270, 3) := by decide +kernel
theorem dX7_ifPoint_70 : decode cX7_ifPoint 70 = .ok (.ireturn, 1) := by decide +kernel
theorem dX7_against_0 : decode cX7_against 0 = .ok (.aload_n 0, 1) := by decide +kernel
theorem dX7_against_1 : decode cX7_against 1 = .ok (.getfield 35, 3) := by decide +kernel
theorem dX7_against_4 : decode cX7_against 4 = .ok (.iconst (-1), 1) := by decide +kernel
theorem dX7_against_5 : decode cX7_against 5 = .ok (.invokevirtual 273, 3) := by decide +kernel
theorem dX7_against_8 : decode cX7_against 8 = .ok (.istore_n 1, 1) := by decide +kernel
theorem dX7_against_9 : decode cX7_against 9 = .ok (.iload_n 1, 1) := by decide +kernel
theorem dX7_against_10 : decode cX7_against 10 = .ok (.iconst (-1), 1) := by decide +kernel
theorem dX7_against_11 : decode cX7_against 11 = .ok (.if_icmp .eq 30, 3) := by decide +kernel
theorem dX7_against_14 : decode cX7_against 14 = .ok (.aload_n 0, 1) := by decide +kernel
theorem dX7_against_15 : decode cX7_against 15 = .ok (.getfield 35, 3) := by decide +kernel
theorem dX7_against_18 : decode cX7_against 18 = .ok (.getfield 260, 3) := by decide +kernel
theorem dX7_against_21 : decode cX7_against 21 = .ok (.iload_n 1, 1) := by decide +kernel
theorem dX7_against_22 : decode cX7_against 22 = .ok (.invokevirtual 180, 3) := by decide +kernel
theorem dX7_against_25 : decode cX7_against 25 = .ok (.iconst 2, 1) := by decide +kernel
theorem dX7_against_26 : decode cX7_against 26 = .ok (.aload_n 0, 1) := by decide +kernel
theorem dX7_against_27 : decode cX7_against 27 = .ok (.getfield 10, 3) := by decide +kernel
theorem dX7_against_30 : decode cX7_against 30 = .ok (.getfield 209, 3) := by decide +kernel
theorem dX7_against_33 : decode cX7_against 33 = .ok (.iconst 4, 1) := by decide +kernel
theorem dX7_against_34 : decode cX7_against 34 = .ok (.invokevirtual 180, 3) := by decide +kernel
theorem dX7_against_37 : decode cX7_against 37 = .ok (.imul, 1) := by decide +kernel
theorem dX7_against_38 : decode cX7_against 38 = .ok (.if_icmp .le 5, 3) := by decide +kernel
theorem dX7_against_41 : decode cX7_against 41 = .ok (.iconst (-1), 1) := by decide +kernel
theorem dX7_against_42 : decode cX7_against 42 = .ok (.ireturn, 1) := by decide +kernel
theorem dX7_against_43 : decode cX7_against 43 = .ok (.iload_n 1, 1) := by decide +kernel
theorem dX7_against_44 : decode cX7_against 44 = .ok (.ireturn, 1) := by decide +kernel
theorem dX7_mostForgiven_0 : decode cX7_mostForgiven 0 = .ok (.aload_n 0, 1) := by decide +kernel
theorem dX7_mostForgiven_1 : decode cX7_mostForgiven 1 = .ok (.aload_n 0, 1) := by decide +kernel
theorem dX7_mostForgiven_2 : decode cX7_mostForgiven 2 = .ok (.getfield 10, 3) := by decide +kernel
theorem dX7_mostForgiven_5 : decode cX7_mostForgiven 5 = .ok (.getfield 209, 3) := by decide +kernel
theorem dX7_mostForgiven_8 : decode cX7_mostForgiven 8 = .ok (.invokevirtual 218, 3) := by decide +kernel
theorem dX7_mostForgiven_11 : decode cX7_mostForgiven 11 = .ok (.istore_n 1, 1) := by decide +kernel
theorem dX7_mostForgiven_12 : decode cX7_mostForgiven 12 = .ok (.getstatic 204, 3) := by decide +kernel
theorem dX7_mostForgiven_15 : decode cX7_mostForgiven 15 = .ok (.iconst 4, 1) := by decide +kernel
theorem dX7_mostForgiven_16 : decode cX7_mostForgiven 16 = .ok (.invokestatic 113, 3) := by decide +kernel
theorem dX7_mostForgiven_19 : decode cX7_mostForgiven 19 = .ok (.istore_n 2, 1) := by decide +kernel
theorem dX7_mostForgiven_20 : decode cX7_mostForgiven 20 = .ok (.iload_n 2, 1) := by decide +kernel
theorem dX7_mostForgiven_21 : decode cX7_mostForgiven 21 = .ok (.ifCond .lt 23, 3) := by decide +kernel
theorem dX7_mostForgiven_24 : decode cX7_mostForgiven 24 = .ok (.iload_n 1, 1) := by decide +kernel
theorem dX7_mostForgiven_25 : decode cX7_mostForgiven 25 = .ok (.iconst (-1), 1) := by decide +kernel
theorem dX7_mostForgiven_26 : decode cX7_mostForgiven 26 = .ok (.if_icmp .eq 10, 3) := by decide +kernel
theorem dX7_mostForgiven_29 : decode cX7_mostForgiven 29 = .ok (.iload_n 1, 1) := by decide +kernel
theorem dX7_mostForgiven_30 : decode cX7_mostForgiven 30 = .ok (.iconst 2, 1) := by decide +kernel
theorem dX7_mostForgiven_31 : decode cX7_mostForgiven 31 = .ok (.iload_n 2, 1) := by decide +kernel
theorem dX7_mostForgiven_32 : decode cX7_mostForgiven 32 = .ok (.imul, 1) := by decide +kernel
theorem dX7_mostForgiven_33 : decode cX7_mostForgiven 33 = .ok (.if_icmp .le 5, 3) := by decide +kernel
theorem dX7_mostForgiven_36 : decode cX7_mostForgiven 36 = .ok (.iload_n 2, 1) := by decide +kernel
theorem dX7_mostForgiven_37 : decode cX7_mostForgiven 37 = .ok (.ireturn, 1) := by decide +kernel
theorem dX7_mostForgiven_38 : decode cX7_mostForgiven 38 = .ok (.iinc 2 (-1), 3) := by decide +kernel
theorem dX7_mostForgiven_41 : decode cX7_mostForgiven 41 = .ok (.goto (-21), 3) := by decide +kernel
theorem dX7_mostForgiven_44 : decode cX7_mostForgiven 44 = .ok (.iconst (-1), 1) := by decide +kernel
theorem dX7_mostForgiven_45 : decode cX7_mostForgiven 45 = .ok (.ireturn, 1) := by decide +kernel
theorem dX7_straightness_0 : decode cX7_straightness 0 = .ok (.aload_n 0, 1) := by decide +kernel
theorem dX7_straightness_1 : decode cX7_straightness 1 = .ok (.getfield 35, 3) := by decide +kernel
theorem dX7_straightness_4 : decode cX7_straightness 4 = .ok (.getfield 248, 3) := by decide +kernel
theorem dX7_straightness_7 : decode cX7_straightness 7 = .ok (.invokevirtual 284, 3) := by decide +kernel
theorem dX7_straightness_10 : decode cX7_straightness 10 = .ok (.istore_n 1, 1) := by decide +kernel
theorem dX7_straightness_11 : decode cX7_straightness 11 = .ok (.iload_n 1, 1) := by decide +kernel
theorem dX7_straightness_12 : decode cX7_straightness 12 = .ok (.ifCond .gt 8, 3) := by decide +kernel
theorem dX7_straightness_15 : decode cX7_straightness 15 = .ok (.fconst 1, 1) := by decide +kernel
theorem dX7_straightness_16 : decode cX7_straightness 16 = .ok (.invokestatic 300, 3) := by decide +kernel
theorem dX7_straightness_19 : decode cX7_straightness 19 = .ok (.ireturn, 1) := by decide +kernel
theorem dX7_straightness_20 : decode cX7_straightness 20 = .ok (.aload_n 0, 1) := by decide +kernel
theorem dX7_straightness_21 : decode cX7_straightness 21 = .ok (.getfield 10, 3) := by decide +kernel
theorem dX7_straightness_24 : decode cX7_straightness 24 = .ok (.getfield 73, 3) := by decide +kernel
theorem dX7_straightness_27 : decode cX7_straightness 27 = .ok (.invokevirtual 304, 3) := by decide +kernel
theorem dX7_straightness_30 : decode cX7_straightness 30 = .ok (.i2f, 1) := by decide +kernel
theorem dX7_straightness_31 : decode cX7_straightness 31 = .ok (.iload_n 1, 1) := by decide +kernel
theorem dX7_straightness_32 : decode cX7_straightness 32 = .ok (.i2f, 1) := by decide +kernel
theorem dX7_straightness_33 : decode cX7_straightness 33 = .ok (.fdiv, 1) := by decide +kernel
theorem dX7_straightness_34 : decode cX7_straightness 34 = .ok (.invokestatic 300, 3) := by decide +kernel
theorem dX7_straightness_37 : decode cX7_straightness 37 = .ok (.ireturn, 1) := by decide +kernel
theorem dX7_doubt_0 : decode cX7_doubt 0 = .ok (.aload_n 0, 1) := by decide +kernel
theorem dX7_doubt_1 : decode cX7_doubt 1 = .ok (.getfield 35, 3) := by decide +kernel
theorem dX7_doubt_4 : decode cX7_doubt 4 = .ok (.iconst (-1), 1) := by decide +kernel
theorem dX7_doubt_5 : decode cX7_doubt 5 = .ok (.invokevirtual 273, 3) := by decide +kernel
theorem dX7_doubt_8 : decode cX7_doubt 8 = .ok (.istore_n 1, 1) := by decide +kernel
theorem dX7_doubt_9 : decode cX7_doubt 9 = .ok (.aload_n 0, 1) := by decide +kernel
theorem dX7_doubt_10 : decode cX7_doubt 10 = .ok (.getfield 35, 3) := by decide +kernel
theorem dX7_doubt_13 : decode cX7_doubt 13 = .ok (.iload_n 1, 1) := by decide +kernel
theorem dX7_doubt_14 : decode cX7_doubt 14 = .ok (.invokevirtual 273, 3) := by decide +kernel
theorem dX7_doubt_17 : decode cX7_doubt 17 = .ok (.istore_n 2, 1) := by decide +kernel
theorem dX7_doubt_18 : decode cX7_doubt 18 = .ok (.iload_n 1, 1) := by decide +kernel
theorem dX7_doubt_19 : decode cX7_doubt 19 = .ok (.iconst (-1), 1) := by decide +kernel
theorem dX7_doubt_20 : decode cX7_doubt 20 = .ok (.if_icmp .eq 8, 3) := by decide +kernel
theorem dX7_doubt_23 : decode cX7_doubt 23 = .ok (.iload_n 2, 1) := by decide +kernel
theorem dX7_doubt_24 : decode cX7_doubt 24 = .ok (.iconst (-1), 1) := by decide +kernel
theorem dX7_doubt_25 : decode cX7_doubt 25 = .ok (.if_icmp .ne 5, 3) := by decide +kernel
theorem dX7_doubt_28 : decode cX7_doubt 28 = .ok (.dconst 0, 1) := by decide +kernel
theorem dX7_doubt_29 : decode cX7_doubt 29 = .ok (.dreturn, 1) := by decide +kernel
theorem dX7_doubt_30 : decode cX7_doubt 30 = .ok (.aload_n 0, 1) := by decide +kernel
theorem dX7_doubt_31 : decode cX7_doubt 31 = .ok (.getfield 35, 3) := by decide +kernel
theorem dX7_doubt_34 : decode cX7_doubt 34 = .ok (.getfield 260, 3) := by decide +kernel
theorem dX7_doubt_37 : decode cX7_doubt 37 = .ok (.iload_n 2, 1) := by decide +kernel
theorem dX7_doubt_38 : decode cX7_doubt 38 = .ok (.invokevirtual 180, 3) := by decide +kernel
theorem dX7_doubt_41 : decode cX7_doubt 41 = .ok (.istore_n 3, 1) := by decide +kernel
theorem dX7_doubt_42 : decode cX7_doubt 42 = .ok (.iload_n 3, 1) := by decide +kernel
theorem dX7_doubt_43 : decode cX7_doubt 43 = .ok (.ifCond .gt 5, 3) := by decide +kernel
theorem dX7_doubt_46 : decode cX7_doubt 46 = .ok (.dconst 0, 1) := by decide +kernel
theorem dX7_doubt_47 : decode cX7_doubt 47 = .ok (.dreturn, 1) := by decide +kernel
theorem dX7_doubt_48 : decode cX7_doubt 48 = .ok (.aload_n 0, 1) := by decide +kernel
theorem dX7_doubt_49 : decode cX7_doubt 49 = .ok (.getfield 35, 3) := by decide +kernel
theorem dX7_doubt_52 : decode cX7_doubt 52 = .ok (.getfield 260, 3) := by decide +kernel
theorem dX7_doubt_55 : decode cX7_doubt 55 = .ok (.iload_n 1, 1) := by decide +kernel
theorem dX7_doubt_56 : decode cX7_doubt 56 = .ok (.invokevirtual 180, 3) := by decide +kernel
theorem dX7_doubt_59 : decode cX7_doubt 59 = .ok (.i2d, 1) := by decide +kernel
theorem dX7_doubt_60 : decode cX7_doubt 60 = .ok (.iload_n 3, 1) := by decide +kernel
theorem dX7_doubt_61 : decode cX7_doubt 61 = .ok (.i2d, 1) := by decide +kernel
theorem dX7_doubt_62 : decode cX7_doubt 62 = .ok (.ddiv, 1) := by decide +kernel
theorem dX7_doubt_63 : decode cX7_doubt 63 = .ok (.dreturn, 1) := by decide +kernel
theorem dX7_digest_0 : decode cX7_digest 0 = .ok (.ldc2_w 307, 3) := by decide +kernel
theorem dX7_digest_3 : decode cX7_digest 3 = .ok (.lstore_n 1, 1) := by decide +kernel
theorem dX7_digest_4 : decode cX7_digest 4 = .ok (.iconst 0, 1) := by decide +kernel
theorem dX7_digest_5 : decode cX7_digest 5 = .ok (.istore_n 3, 1) := by decide +kernel
theorem dX7_digest_6 : decode cX7_digest 6 = .ok (.iload_n 3, 1) := by decide +kernel
theorem dX7_digest_7 : decode cX7_digest 7 = .ok (.bipush 8, 2) := by decide +kernel
theorem dX7_digest_9 : decode cX7_digest 9 = .ok (.if_icmp .gt 22, 3) := by decide +kernel
theorem dX7_digest_12 : decode cX7_digest 12 = .ok (.ldc2_w 309, 3) := by decide +kernel
theorem dX7_digest_15 : decode cX7_digest 15 = .ok (.lload_n 1, 1) := by decide +kernel
theorem dX7_digest_16 : decode cX7_digest 16 = .ok (.lmul, 1) := by decide +kernel
theorem dX7_digest_17 : decode cX7_digest 17 = .ok (.aload_n 0, 1) := by decide +kernel
theorem dX7_digest_18 : decode cX7_digest 18 = .ok (.iload_n 3, 1) := by decide +kernel
theorem dX7_digest_19 : decode cX7_digest 19 = .ok (.invokevirtual 311, 3) := by decide +kernel
theorem dX7_digest_22 : decode cX7_digest 22 = .ok (.i2l, 1) := by decide +kernel
theorem dX7_digest_23 : decode cX7_digest 23 = .ok (.ladd, 1) := by decide +kernel
theorem dX7_digest_24 : decode cX7_digest 24 = .ok (.lstore_n 1, 1) := by decide +kernel
theorem dX7_digest_25 : decode cX7_digest 25 = .ok (.iinc 3 1, 3) := by decide +kernel
theorem dX7_digest_28 : decode cX7_digest 28 = .ok (.goto (-22), 3) := by decide +kernel
theorem dX7_digest_31 : decode cX7_digest 31 = .ok (.iconst 0, 1) := by decide +kernel
theorem dX7_digest_32 : decode cX7_digest 32 = .ok (.istore_n 3, 1) := by decide +kernel
theorem dX7_digest_33 : decode cX7_digest 33 = .ok (.iload_n 3, 1) := by decide +kernel
theorem dX7_digest_34 : decode cX7_digest 34 = .ok (.iconst 5, 1) := by decide +kernel
theorem dX7_digest_35 : decode cX7_digest 35 = .ok (.if_icmp .ge 22, 3) := by decide +kernel
theorem dX7_digest_38 : decode cX7_digest 38 = .ok (.ldc2_w 309, 3) := by decide +kernel
theorem dX7_digest_41 : decode cX7_digest 41 = .ok (.lload_n 1, 1) := by decide +kernel
theorem dX7_digest_42 : decode cX7_digest 42 = .ok (.lmul, 1) := by decide +kernel
theorem dX7_digest_43 : decode cX7_digest 43 = .ok (.aload_n 0, 1) := by decide +kernel
theorem dX7_digest_44 : decode cX7_digest 44 = .ok (.iload_n 3, 1) := by decide +kernel
theorem dX7_digest_45 : decode cX7_digest 45 = .ok (.invokevirtual 314, 3) := by decide +kernel
theorem dX7_digest_48 : decode cX7_digest 48 = .ok (.i2l, 1) := by decide +kernel
theorem dX7_digest_49 : decode cX7_digest 49 = .ok (.ladd, 1) := by decide +kernel
theorem dX7_digest_50 : decode cX7_digest 50 = .ok (.lstore_n 1, 1) := by decide +kernel
theorem dX7_digest_51 : decode cX7_digest 51 = .ok (.iinc 3 1, 3) := by decide +kernel
