theorem dX3_init_0 : decode cX3_init 0 = .ok (.aload_n 0, 1) := by decide +kernel
theorem dX3_init_1 : decode cX3_init 1 = .ok (.invokespecial 1, 3) := by decide +kernel
theorem dX3_init_4 : decode cX3_init 4 = .ok (.aload_n 0, 1) := by decide +kernel
theorem dX3_init_5 : decode cX3_init 5 = .ok (.iconst 2, 1) := by decide +kernel
theorem dX3_init_6 : decode cX3_init 6 = .ok (.anewarray 7, 3) := by decide +kernel
theorem dX3_init_9 : decode cX3_init 9 = .ok (.dup, 1) := by decide +kernel
theorem dX3_init_10 : decode cX3_init 10 = .ok (.iconst 0, 1) := by decide +kernel
theorem dX3_init_11 : decode cX3_init 11 = .ok (.iconst 0, 1) := by decide +kernel
theorem dX3_init_12 : decode cX3_init 12 = .ok (.newarray .int, 2) := by decide +kernel
theorem dX3_init_14 : decode cX3_init 14 = .ok (.aastore, 1) := by decide +kernel
theorem dX3_init_15 : decode cX3_init 15 = .ok (.dup, 1) := by decide +kernel
theorem dX3_init_16 : decode cX3_init 16 = .ok (.iconst 1, 1) := by decide +kernel
theorem dX3_init_17 : decode cX3_init 17 = .ok (.iconst 0, 1) := by decide +kernel
theorem dX3_init_18 : decode cX3_init 18 = .ok (.newarray .int, 2) := by decide +kernel
theorem dX3_init_20 : decode cX3_init 20 = .ok (.aastore, 1) := by decide +kernel
theorem dX3_init_21 : decode cX3_init 21 = .ok (.putfield 9, 3) := by decide +kernel
theorem dX3_init_24 : decode cX3_init 24 = .ok (.aload_n 0, 1) := by decide +kernel
theorem dX3_init_25 : decode cX3_init 25 = .ok (.iconst 2, 1) := by decide +kernel
theorem dX3_init_26 : decode cX3_init 26 = .ok (.anewarray 7, 3) := by decide +kernel
theorem dX3_init_29 : decode cX3_init 29 = .ok (.dup, 1) := by decide +kernel
theorem dX3_init_30 : decode cX3_init 30 = .ok (.iconst 0, 1) := by decide +kernel
theorem dX3_init_31 : decode cX3_init 31 = .ok (.iconst 0, 1) := by decide +kernel
theorem dX3_init_32 : decode cX3_init 32 = .ok (.newarray .int, 2) := by decide +kernel
theorem dX3_init_34 : decode cX3_init 34 = .ok (.aastore, 1) := by decide +kernel
theorem dX3_init_35 : decode cX3_init 35 = .ok (.dup, 1) := by decide +kernel
theorem dX3_init_36 : decode cX3_init 36 = .ok (.iconst 1, 1) := by decide +kernel
theorem dX3_init_37 : decode cX3_init 37 = .ok (.iconst 0, 1) := by decide +kernel
theorem dX3_init_38 : decode cX3_init 38 = .ok (.newarray .int, 2) := by decide +kernel
theorem dX3_init_40 : decode cX3_init 40 = .ok (.aastore, 1) := by decide +kernel
theorem dX3_init_41 : decode cX3_init 41 = .ok (.putfield 15, 3) := by decide +kernel
theorem dX3_init_44 : decode cX3_init 44 = .ok (.return_, 1) := by decide +kernel
theorem dX3_find_0 : decode cX3_find 0 = .ok (.iconst 0, 1) := by decide +kernel
theorem dX3_find_1 : decode cX3_find 1 = .ok (.istore_n 3, 1) := by decide +kernel
theorem dX3_find_2 : decode cX3_find 2 = .ok (.iload_n 3, 1) := by decide +kernel
theorem dX3_find_3 : decode cX3_find 3 = .ok (.aload_n 0, 1) := by decide +kernel
theorem dX3_find_4 : decode cX3_find 4 = .ok (.getfield 9, 3) := by decide +kernel
theorem dX3_find_7 : decode cX3_find 7 = .ok (.iload_n 1, 1) := by decide +kernel
theorem dX3_find_8 : decode cX3_find 8 = .ok (.aaload, 1) := by decide +kernel
theorem dX3_find_9 : decode cX3_find 9 = .ok (.arraylength, 1) := by decide +kernel
theorem dX3_find_10 : decode cX3_find 10 = .ok (.if_icmp .ge 23, 3) := by decide +kernel
theorem dX3_find_13 : decode cX3_find 13 = .ok (.aload_n 0, 1) := by decide +kernel
theorem dX3_find_14 : decode cX3_find 14 = .ok (.getfield 9, 3) := by decide +kernel
theorem dX3_find_17 : decode cX3_find 17 = .ok (.iload_n 1, 1) := by decide +kernel
theorem dX3_find_18 : decode cX3_find 18 = .ok (.aaload, 1) := by decide +kernel
theorem dX3_find_19 : decode cX3_find 19 = .ok (.iload_n 3, 1) := by decide +kernel
theorem dX3_find_20 : decode cX3_find 20 = .ok (.iaload, 1) := by decide +kernel
theorem dX3_find_21 : decode cX3_find 21 = .ok (.iload_n 2, 1) := by decide +kernel
theorem dX3_find_22 : decode cX3_find 22 = .ok (.if_icmp .ne 5, 3) := by decide +kernel
theorem dX3_find_25 : decode cX3_find 25 = .ok (.iload_n 3, 1) := by decide +kernel
theorem dX3_find_26 : decode cX3_find 26 = .ok (.ireturn, 1) := by decide +kernel
theorem dX3_find_27 : decode cX3_find 27 = .ok (.iinc 3 1, 3) := by decide +kernel
theorem dX3_find_30 : decode cX3_find 30 = .ok (.goto (-28), 3) := by decide +kernel
theorem dX3_find_33 : decode cX3_find 33 = .ok (.iconst (-1), 1) := by decide +kernel
theorem dX3_find_34 : decode cX3_find 34 = .ok (.ireturn, 1) := by decide +kernel
theorem dX3_more_0 : decode cX3_more 0 = .ok (.aload_n 0, 1) := by decide +kernel
theorem dX3_more_1 : decode cX3_more 1 = .ok (.arraylength, 1) := by decide +kernel
theorem dX3_more_2 : decode cX3_more 2 = .ok (.iconst 1, 1) := by decide +kernel
theorem dX3_more_3 : decode cX3_more 3 = .ok (.iadd, 1) := by decide +kernel
theorem dX3_more_4 : decode cX3_more 4 = .ok (.newarray .int, 2) := by decide +kernel
theorem dX3_more_6 : decode cX3_more 6 = .ok (.astore_n 2, 1) := by decide +kernel
theorem dX3_more_7 : decode cX3_more 7 = .ok (.aload_n 0, 1) := by decide +kernel
theorem dX3_more_8 : decode cX3_more 8 = .ok (.iconst 0, 1) := by decide +kernel
theorem dX3_more_9 : decode cX3_more 9 = .ok (.aload_n 2, 1) := by decide +kernel
theorem dX3_more_10 : decode cX3_more 10 = .ok (.iconst 0, 1) := by decide +kernel
theorem dX3_more_11 : decode cX3_more 11 = .ok (.aload_n 0, 1) := by decide +kernel
theorem dX3_more_12 : decode cX3_more 12 = .ok (.arraylength, 1) := by decide +kernel
theorem dX3_more_13 : decode cX3_more 13 = .ok (.invokestatic 18, 3) := by decide +kernel
theorem dX3_more_16 : decode cX3_more 16 = .ok (.aload_n 2, 1) := by decide +kernel
theorem dX3_more_17 : decode cX3_more 17 = .ok (.aload_n 0, 1) := by decide +kernel
theorem dX3_more_18 : decode cX3_more 18 = .ok (.arraylength, 1) := by decide +kernel
theorem dX3_more_19 : decode cX3_more 19 = .ok (.iload_n 1, 1) := by decide +kernel
theorem dX3_more_20 : decode cX3_more 20 = .ok (.iastore, 1) := by decide +kernel
theorem dX3_more_21 : decode cX3_more 21 = .ok (.aload_n 2, 1) := by decide +kernel
theorem dX3_more_22 : decode cX3_more 22 = .ok (.areturn, 1) := by decide +kernel
theorem dX3_without_0 : decode cX3_without 0 = .ok (.aload_n 0, 1) := by decide +kernel
theorem dX3_without_1 : decode cX3_without 1 = .ok (.arraylength, 1) := by decide +kernel
theorem dX3_without_2 : decode cX3_without 2 = .ok (.iconst 1, 1) := by decide +kernel
theorem dX3_without_3 : decode cX3_without 3 = .ok (.isub, 1) := by decide +kernel
theorem dX3_without_4 : decode cX3_without 4 = .ok (.newarray .int, 2) := by decide +kernel
theorem dX3_without_6 : decode cX3_without 6 = .ok (.astore_n 2, 1) := by decide +kernel
theorem dX3_without_7 : decode cX3_without 7 = .ok (.iconst 0, 1) := by decide +kernel
theorem dX3_without_8 : decode cX3_without 8 = .ok (.istore_n 3, 1) := by decide +kernel
theorem dX3_without_9 : decode cX3_without 9 = .ok (.iload_n 3, 1) := by decide +kernel
theorem dX3_without_10 : decode cX3_without 10 = .ok (.aload_n 2, 1) := by decide +kernel
theorem dX3_without_11 : decode cX3_without 11 = .ok (.arraylength, 1) := by decide +kernel
theorem dX3_without_12 : decode cX3_without 12 = .ok (.if_icmp .ge 26, 3) := by decide +kernel
theorem dX3_without_15 : decode cX3_without 15 = .ok (.aload_n 2, 1) := by decide +kernel
theorem dX3_without_16 : decode cX3_without 16 = .ok (.iload_n 3, 1) := by decide +kernel
theorem dX3_without_17 : decode cX3_without 17 = .ok (.aload_n 0, 1) := by decide +kernel
theorem dX3_without_18 : decode cX3_without 18 = .ok (.iload_n 3, 1) := by decide +kernel
theorem dX3_without_19 : decode cX3_without 19 = .ok (.iload_n 1, 1) := by decide +kernel
theorem dX3_without_20 : decode cX3_without 20 = .ok (.if_icmp .ge 7, 3) := by decide +kernel
theorem dX3_without_23 : decode cX3_without 23 = .ok (.iload_n 3, 1) := by decide +kernel
theorem dX3_without_24 : decode cX3_without 24 = .ok (.goto 6, 3) := by decide +kernel
theorem dX3_without_27 : decode cX3_without 27 = .ok (.iload_n 3, 1) := by decide +kernel
theorem dX3_without_28 : decode cX3_without 28 = .ok (.iconst 1, 1) := by decide +kernel
theorem dX3_without_29 : decode cX3_without 29 = .ok (.iadd, 1) := by decide +kernel
theorem dX3_without_30 : decode cX3_without 30 = .ok (.iaload, 1) := by decide +kernel
theorem dX3_without_31 : decode cX3_without 31 = .ok (.iastore, 1) := by decide +kernel
theorem dX3_without_32 : decode cX3_without 32 = .ok (.iinc 3 1, 3) := by decide +kernel
theorem dX3_without_35 : decode cX3_without 35 = .ok (.goto (-26), 3) := by decide +kernel
theorem dX3_without_38 : decode cX3_without 38 = .ok (.aload_n 2, 1) := by decide +kernel
theorem dX3_without_39 : decode cX3_without 39 = .ok (.areturn, 1) := by decide +kernel
theorem dX3_put_0 : decode cX3_put 0 = .ok (.aload_n 0, 1) := by decide +kernel
theorem dX3_put_1 : decode cX3_put 1 = .ok (.iload_n 1, 1) := by decide +kernel
theorem dX3_put_2 : decode cX3_put 2 = .ok (.iload_n 2, 1) := by decide +kernel
theorem dX3_put_3 : decode cX3_put 3 = .ok (.invokevirtual 24, 3) := by decide +kernel
theorem dX3_put_6 : decode cX3_put 6 = .ok (.istore 4, 2) := by decide +kernel
theorem dX3_put_8 : decode cX3_put 8 = .ok (.iload 4, 2) := by decide +kernel
theorem dX3_put_10 : decode cX3_put 10 = .ok (.ifCond .lt 14, 3) := by decide +kernel
theorem dX3_put_13 : decode cX3_put 13 = .ok (.aload_n 0, 1) := by decide +kernel
theorem dX3_put_14 : decode cX3_put 14 = .ok (.getfield 15, 3) := by decide +kernel
theorem dX3_put_17 : decode cX3_put 17 = .ok (.iload_n 1, 1) := by decide +kernel
theorem dX3_put_18 : decode cX3_put 18 = .ok (.aaload, 1) := by decide +kernel
theorem dX3_put_19 : decode cX3_put 19 = .ok (.iload 4, 2) := by decide +kernel
theorem dX3_put_21 : decode cX3_put 21 = .ok (.iload_n 3, 1) := by decide +kernel
theorem dX3_put_22 : decode cX3_put 22 = .ok (.iastore, 1) := by decide +kernel
theorem dX3_put_23 : decode cX3_put 23 = .ok (.return_, 1) := by decide +kernel
theorem dX3_put_24 : decode cX3_put 24 = .ok (.aload_n 0, 1) := by decide +kernel
theorem dX3_put_25 : decode cX3_put 25 = .ok (.getfield 9, 3) := by decide +kernel
theorem dX3_put_28 : decode cX3_put 28 = .ok (.iload_n 1, 1) := by decide +kernel
theorem dX3_put_29 : decode cX3_put 29 = .ok (.aload_n 0, 1) := by decide +kernel
theorem dX3_put_30 : decode cX3_put 30 = .ok (.getfield 9, 3) := by decide +kernel
theorem dX3_put_33 : decode cX3_put 33 = .ok (.iload_n 1, 1) := by decide +kernel
theorem dX3_put_34 : decode cX3_put 34 = .ok (.aaload, 1) := by decide +kernel
theorem dX3_put_35 : decode cX3_put 35 = .ok (.iload_n 2, 1) := by decide +kernel
theorem dX3_put_36 : decode cX3_put 36 = .ok (.invokestatic 28, 3) := by decide +kernel
theorem dX3_put_39 : decode cX3_put 39 = .ok (.aastore, 1) := by decide +kernel
theorem dX3_put_40 : decode cX3_put 40 = .ok (.aload_n 0, 1) := by decide +kernel
theorem dX3_put_41 : decode cX3_put 41 = .ok (.getfield 15, 3) := by decide +kernel
theorem dX3_put_44 : decode cX3_put 44 = .ok (.iload_n 1, 1) := by decide +kernel
theorem dX3_put_45 : decode cX3_put 45 = .ok (.aload_n 0, 1) := by decide +kernel
theorem dX3_put_46 : decode cX3_put 46 = .ok (.getfield 15, 3) := by decide +kernel
theorem dX3_put_49 : decode cX3_put 49 = .ok (.iload_n 1, 1) := by decide +kernel
theorem dX3_put_50 : decode cX3_put 50 = .ok (.aaload, 1) := by decide +kernel
theorem dX3_put_51 : decode cX3_put 51 = .ok (.iload_n 3, 1) := by decide +kernel
theorem dX3_put_52 : decode cX3_put 52 = .ok (.invokestatic 28, 3) := by decide +kernel
theorem dX3_put_55 : decode cX3_put 55 = .ok (.aastore, 1) := by decide +kernel
theorem dX3_put_56 : decode cX3_put 56 = .ok (.return_, 1) := by decide +kernel
theorem dX3_take_0 : decode cX3_take 0 = .ok (.aload_n 0, 1) := by decide +kernel
theorem dX3_take_1 : decode cX3_take 1 = .ok (.iload_n 1, 1) := by decide +kernel
theorem dX3_take_2 : decode cX3_take 2 = .ok (.iload_n 2, 1) := by decide +kernel
theorem dX3_take_3 : decode cX3_take 3 = .ok (.invokevirtual 24, 3) := by decide +kernel
theorem dX3_take_6 : decode cX3_take 6 = .ok (.istore_n 3, 1) := by decide +kernel
theorem dX3_take_7 : decode cX3_take 7 = .ok (.aload_n 0, 1) := by decide +kernel
theorem dX3_take_8 : decode cX3_take 8 = .ok (.getfield 15, 3) := by decide +kernel
theorem dX3_take_11 : decode cX3_take 11 = .ok (.iload_n 1, 1) := by decide +kernel
theorem dX3_take_12 : decode cX3_take 12 = .ok (.aload_n 0, 1) := by decide +kernel
theorem dX3_take_13 : decode cX3_take 13 = .ok (.getfield 15, 3) := by decide +kernel
theorem dX3_take_16 : decode cX3_take 16 = .ok (.iload_n 1, 1) := by decide +kernel
theorem dX3_take_17 : decode cX3_take 17 = .ok (.aaload, 1) := by decide +kernel
theorem dX3_take_18 : decode cX3_take 18 = .ok (.iload_n 3, 1) := by decide +kernel
theorem dX3_take_19 : decode cX3_take 19 = .ok (.invokestatic 32, 3) := by decide +kernel
theorem dX3_take_22 : decode cX3_take 22 = .ok (.aastore, 1) := by decide +kernel
theorem dX3_take_23 : decode cX3_take 23 = .ok (.aload_n 0, 1) := by decide +kernel
theorem dX3_take_24 : decode cX3_take 24 = .ok (.getfield 9, 3) := by decide +kernel
theorem dX3_take_27 : decode cX3_take 27 = .ok (.iload_n 1, 1) := by decide +kernel
theorem dX3_take_28 : decode cX3_take 28 = .ok (.aload_n 0, 1) := by decide +kernel
theorem dX3_take_29 : decode cX3_take 29 = .ok (.getfield 9, 3) := by decide +kernel
theorem dX3_take_32 : decode cX3_take 32 = .ok (.iload_n 1, 1) := by decide +kernel
theorem dX3_take_33 : decode cX3_take 33 = .ok (.aaload, 1) := by decide +kernel
theorem dX3_take_34 : decode cX3_take 34 = .ok (.iload_n 3, 1) := by decide +kernel
theorem dX3_take_35 : decode cX3_take 35 = .ok (.invokestatic 32, 3) := by decide +kernel
theorem dX3_take_38 : decode cX3_take 38 = .ok (.aastore, 1) := by decide +kernel
theorem dX3_take_39 : decode cX3_take 39 = .ok (.return_, 1) := by decide +kernel
theorem dX3_with_0 : decode cX3_with 0 = .ok (.iload_n 2, 1) := by decide +kernel
theorem dX3_with_1 : decode cX3_with 1 = .ok (.iconst 1, 1) := by decide +kernel
theorem dX3_with_2 : decode cX3_with 2 = .ok (.if_icmp .ne 11, 3) := by decide +kernel
theorem dX3_with_5 : decode cX3_with 5 = .ok (.aload_n 0, 1) := by decide +kernel
theorem dX3_with_6 : decode cX3_with 6 = .ok (.iload_n 1, 1) := by decide +kernel
theorem dX3_with_7 : decode cX3_with 7 = .ok (.invokestatic 35, 3) := by decide +kernel
theorem dX3_with_10 : decode cX3_with 10 = .ok (.goto 11, 3) := by decide +kernel
theorem dX3_with_13 : decode cX3_with 13 = .ok (.aload_n 0, 1) := by decide +kernel
theorem dX3_with_14 : decode cX3_with 14 = .ok (.arraylength, 1) := by decide +kernel
theorem dX3_with_15 : decode cX3_with 15 = .ok (.aload_n 0, 1) := by decide +kernel
theorem dX3_with_16 : decode cX3_with 16 = .ok (.iload_n 1, 1) := by decide +kernel
theorem dX3_with_17 : decode cX3_with 17 = .ok (.invokestatic 35, 3) := by decide +kernel
theorem dX3_with_20 : decode cX3_with 20 = .ok (.isub, 1) := by decide +kernel
theorem dX3_with_21 : decode cX3_with 21 = .ok (.newarray .int, 2) := by decide +kernel
theorem dX3_with_23 : decode cX3_with 23 = .ok (.astore_n 3, 1) := by decide +kernel
theorem dX3_with_24 : decode cX3_with 24 = .ok (.iconst 0, 1) := by decide +kernel
theorem dX3_with_25 : decode cX3_with 25 = .ok (.istore 4, 2) := by decide +kernel
theorem dX3_with_27 : decode cX3_with 27 = .ok (.aload_n 0, 1) := by decide +kernel
theorem dX3_with_28 : decode cX3_with 28 = .ok (.astore 5, 2) := by decide +kernel
theorem dX3_with_30 : decode cX3_with 30 = .ok (.aload 5, 2) := by decide +kernel
theorem dX3_with_32 : decode cX3_with 32 = .ok (.arraylength, 1) := by decide +kernel
theorem dX3_with_33 : decode cX3_with 33 = .ok (.istore 6, 2) := by decide +kernel
theorem dX3_with_35 : decode cX3_with 35 = .ok (.iconst 0, 1) := by decide +kernel
theorem dX3_with_36 : decode cX3_with 36 = .ok (.istore 7, 2) := by decide +kernel
theorem dX3_with_38 : decode cX3_with 38 = .ok (.iload 7, 2) := by decide +kernel
theorem dX3_with_40 : decode cX3_with 40 = .ok (.iload 6, 2) := by decide +kernel
theorem dX3_with_42 : decode cX3_with 42 = .ok (.if_icmp .ge 38, 3) := by decide +kernel
theorem dX3_with_45 : decode cX3_with 45 = .ok (.aload 5, 2) := by decide +kernel
theorem dX3_with_47 : decode cX3_with 47 = .ok (.iload 7, 2) := by decide +kernel
theorem dX3_with_49 : decode cX3_with 49 = .ok (.iaload, 1) := by decide +kernel
theorem dX3_with_50 : decode cX3_with 50 = .ok (.istore 8, 2) := by decide +kernel
theorem dX3_with_52 : decode cX3_with 52 = .ok (.iload 8, 2) := by decide +kernel
theorem dX3_with_54 : decode cX3_with 54 = .ok (.iload_n 1, 1) := by decide +kernel
theorem dX3_with_55 : decode cX3_with 55 = .ok (.ishr, 1) := by decide +kernel
theorem dX3_with_56 : decode cX3_with 56 = .ok (.iconst 2, 1) := by decide +kernel
theorem dX3_with_57 : decode cX3_with 57 = .ok (.irem, 1) := by decide +kernel
theorem dX3_with_58 : decode cX3_with 58 = .ok (.iload_n 2, 1) := by decide +kernel
theorem dX3_with_59 : decode cX3_with 59 = .ok (.if_icmp .eq 6, 3) := by decide +kernel
theorem dX3_with_62 : decode cX3_with 62 = .ok (.goto 12, 3) := by decide +kernel
theorem dX3_with_65 : decode cX3_with 65 = .ok (.aload_n 3, 1) := by decide +kernel
theorem dX3_with_66 : decode cX3_with 66 = .ok (.iload 4, 2) := by decide +kernel
theorem dX3_with_68 : decode cX3_with 68 = .ok (.iload 8, 2) := by decide +kernel
theorem dX3_with_70 : decode cX3_with 70 = .ok (.iastore, 1) := by decide +kernel
theorem dX3_with_71 : decode cX3_with 71 = .ok (.iinc 4 1, 3) := by decide +kernel
theorem dX3_with_74 : decode cX3_with 74 = .ok (.iinc 7 1, 3) := by decide +kernel
theorem dX3_with_77 : decode cX3_with 77 = .ok (.goto (-39), 3) := by decide +kernel
theorem dX3_with_80 : decode cX3_with 80 = .ok (.aload_n 3, 1) := by decide +kernel
theorem dX3_with_81 : decode cX3_with 81 = .ok (.areturn, 1) := by decide +kernel
theorem dX3_ones_0 : decode cX3_ones 0 = .ok (.iconst 0, 1) := by decide +kernel
theorem dX3_ones_1 : decode cX3_ones 1 = .ok (.istore_n 2, 1) := by decide +kernel
theorem dX3_ones_2 : decode cX3_ones 2 = .ok (.aload_n 0, 1) := by decide +kernel
theorem dX3_ones_3 : decode cX3_ones 3 = .ok (.astore_n 3, 1) := by decide +kernel
theorem dX3_ones_4 : decode cX3_ones 4 = .ok (.aload_n 3, 1) := by decide +kernel
theorem dX3_ones_5 : decode cX3_ones 5 = .ok (.arraylength, 1) := by decide +kernel
theorem dX3_ones_6 : decode cX3_ones 6 = .ok (.istore 4, 2) := by decide +kernel
theorem dX3_ones_8 : decode cX3_ones 8 = .ok (.iconst 0, 1) := by decide +kernel
theorem dX3_ones_9 : decode cX3_ones 9 = .ok (.istore 5, 2) := by decide +kernel
theorem dX3_ones_11 : decode cX3_ones 11 = .ok (.iload 5, 2) := by decide +kernel
theorem dX3_ones_13 : decode cX3_ones 13 = .ok (.iload 4, 2) := by decide +kernel
theorem dX3_ones_15 : decode cX3_ones 15 = .ok (.if_icmp .ge 24, 3) := by decide +kernel
theorem dX3_ones_18 : decode cX3_ones 18 = .ok (.aload_n 3, 1) := by decide +kernel
theorem dX3_ones_19 : decode cX3_ones 19 = .ok (.iload 5, 2) := by decide +kernel
theorem dX3_ones_21 : decode cX3_ones 21 = .ok (.iaload, 1) := by decide +kernel
theorem dX3_ones_22 : decode cX3_ones 22 = .ok (.istore 6, 2) := by decide +kernel
theorem dX3_ones_24 : decode cX3_ones 24 = .ok (.iload_n 2, 1) := by decide +kernel
theorem dX3_ones_25 : decode cX3_ones 25 = .ok (.iload 6, 2) := by decide +kernel
theorem dX3_ones_27 : decode cX3_ones 27 = .ok (.iload_n 1, 1) := by decide +kernel
theorem dX3_ones_28 : decode cX3_ones 28 = .ok (.ishr, 1) := by decide +kernel
theorem dX3_ones_29 : decode cX3_ones 29 = .ok (.iconst 2, 1) := by decide +kernel
theorem dX3_ones_30 : decode cX3_ones 30 = .ok (.irem, 1) := by decide +kernel
theorem dX3_ones_31 : decode cX3_ones 31 = .ok (.iadd, 1) := by decide +kernel
theorem dX3_ones_32 : decode cX3_ones 32 = .ok (.istore_n 2, 1) := by decide +kernel
theorem dX3_ones_33 : decode cX3_ones 33 = .ok (.iinc 5 1, 3) := by decide +kernel
theorem dX3_ones_36 : decode cX3_ones 36 = .ok (.goto (-25), 3) := by decide +kernel
theorem dX3_ones_39 : decode cX3_ones 39 = .ok (.iload_n 2, 1) := by decide +kernel
theorem dX3_ones_40 : decode cX3_ones 40 = .ok (.ireturn, 1) := by decide +kernel
theorem dX3_bit_0 : decode cX3_bit 0 = .ok (.bipush 15, 2) := by decide +kernel
theorem dX3_bit_2 : decode cX3_bit 2 = .ok (.istore_n 1, 1) := by decide +kernel
theorem dX3_bit_3 : decode cX3_bit 3 = .ok (.iload_n 1, 1) := by decide +kernel
theorem dX3_bit_4 : decode cX3_bit 4 = .ok (.ifCond .lt 27, 3) := by decide +kernel
theorem dX3_bit_7 : decode cX3_bit 7 = .ok (.aload_n 0, 1) := by decide +kernel
theorem dX3_bit_8 : decode cX3_bit 8 = .ok (.iload_n 1, 1) := by decide +kernel
theorem dX3_bit_9 : decode cX3_bit 9 = .ok (.invokestatic 35, 3) := by decide +kernel
theorem dX3_bit_12 : decode cX3_bit 12 = .ok (.istore_n 2, 1) := by decide +kernel
theorem dX3_bit_13 : decode cX3_bit 13 = .ok (.iload_n 2, 1) := by decide +kernel
theorem dX3_bit_14 : decode cX3_bit 14 = .ok (.ifCond .le 11, 3) := by decide +kernel
theorem dX3_bit_17 : decode cX3_bit 17 = .ok (.iload_n 2, 1) := by decide +kernel
theorem dX3_bit_18 : decode cX3_bit 18 = .ok (.aload_n 0, 1) := by decide +kernel
theorem dX3_bit_19 : decode cX3_bit 19 = .ok (.arraylength, 1) := by decide +kernel
theorem dX3_bit_20 : decode cX3_bit 20 = .ok (.if_icmp .ge 5, 3) := by decide +kernel
theorem dX3_bit_23 : decode cX3_bit 23 = .ok (.iload_n 1, 1) := by decide +kernel
theorem dX3_bit_24 : decode cX3_bit 24 = .ok (.ireturn, 1) := by decide +kernel
theorem dX3_bit_25 : decode cX3_bit 25 = .ok (.iinc 1 (-1), 3) := by decide +kernel
theorem dX3_bit_28 : decode cX3_bit 28 = .ok (.goto (-25), 3) := by decide +kernel
theorem dX3_bit_31 : decode cX3_bit 31 = .ok (.iconst (-1), 1) := by decide +kernel
theorem dX3_bit_32 : decode cX3_bit 32 = .ok (.ireturn, 1) := by decide +kernel
theorem dX3_least_0 : decode cX3_least 0 = .ok (.ldc 39, 2) := by decide +kernel
theorem dX3_least_2 : decode cX3_least 2 = .ok (.istore_n 1, 1) := by decide +kernel
theorem dX3_least_3 : decode cX3_least 3 = .ok (.aload_n 0, 1) := by decide +kernel
theorem dX3_least_4 : decode cX3_least 4 = .ok (.astore_n 2, 1) := by decide +kernel
theorem dX3_least_5 : decode cX3_least 5 = .ok (.aload_n 2, 1) := by decide +kernel
theorem dX3_least_6 : decode cX3_least 6 = .ok (.arraylength, 1) := by decide +kernel
theorem dX3_least_7 : decode cX3_least 7 = .ok (.istore_n 3, 1) := by decide +kernel
theorem dX3_least_8 : decode cX3_least 8 = .ok (.iconst 0, 1) := by decide +kernel
theorem dX3_least_9 : decode cX3_least 9 = .ok (.istore 4, 2) := by decide +kernel
theorem dX3_least_11 : decode cX3_least 11 = .ok (.iload 4, 2) := by decide +kernel
theorem dX3_least_13 : decode cX3_least 13 = .ok (.iload_n 3, 1) := by decide +kernel
theorem dX3_least_14 : decode cX3_least 14 = .ok (.if_icmp .ge 22, 3) := by decide +kernel
theorem dX3_least_17 : decode cX3_least 17 = .ok (.aload_n 2, 1) := by decide +kernel
theorem dX3_least_18 : decode cX3_least 18 = .ok (.iload 4, 2) := by decide +kernel
theorem dX3_least_20 : decode cX3_least 20 = .ok (.iaload, 1) := by decide +kernel
theorem dX3_least_21 : decode cX3_least 21 = .ok (.istore 5, 2) := by decide +kernel
theorem dX3_least_23 : decode cX3_least 23 = .ok (.iload_n 1, 1) := by decide +kernel
theorem dX3_least_24 : decode cX3_least 24 = .ok (.iload 5, 2) := by decide +kernel
theorem dX3_least_26 : decode cX3_least 26 = .ok (.invokestatic 40, 3) := by decide +kernel
theorem dX3_least_29 : decode cX3_least 29 = .ok (.istore_n 1, 1) := by decide +kernel
theorem dX3_least_30 : decode cX3_least 30 = .ok (.iinc 4 1, 3) := by decide +kernel
theorem dX3_least_33 : decode cX3_least 33 = .ok (.goto (-22), 3) := by decide +kernel
theorem dX3_least_36 : decode cX3_least 36 = .ok (.iload_n 1, 1) := by decide +kernel
theorem dX3_least_37 : decode cX3_least 37 = .ok (.ireturn, 1) := by decide +kernel
theorem dX3_most_0 : decode cX3_most 0 = .ok (.iconst (-1), 1) := by decide +kernel
theorem dX3_most_1 : decode cX3_most 1 = .ok (.istore_n 1, 1) := by decide +kernel
theorem dX3_most_2 : decode cX3_most 2 = .ok (.aload_n 0, 1) := by decide +kernel
theorem dX3_most_3 : decode cX3_most 3 = .ok (.astore_n 2, 1) := by decide +kernel
theorem dX3_most_4 : decode cX3_most 4 = .ok (.aload_n 2, 1) := by decide +kernel
theorem dX3_most_5 : decode cX3_most 5 = .ok (.arraylength, 1) := by decide +kernel
theorem dX3_most_6 : decode cX3_most 6 = .ok (.istore_n 3, 1) := by decide +kernel
theorem dX3_most_7 : decode cX3_most 7 = .ok (.iconst 0, 1) := by decide +kernel
theorem dX3_most_8 : decode cX3_most 8 = .ok (.istore 4, 2) := by decide +kernel
theorem dX3_most_10 : decode cX3_most 10 = .ok (.iload 4, 2) := by decide +kernel
theorem dX3_most_12 : decode cX3_most 12 = .ok (.iload_n 3, 1) := by decide +kernel
theorem dX3_most_13 : decode cX3_most 13 = .ok (.if_icmp .ge 22, 3) := by decide +kernel
theorem dX3_most_16 : decode cX3_most 16 = .ok (.aload_n 2, 1) := by decide +kernel
theorem dX3_most_17 : decode cX3_most 17 = .ok (.iload 4, 2) := by decide +kernel
theorem dX3_most_19 : decode cX3_most 19 = .ok (.iaload, 1) := by decide +kernel
theorem dX3_most_20 : decode cX3_most 20 = .ok (.istore 5, 2) := by decide +kernel
theorem dX3_most_22 : decode cX3_most 22 = .ok (.iload_n 1, 1) := by decide +kernel
theorem dX3_most_23 : decode cX3_most 23 = .ok (.iload 5, 2) := by decide +kernel
theorem dX3_most_25 : decode cX3_most 25 = .ok (.invokestatic 45, 3) := by decide +kernel
theorem dX3_most_28 : decode cX3_most 28 = .ok (.istore_n 1, 1) := by decide +kernel
theorem dX3_most_29 : decode cX3_most 29 = .ok (.iinc 4 1, 3) := by decide +kernel
theorem dX3_most_32 : decode cX3_most 32 = .ok (.goto (-22), 3) := by decide +kernel
theorem dX3_most_35 : decode cX3_most 35 = .ok (.iload_n 1, 1) := by decide +kernel
theorem dX3_most_36 : decode cX3_most 36 = .ok (.ireturn, 1) := by decide +kernel
theorem dX3_signs_0 : decode cX3_signs 0 = .ok (.aload_n 3, 1) := by decide +kernel
theorem dX3_signs_1 : decode cX3_signs 1 = .ok (.invokestatic 48, 3) := by decide +kernel
theorem dX3_signs_4 : decode cX3_signs 4 = .ok (.istore 5, 2) := by decide +kernel
theorem dX3_signs_6 : decode cX3_signs 6 = .ok (.iconst 4, 1) := by decide +kernel
theorem dX3_signs_7 : decode cX3_signs 7 = .ok (.newarray .int, 2) := by decide +kernel
theorem dX3_signs_9 : decode cX3_signs 9 = .ok (.dup, 1) := by decide +kernel
theorem dX3_signs_10 : decode cX3_signs 10 = .ok (.iconst 0, 1) := by decide +kernel
theorem dX3_signs_11 : decode cX3_signs 11 = .ok (.iload 5, 2) := by decide +kernel
theorem dX3_signs_13 : decode cX3_signs 13 = .ok (.iastore, 1) := by decide +kernel
theorem dX3_signs_14 : decode cX3_signs 14 = .ok (.dup, 1) := by decide +kernel
theorem dX3_signs_15 : decode cX3_signs 15 = .ok (.iconst 1, 1) := by decide +kernel
theorem dX3_signs_16 : decode cX3_signs 16 = .ok (.aload_n 3, 1) := by decide +kernel
theorem dX3_signs_17 : decode cX3_signs 17 = .ok (.arraylength, 1) := by decide +kernel
theorem dX3_signs_18 : decode cX3_signs 18 = .ok (.iastore, 1) := by decide +kernel
theorem dX3_signs_19 : decode cX3_signs 19 = .ok (.dup, 1) := by decide +kernel
theorem dX3_signs_20 : decode cX3_signs 20 = .ok (.iconst 2, 1) := by decide +kernel
theorem dX3_signs_21 : decode cX3_signs 21 = .ok (.aload_n 3, 1) := by decide +kernel
theorem dX3_signs_22 : decode cX3_signs 22 = .ok (.invokestatic 52, 3) := by decide +kernel
theorem dX3_signs_25 : decode cX3_signs 25 = .ok (.iastore, 1) := by decide +kernel
theorem dX3_signs_26 : decode cX3_signs 26 = .ok (.dup, 1) := by decide +kernel
theorem dX3_signs_27 : decode cX3_signs 27 = .ok (.iconst 3, 1) := by decide +kernel
theorem dX3_signs_28 : decode cX3_signs 28 = .ok (.aload_n 3, 1) := by decide +kernel
theorem dX3_signs_29 : decode cX3_signs 29 = .ok (.invokestatic 55, 3) := by decide +kernel
theorem dX3_signs_32 : decode cX3_signs 32 = .ok (.iastore, 1) := by decide +kernel
theorem dX3_signs_33 : decode cX3_signs 33 = .ok (.astore 6, 2) := by decide +kernel
theorem dX3_signs_35 : decode cX3_signs 35 = .ok (.iconst 0, 1) := by decide +kernel
theorem dX3_signs_36 : decode cX3_signs 36 = .ok (.istore 7, 2) := by decide +kernel
theorem dX3_signs_38 : decode cX3_signs 38 = .ok (.iload 7, 2) := by decide +kernel
theorem dX3_signs_40 : decode cX3_signs 40 = .ok (.iconst 4, 1) := by decide +kernel
theorem dX3_signs_41 : decode cX3_signs 41 = .ok (.if_icmp .ge 27, 3) := by decide +kernel
theorem dX3_signs_44 : decode cX3_signs 44 = .ok (.aload_n 0, 1) := by decide +kernel
theorem dX3_signs_45 : decode cX3_signs 45 = .ok (.iload_n 1, 1) := by decide +kernel
theorem dX3_signs_46 : decode cX3_signs 46 = .ok (.iload_n 2, 1) := by decide +kernel
theorem dX3_signs_47 : decode cX3_signs 47 = .ok (.iload 7, 2) := by decide +kernel
theorem dX3_signs_49 : decode cX3_signs 49 = .ok (.invokevirtual 58, 3) := by decide +kernel
theorem dX3_signs_52 : decode cX3_signs 52 = .ok (.aload 6, 2) := by decide +kernel
theorem dX3_signs_54 : decode cX3_signs 54 = .ok (.iload 7, 2) := by decide +kernel
theorem dX3_signs_56 : decode cX3_signs 56 = .ok (.iaload, 1) := by decide +kernel
theorem dX3_signs_57 : decode cX3_signs 57 = .ok (.if_icmp .eq 5, 3) := by decide +kernel
theorem dX3_signs_60 : decode cX3_signs 60 = .ok (.iconst (-1), 1) := by decide +kernel
theorem dX3_signs_61 : decode cX3_signs 61 = .ok (.ireturn, 1) := by decide +kernel
theorem dX3_signs_62 : decode cX3_signs 62 = .ok (.iinc 7 1, 3) := by decide +kernel
theorem dX3_signs_65 : decode cX3_signs 65 = .ok (.goto (-27), 3) := by decide +kernel
theorem dX3_signs_68 : decode cX3_signs 68 = .ok (.aload_n 0, 1) := by decide +kernel
theorem dX3_signs_69 : decode cX3_signs 69 = .ok (.iload_n 1, 1) := by decide +kernel
theorem dX3_signs_70 : decode cX3_signs 70 = .ok (.iload_n 2, 1) := by decide +kernel
theorem dX3_signs_71 : decode cX3_signs 71 = .ok (.bipush 6, 2) := by decide +kernel
theorem dX3_signs_73 : decode cX3_signs 73 = .ok (.invokevirtual 58, 3) := by decide +kernel
theorem dX3_signs_76 : decode cX3_signs 76 = .ok (.iload 4, 2) := by decide +kernel
theorem dX3_signs_78 : decode cX3_signs 78 = .ok (.if_icmp .eq 5, 3) := by decide +kernel
theorem dX3_signs_81 : decode cX3_signs 81 = .ok (.iconst (-1), 1) := by decide +kernel
theorem dX3_signs_82 : decode cX3_signs 82 = .ok (.ireturn, 1) := by decide +kernel
theorem dX3_signs_83 : decode cX3_signs 83 = .ok (.iload 5, 2) := by decide +kernel
theorem dX3_signs_85 : decode cX3_signs 85 = .ok (.ifCond .ge 33, 3) := by decide +kernel
theorem dX3_signs_88 : decode cX3_signs 88 = .ok (.aload_n 0, 1) := by decide +kernel
theorem dX3_signs_89 : decode cX3_signs 89 = .ok (.iload_n 1, 1) := by decide +kernel
theorem dX3_signs_90 : decode cX3_signs 90 = .ok (.iload_n 2, 1) := by decide +kernel
theorem dX3_signs_91 : decode cX3_signs 91 = .ok (.iconst 4, 1) := by decide +kernel
theorem dX3_signs_92 : decode cX3_signs 92 = .ok (.invokevirtual 58, 3) := by decide +kernel
theorem dX3_signs_95 : decode cX3_signs 95 = .ok (.iconst (-1), 1) := by decide +kernel
theorem dX3_signs_96 : decode cX3_signs 96 = .ok (.if_icmp .ne 20, 3) := by decide +kernel
theorem dX3_signs_99 : decode cX3_signs 99 = .ok (.aload_n 0, 1) := by decide +kernel
theorem dX3_signs_100 : decode cX3_signs 100 = .ok (.iload_n 1, 1) := by decide +kernel
theorem dX3_signs_101 : decode cX3_signs 101 = .ok (.iload_n 2, 1) := by decide +kernel
theorem dX3_signs_102 : decode cX3_signs 102 = .ok (.iconst 5, 1) := by decide +kernel
theorem dX3_signs_103 : decode cX3_signs 103 = .ok (.invokevirtual 58, 3) := by decide +kernel
theorem dX3_signs_106 : decode cX3_signs 106 = .ok (.iconst (-1), 1) := by decide +kernel
theorem dX3_signs_107 : decode cX3_signs 107 = .ok (.if_icmp .ne 9, 3) := by decide +kernel
theorem dX3_signs_110 : decode cX3_signs 110 = .ok (.iload_n 2, 1) := by decide +kernel
theorem dX3_signs_111 : decode cX3_signs 111 = .ok (.iconst 1, 1) := by decide +kernel
theorem dX3_signs_112 : decode cX3_signs 112 = .ok (.iadd, 1) := by decide +kernel
theorem dX3_signs_113 : decode cX3_signs 113 = .ok (.goto 4, 3) := by decide +kernel
theorem dX3_signs_116 : decode cX3_signs 116 = .ok (.iconst (-1), 1) := by decide +kernel
theorem dX3_signs_117 : decode cX3_signs 117 = .ok (.ireturn, 1) := by decide +kernel
theorem dX3_signs_118 : decode cX3_signs 118 = .ok (.aload_n 0, 1) := by decide +kernel
theorem dX3_signs_119 : decode cX3_signs 119 = .ok (.iload_n 1, 1) := by decide +kernel
theorem dX3_signs_120 : decode cX3_signs 120 = .ok (.iload_n 2, 1) := by decide +kernel
theorem dX3_signs_121 : decode cX3_signs 121 = .ok (.iconst 4, 1) := by decide +kernel
theorem dX3_signs_122 : decode cX3_signs 122 = .ok (.invokevirtual 58, 3) := by decide +kernel
theorem dX3_signs_125 : decode cX3_signs 125 = .ok (.iload_n 2, 1) := by decide +kernel
theorem dX3_signs_126 : decode cX3_signs 126 = .ok (.iconst 1, 1) := by decide +kernel
theorem dX3_signs_127 : decode cX3_signs 127 = .ok (.iadd, 1) := by decide +kernel
theorem dX3_signs_128 : decode cX3_signs 128 = .ok (.if_icmp .eq 5, 3) := by decide +kernel
theorem dX3_signs_131 : decode cX3_signs 131 = .ok (.iconst (-1), 1) := by decide +kernel
theorem dX3_signs_132 : decode cX3_signs 132 = .ok (.ireturn, 1) := by decide +kernel
theorem dX3_signs_133 : decode cX3_signs 133 = .ok (.aload_n 0, 1) := by decide +kernel
theorem dX3_signs_134 : decode cX3_signs 134 = .ok (.iload_n 1, 1) := by decide +kernel
theorem dX3_signs_135 : decode cX3_signs 135 = .ok (.iload_n 2, 1) := by decide +kernel
theorem dX3_signs_136 : decode cX3_signs 136 = .ok (.iconst 1, 1) := by decide +kernel
theorem dX3_signs_137 : decode cX3_signs 137 = .ok (.iadd, 1) := by decide +kernel
theorem dX3_signs_138 : decode cX3_signs 138 = .ok (.aload_n 3, 1) := by decide +kernel
theorem dX3_signs_139 : decode cX3_signs 139 = .ok (.iload 5, 2) := by decide +kernel
theorem dX3_signs_141 : decode cX3_signs 141 = .ok (.iconst 0, 1) := by decide +kernel
theorem dX3_signs_142 : decode cX3_signs 142 = .ok (.invokestatic 64, 3) := by decide +kernel
theorem dX3_signs_145 : decode cX3_signs 145 = .ok (.iload 4, 2) := by decide +kernel
theorem dX3_signs_147 : decode cX3_signs 147 = .ok (.iconst 1, 1) := by decide +kernel
theorem dX3_signs_148 : decode cX3_signs 148 = .ok (.iadd, 1) := by decide +kernel
theorem dX3_signs_149 : decode cX3_signs 149 = .ok (.invokestatic 68, 3) := by decide +kernel
theorem dX3_signs_152 : decode cX3_signs 152 = .ok (.istore 7, 2) := by decide +kernel
theorem dX3_signs_154 : decode cX3_signs 154 = .ok (.iload 7, 2) := by decide +kernel
theorem dX3_signs_156 : decode cX3_signs 156 = .ok (.ifCond .lt 15, 3) := by decide +kernel
theorem dX3_signs_159 : decode cX3_signs 159 = .ok (.aload_n 0, 1) := by decide +kernel
theorem dX3_signs_160 : decode cX3_signs 160 = .ok (.iload_n 1, 1) := by decide +kernel
theorem dX3_signs_161 : decode cX3_signs 161 = .ok (.iload_n 2, 1) := by decide +kernel
theorem dX3_signs_162 : decode cX3_signs 162 = .ok (.iconst 5, 1) := by decide +kernel
theorem dX3_signs_163 : decode cX3_signs 163 = .ok (.invokevirtual 58, 3) := by decide +kernel
theorem dX3_signs_166 : decode cX3_signs 166 = .ok (.iload 7, 2) := by decide +kernel
theorem dX3_signs_168 : decode cX3_signs 168 = .ok (.if_icmp .eq 5, 3) := by decide +kernel
theorem dX3_signs_171 : decode cX3_signs 171 = .ok (.iconst (-1), 1) := by decide +kernel
theorem dX3_signs_172 : decode cX3_signs 172 = .ok (.ireturn, 1) := by decide +kernel
theorem dX3_signs_173 : decode cX3_signs 173 = .ok (.aload_n 0, 1) := by decide +kernel
theorem dX3_signs_174 : decode cX3_signs 174 = .ok (.iload_n 1, 1) := by decide +kernel
theorem dX3_signs_175 : decode cX3_signs 175 = .ok (.iload 7, 2) := by decide +kernel
theorem dX3_signs_177 : decode cX3_signs 177 = .ok (.aload_n 3, 1) := by decide +kernel
theorem dX3_signs_178 : decode cX3_signs 178 = .ok (.iload 5, 2) := by decide +kernel
theorem dX3_signs_180 : decode cX3_signs 180 = .ok (.iconst 1, 1) := by decide +kernel
theorem dX3_signs_181 : decode cX3_signs 181 = .ok (.invokestatic 64, 3) := by decide +kernel
theorem dX3_signs_184 : decode cX3_signs 184 = .ok (.iload 4, 2) := by decide +kernel
theorem dX3_signs_186 : decode cX3_signs 186 = .ok (.iconst 1, 1) := by decide +kernel
theorem dX3_signs_187 : decode cX3_signs 187 = .ok (.iadd, 1) := by decide +kernel
theorem dX3_signs_188 : decode cX3_signs 188 = .ok (.invokestatic 68, 3) := by decide +kernel
theorem dX3_signs_191 : decode cX3_signs 191 = .ok (.ireturn, 1) := by decide +kernel
theorem dX3_paths_0 : decode cX3_paths 0 = .ok (.aload_n 0, 1) := by decide +kernel
theorem dX3_paths_1 : decode cX3_paths 1 = .ok (.invokestatic 48, 3) := by decide +kernel
theorem dX3_paths_4 : decode cX3_paths 4 = .ok (.istore_n 1, 1) := by decide +kernel
theorem dX3_paths_5 : decode cX3_paths 5 = .ok (.iload_n 1, 1) := by decide +kernel
theorem dX3_paths_6 : decode cX3_paths 6 = .ok (.ifCond .ge 7, 3) := by decide +kernel
theorem dX3_paths_9 : decode cX3_paths 9 = .ok (.iconst 3, 1) := by decide +kernel
theorem dX3_paths_10 : decode cX3_paths 10 = .ok (.newarray .int, 2) := by decide +kernel
theorem dX3_paths_12 : decode cX3_paths 12 = .ok (.areturn, 1) := by decide +kernel
theorem dX3_paths_13 : decode cX3_paths 13 = .ok (.aload_n 0, 1) := by decide +kernel
theorem dX3_paths_14 : decode cX3_paths 14 = .ok (.iload_n 1, 1) := by decide +kernel
theorem dX3_paths_15 : decode cX3_paths 15 = .ok (.iconst 0, 1) := by decide +kernel
theorem dX3_paths_16 : decode cX3_paths 16 = .ok (.invokestatic 64, 3) := by decide +kernel
theorem dX3_paths_19 : decode cX3_paths 19 = .ok (.invokestatic 72, 3) := by decide +kernel
theorem dX3_paths_22 : decode cX3_paths 22 = .ok (.astore_n 2, 1) := by decide +kernel
theorem dX3_paths_23 : decode cX3_paths 23 = .ok (.aload_n 0, 1) := by decide +kernel
theorem dX3_paths_24 : decode cX3_paths 24 = .ok (.iload_n 1, 1) := by decide +kernel
theorem dX3_paths_25 : decode cX3_paths 25 = .ok (.iconst 1, 1) := by decide +kernel
theorem dX3_paths_26 : decode cX3_paths 26 = .ok (.invokestatic 64, 3) := by decide +kernel
theorem dX3_paths_29 : decode cX3_paths 29 = .ok (.invokestatic 72, 3) := by decide +kernel
theorem dX3_paths_32 : decode cX3_paths 32 = .ok (.astore_n 3, 1) := by decide +kernel
theorem dX3_paths_33 : decode cX3_paths 33 = .ok (.iconst 3, 1) := by decide +kernel
theorem dX3_paths_34 : decode cX3_paths 34 = .ok (.newarray .int, 2) := by decide +kernel
theorem dX3_paths_36 : decode cX3_paths 36 = .ok (.dup, 1) := by decide +kernel
theorem dX3_paths_37 : decode cX3_paths 37 = .ok (.iconst 0, 1) := by decide +kernel
theorem dX3_paths_38 : decode cX3_paths 38 = .ok (.iconst 1, 1) := by decide +kernel
theorem dX3_paths_39 : decode cX3_paths 39 = .ok (.aload_n 2, 1) := by decide +kernel
theorem dX3_paths_40 : decode cX3_paths 40 = .ok (.iconst 0, 1) := by decide +kernel
theorem dX3_paths_41 : decode cX3_paths 41 = .ok (.iaload, 1) := by decide +kernel
theorem dX3_paths_42 : decode cX3_paths 42 = .ok (.aload_n 3, 1) := by decide +kernel
theorem dX3_paths_43 : decode cX3_paths 43 = .ok (.iconst 0, 1) := by decide +kernel
theorem dX3_paths_44 : decode cX3_paths 44 = .ok (.iaload, 1) := by decide +kernel
theorem dX3_paths_45 : decode cX3_paths 45 = .ok (.invokestatic 45, 3) := by decide +kernel
theorem dX3_paths_48 : decode cX3_paths 48 = .ok (.iadd, 1) := by decide +kernel
theorem dX3_paths_49 : decode cX3_paths 49 = .ok (.iastore, 1) := by decide +kernel
theorem dX3_paths_50 : decode cX3_paths 50 = .ok (.dup, 1) := by decide +kernel
theorem dX3_paths_51 : decode cX3_paths 51 = .ok (.iconst 1, 1) := by decide +kernel
theorem dX3_paths_52 : decode cX3_paths 52 = .ok (.aload_n 0, 1) := by decide +kernel
theorem dX3_paths_53 : decode cX3_paths 53 = .ok (.arraylength, 1) := by decide +kernel
theorem dX3_paths_54 : decode cX3_paths 54 = .ok (.aload_n 2, 1) := by decide +kernel
theorem dX3_paths_55 : decode cX3_paths 55 = .ok (.iconst 1, 1) := by decide +kernel
theorem dX3_paths_56 : decode cX3_paths 56 = .ok (.iaload, 1) := by decide +kernel
theorem dX3_paths_57 : decode cX3_paths 57 = .ok (.iadd, 1) := by decide +kernel
theorem dX3_paths_58 : decode cX3_paths 58 = .ok (.aload_n 3, 1) := by decide +kernel
theorem dX3_paths_59 : decode cX3_paths 59 = .ok (.iconst 1, 1) := by decide +kernel
theorem dX3_paths_60 : decode cX3_paths 60 = .ok (.iaload, 1) := by decide +kernel
theorem dX3_paths_61 : decode cX3_paths 61 = .ok (.iadd, 1) := by decide +kernel
theorem dX3_paths_62 : decode cX3_paths 62 = .ok (.iastore, 1) := by decide +kernel
theorem dX3_paths_63 : decode cX3_paths 63 = .ok (.dup, 1) := by decide +kernel
theorem dX3_paths_64 : decode cX3_paths 64 = .ok (.iconst 2, 1) := by decide +kernel
theorem dX3_paths_65 : decode cX3_paths 65 = .ok (.iconst 1, 1) := by decide +kernel
theorem dX3_paths_66 : decode cX3_paths 66 = .ok (.iload_n 1, 1) := by decide +kernel
theorem dX3_paths_67 : decode cX3_paths 67 = .ok (.ishl, 1) := by decide +kernel
theorem dX3_paths_68 : decode cX3_paths 68 = .ok (.aload_n 2, 1) := by decide +kernel
theorem dX3_paths_69 : decode cX3_paths 69 = .ok (.iconst 2, 1) := by decide +kernel
theorem dX3_paths_70 : decode cX3_paths 70 = .ok (.iaload, 1) := by decide +kernel
theorem dX3_paths_71 : decode cX3_paths 71 = .ok (.ior, 1) := by decide +kernel
theorem dX3_paths_72 : decode cX3_paths 72 = .ok (.aload_n 3, 1) := by decide +kernel
theorem dX3_paths_73 : decode cX3_paths 73 = .ok (.iconst 2, 1) := by decide +kernel
theorem dX3_paths_74 : decode cX3_paths 74 = .ok (.iaload, 1) := by decide +kernel
theorem dX3_paths_75 : decode cX3_paths 75 = .ok (.ior, 1) := by decide +kernel
theorem dX3_paths_76 : decode cX3_paths 76 = .ok (.iastore, 1) := by decide +kernel
theorem dX3_paths_77 : decode cX3_paths 77 = .ok (.areturn, 1) := by decide +kernel
theorem dX3_shared_0 : decode cX3_shared 0 = .ok (.aload_n 0, 1) := by decide +kernel
theorem dX3_shared_1 : decode cX3_shared 1 = .ok (.arraylength, 1) := by decide +kernel
theorem dX3_shared_2 : decode cX3_shared 2 = .ok (.ifCond .ne 7, 3) := by decide +kernel
theorem dX3_shared_5 : decode cX3_shared 5 = .ok (.iconst 0, 1) := by decide +kernel
theorem dX3_shared_6 : decode cX3_shared 6 = .ok (.goto 10, 3) := by decide +kernel
theorem dX3_shared_9 : decode cX3_shared 9 = .ok (.bipush 15, 2) := by decide +kernel
theorem dX3_shared_11 : decode cX3_shared 11 = .ok (.aload_n 0, 1) := by decide +kernel
theorem dX3_shared_12 : decode cX3_shared 12 = .ok (.invokestatic 48, 3) := by decide +kernel
theorem dX3_shared_15 : decode cX3_shared 15 = .ok (.isub, 1) := by decide +kernel
theorem dX3_shared_16 : decode cX3_shared 16 = .ok (.ireturn, 1) := by decide +kernel
theorem dX3_isSame_0 : decode cX3_isSame 0 = .ok (.iconst 0, 1) := by decide +kernel
theorem dX3_isSame_1 : decode cX3_isSame 1 = .ok (.istore_n 2, 1) := by decide +kernel
theorem dX3_isSame_2 : decode cX3_isSame 2 = .ok (.iload_n 2, 1) := by decide +kernel
theorem dX3_isSame_3 : decode cX3_isSame 3 = .ok (.iconst 2, 1) := by decide +kernel
theorem dX3_isSame_4 : decode cX3_isSame 4 = .ok (.if_icmp .ge 249, 3) := by decide +kernel
theorem dX3_isSame_7 : decode cX3_isSame 7 = .ok (.aload_n 0, 1) := by decide +kernel
theorem dX3_isSame_8 : decode cX3_isSame 8 = .ok (.getfield 9, 3) := by decide +kernel
theorem dX3_isSame_11 : decode cX3_isSame 11 = .ok (.iload_n 2, 1) := by decide +kernel
theorem dX3_isSame_12 : decode cX3_isSame 12 = .ok (.aaload, 1) := by decide +kernel
theorem dX3_isSame_13 : decode cX3_isSame 13 = .ok (.astore_n 3, 1) := by decide +kernel
theorem dX3_isSame_14 : decode cX3_isSame 14 = .ok (.aload_n 3, 1) := by decide +kernel
theorem dX3_isSame_15 : decode cX3_isSame 15 = .ok (.invokestatic 72, 3) := by decide +kernel
theorem dX3_isSame_18 : decode cX3_isSame 18 = .ok (.astore 4, 2) := by decide +kernel
theorem dX3_isSame_20 : decode cX3_isSame 20 = .ok (.iconst 0, 1) := by decide +kernel
theorem dX3_isSame_21 : decode cX3_isSame 21 = .ok (.istore 5, 2) := by decide +kernel
theorem dX3_isSame_23 : decode cX3_isSame 23 = .ok (.aload_n 0, 1) := by decide +kernel
theorem dX3_isSame_24 : decode cX3_isSame 24 = .ok (.getfield 15, 3) := by decide +kernel
theorem dX3_isSame_27 : decode cX3_isSame 27 = .ok (.iload_n 2, 1) := by decide +kernel
theorem dX3_isSame_28 : decode cX3_isSame 28 = .ok (.aaload, 1) := by decide +kernel
theorem dX3_isSame_29 : decode cX3_isSame 29 = .ok (.astore 6, 2) := by decide +kernel
theorem dX3_isSame_31 : decode cX3_isSame 31 = .ok (.aload 6, 2) := by decide +kernel
theorem dX3_isSame_33 : decode cX3_isSame 33 = .ok (.arraylength, 1) := by decide +kernel
theorem dX3_isSame_34 : decode cX3_isSame 34 = .ok (.istore 7, 2) := by decide +kernel
theorem dX3_isSame_36 : decode cX3_isSame 36 = .ok (.iconst 0, 1) := by decide +kernel
theorem dX3_isSame_37 : decode cX3_isSame 37 = .ok (.istore 8, 2) := by decide +kernel
theorem dX3_isSame_39 : decode cX3_isSame 39 = .ok (.iload 8, 2) := by decide +kernel
theorem dX3_isSame_41 : decode cX3_isSame 41 = .ok (.iload 7, 2) := by decide +kernel
theorem dX3_isSame_43 : decode cX3_isSame 43 = .ok (.if_icmp .ge 23, 3) := by decide +kernel
theorem dX3_isSame_46 : decode cX3_isSame 46 = .ok (.aload 6, 2) := by decide +kernel
theorem dX3_isSame_48 : decode cX3_isSame 48 = .ok (.iload 8, 2) := by decide +kernel
theorem dX3_isSame_50 : decode cX3_isSame 50 = .ok (.iaload, 1) := by decide +kernel
theorem dX3_isSame_51 : decode cX3_isSame 51 = .ok (.istore 9, 2) := by decide +kernel
theorem dX3_isSame_53 : decode cX3_isSame 53 = .ok (.iload 5, 2) := by decide +kernel
theorem dX3_isSame_55 : decode cX3_isSame 55 = .ok (.iload 9, 2) := by decide +kernel
theorem dX3_isSame_57 : decode cX3_isSame 57 = .ok (.iadd, 1) := by decide +kernel
theorem dX3_isSame_58 : decode cX3_isSame 58 = .ok (.istore 5, 2) := by decide +kernel
theorem dX3_isSame_60 : decode cX3_isSame 60 = .ok (.iinc 8 1, 3) := by decide +kernel
theorem dX3_isSame_63 : decode cX3_isSame 63 = .ok (.goto (-24), 3) := by decide +kernel
theorem dX3_isSame_66 : decode cX3_isSame 66 = .ok (.bipush 7, 2) := by decide +kernel
theorem dX3_isSame_68 : decode cX3_isSame 68 = .ok (.newarray .int, 2) := by decide +kernel
theorem dX3_isSame_70 : decode cX3_isSame 70 = .ok (.dup, 1) := by decide +kernel
theorem dX3_isSame_71 : decode cX3_isSame 71 = .ok (.iconst 0, 1) := by decide +kernel
theorem dX3_isSame_72 : decode cX3_isSame 72 = .ok (.aload_n 3, 1) := by decide +kernel
theorem dX3_isSame_73 : decode cX3_isSame 73 = .ok (.arraylength, 1) := by decide +kernel
theorem dX3_isSame_74 : decode cX3_isSame 74 = .ok (.iastore, 1) := by decide +kernel
theorem dX3_isSame_75 : decode cX3_isSame 75 = .ok (.dup, 1) := by decide +kernel
theorem dX3_isSame_76 : decode cX3_isSame 76 = .ok (.iconst 1, 1) := by decide +kernel
theorem dX3_isSame_77 : decode cX3_isSame 77 = .ok (.iconst 0, 1) := by decide +kernel
theorem dX3_isSame_78 : decode cX3_isSame 78 = .ok (.aload_n 3, 1) := by decide +kernel
theorem dX3_isSame_79 : decode cX3_isSame 79 = .ok (.arraylength, 1) := by decide +kernel
theorem dX3_isSame_80 : decode cX3_isSame 80 = .ok (.iconst 1, 1) := by decide +kernel
theorem dX3_isSame_81 : decode cX3_isSame 81 = .ok (.isub, 1) := by decide +kernel
theorem dX3_isSame_82 : decode cX3_isSame 82 = .ok (.invokestatic 45, 3) := by decide +kernel
theorem dX3_isSame_85 : decode cX3_isSame 85 = .ok (.iastore, 1) := by decide +kernel
theorem dX3_isSame_86 : decode cX3_isSame 86 = .ok (.dup, 1) := by decide +kernel
theorem dX3_isSame_87 : decode cX3_isSame 87 = .ok (.iconst 2, 1) := by decide +kernel
theorem dX3_isSame_88 : decode cX3_isSame 88 = .ok (.aload 4, 2) := by decide +kernel
theorem dX3_isSame_90 : decode cX3_isSame 90 = .ok (.iconst 0, 1) := by decide +kernel
theorem dX3_isSame_91 : decode cX3_isSame 91 = .ok (.iaload, 1) := by decide +kernel
theorem dX3_isSame_92 : decode cX3_isSame 92 = .ok (.iastore, 1) := by decide +kernel
theorem dX3_isSame_93 : decode cX3_isSame 93 = .ok (.dup, 1) := by decide +kernel
theorem dX3_isSame_94 : decode cX3_isSame 94 = .ok (.iconst 3, 1) := by decide +kernel
theorem dX3_isSame_95 : decode cX3_isSame 95 = .ok (.aload 4, 2) := by decide +kernel
theorem dX3_isSame_97 : decode cX3_isSame 97 = .ok (.iconst 1, 1) := by decide +kernel
theorem dX3_isSame_98 : decode cX3_isSame 98 = .ok (.iaload, 1) := by decide +kernel
theorem dX3_isSame_99 : decode cX3_isSame 99 = .ok (.iastore, 1) := by decide +kernel
theorem dX3_isSame_100 : decode cX3_isSame 100 = .ok (.dup, 1) := by decide +kernel
theorem dX3_isSame_101 : decode cX3_isSame 101 = .ok (.iconst 4, 1) := by decide +kernel
theorem dX3_isSame_102 : decode cX3_isSame 102 = .ok (.aload_n 3, 1) := by decide +kernel
theorem dX3_isSame_103 : decode cX3_isSame 103 = .ok (.invokestatic 76, 3) := by decide +kernel
theorem dX3_isSame_106 : decode cX3_isSame 106 = .ok (.iastore, 1) := by decide +kernel
theorem dX3_isSame_107 : decode cX3_isSame 107 = .ok (.dup, 1) := by decide +kernel
theorem dX3_isSame_108 : decode cX3_isSame 108 = .ok (.iconst 5, 1) := by decide +kernel
theorem dX3_isSame_109 : decode cX3_isSame 109 = .ok (.aload 4, 2) := by decide +kernel
theorem dX3_isSame_111 : decode cX3_isSame 111 = .ok (.iconst 2, 1) := by decide +kernel
theorem dX3_isSame_112 : decode cX3_isSame 112 = .ok (.iaload, 1) := by decide +kernel
theorem dX3_isSame_113 : decode cX3_isSame 113 = .ok (.iastore, 1) := by decide +kernel
theorem dX3_isSame_114 : decode cX3_isSame 114 = .ok (.dup, 1) := by decide +kernel
theorem dX3_isSame_115 : decode cX3_isSame 115 = .ok (.bipush 6, 2) := by decide +kernel
theorem dX3_isSame_117 : decode cX3_isSame 117 = .ok (.iload 5, 2) := by decide +kernel
theorem dX3_isSame_119 : decode cX3_isSame 119 = .ok (.iastore, 1) := by decide +kernel
theorem dX3_isSame_120 : decode cX3_isSame 120 = .ok (.astore 6, 2) := by decide +kernel
theorem dX3_isSame_122 : decode cX3_isSame 122 = .ok (.iconst 0, 1) := by decide +kernel
theorem dX3_isSame_123 : decode cX3_isSame 123 = .ok (.istore 7, 2) := by decide +kernel
theorem dX3_isSame_125 : decode cX3_isSame 125 = .ok (.iload 7, 2) := by decide +kernel
theorem dX3_isSame_127 : decode cX3_isSame 127 = .ok (.bipush 7, 2) := by decide +kernel
theorem dX3_isSame_129 : decode cX3_isSame 129 = .ok (.if_icmp .ge 26, 3) := by decide +kernel
theorem dX3_isSame_132 : decode cX3_isSame 132 = .ok (.aload_n 1, 1) := by decide +kernel
theorem dX3_isSame_133 : decode cX3_isSame 133 = .ok (.iload_n 2, 1) := by decide +kernel
theorem dX3_isSame_134 : decode cX3_isSame 134 = .ok (.iload 7, 2) := by decide +kernel
theorem dX3_isSame_136 : decode cX3_isSame 136 = .ok (.invokevirtual 79, 3) := by decide +kernel
theorem dX3_isSame_139 : decode cX3_isSame 139 = .ok (.aload 6, 2) := by decide +kernel
theorem dX3_isSame_141 : decode cX3_isSame 141 = .ok (.iload 7, 2) := by decide +kernel
theorem dX3_isSame_143 : decode cX3_isSame 143 = .ok (.iaload, 1) := by decide +kernel
theorem dX3_isSame_144 : decode cX3_isSame 144 = .ok (.if_icmp .eq 5, 3) := by decide +kernel
theorem dX3_isSame_147 : decode cX3_isSame 147 = .ok (.iconst 0, 1) := by decide +kernel
theorem dX3_isSame_148 : decode cX3_isSame 148 = .ok (.ireturn, 1) := by decide +kernel
theorem dX3_isSame_149 : decode cX3_isSame 149 = .ok (.iinc 7 1, 3) := by decide +kernel
theorem dX3_isSame_152 : decode cX3_isSame 152 = .ok (.goto (-27), 3) := by decide +kernel
theorem dX3_isSame_155 : decode cX3_isSame 155 = .ok (.iconst 0, 1) := by decide +kernel
theorem dX3_isSame_156 : decode cX3_isSame 156 = .ok (.istore 7, 2) := by decide +kernel
theorem dX3_isSame_158 : decode cX3_isSame 158 = .ok (.iload 7, 2) := by decide +kernel
theorem dX3_isSame_160 : decode cX3_isSame 160 = .ok (.aload_n 3, 1) := by decide +kernel
theorem dX3_isSame_161 : decode cX3_isSame 161 = .ok (.arraylength, 1) := by decide +kernel
theorem dX3_isSame_162 : decode cX3_isSame 162 = .ok (.if_icmp .ge 32, 3) := by decide +kernel
theorem dX3_isSame_165 : decode cX3_isSame 165 = .ok (.aload_n 1, 1) := by decide +kernel
theorem dX3_isSame_166 : decode cX3_isSame 166 = .ok (.iload_n 2, 1) := by decide +kernel
theorem dX3_isSame_167 : decode cX3_isSame 167 = .ok (.aload_n 3, 1) := by decide +kernel
theorem dX3_isSame_168 : decode cX3_isSame 168 = .ok (.iload 7, 2) := by decide +kernel
theorem dX3_isSame_170 : decode cX3_isSame 170 = .ok (.iaload, 1) := by decide +kernel
theorem dX3_isSame_171 : decode cX3_isSame 171 = .ok (.invokevirtual 82, 3) := by decide +kernel
theorem dX3_isSame_174 : decode cX3_isSame 174 = .ok (.aload_n 0, 1) := by decide +kernel
theorem dX3_isSame_175 : decode cX3_isSame 175 = .ok (.getfield 15, 3) := by decide +kernel
theorem dX3_isSame_178 : decode cX3_isSame 178 = .ok (.iload_n 2, 1) := by decide +kernel
theorem dX3_isSame_179 : decode cX3_isSame 179 = .ok (.aaload, 1) := by decide +kernel
theorem dX3_isSame_180 : decode cX3_isSame 180 = .ok (.iload 7, 2) := by decide +kernel
theorem dX3_isSame_182 : decode cX3_isSame 182 = .ok (.iaload, 1) := by decide +kernel
theorem dX3_isSame_183 : decode cX3_isSame 183 = .ok (.if_icmp .eq 5, 3) := by decide +kernel
theorem dX3_isSame_186 : decode cX3_isSame 186 = .ok (.iconst 0, 1) := by decide +kernel
theorem dX3_isSame_187 : decode cX3_isSame 187 = .ok (.ireturn, 1) := by decide +kernel
theorem dX3_isSame_188 : decode cX3_isSame 188 = .ok (.iinc 7 1, 3) := by decide +kernel
theorem dX3_isSame_191 : decode cX3_isSame 191 = .ok (.goto (-33), 3) := by decide +kernel
theorem dX3_isSame_194 : decode cX3_isSame 194 = .ok (.aload_n 3, 1) := by decide +kernel
theorem dX3_isSame_195 : decode cX3_isSame 195 = .ok (.arraylength, 1) := by decide +kernel
theorem dX3_isSame_196 : decode cX3_isSame 196 = .ok (.ifCond .le 22, 3) := by decide +kernel
theorem dX3_isSame_199 : decode cX3_isSame 199 = .ok (.aload_n 1, 1) := by decide +kernel
theorem dX3_isSame_200 : decode cX3_isSame 200 = .ok (.iload_n 2, 1) := by decide +kernel
theorem dX3_isSame_201 : decode cX3_isSame 201 = .ok (.iconst 0, 1) := by decide +kernel
theorem dX3_isSame_202 : decode cX3_isSame 202 = .ok (.aload_n 3, 1) := by decide +kernel
theorem dX3_isSame_203 : decode cX3_isSame 203 = .ok (.iconst 0, 1) := by decide +kernel
theorem dX3_isSame_204 : decode cX3_isSame 204 = .ok (.invokestatic 68, 3) := by decide +kernel
theorem dX3_isSame_207 : decode cX3_isSame 207 = .ok (.iconst 2, 1) := by decide +kernel
theorem dX3_isSame_208 : decode cX3_isSame 208 = .ok (.aload_n 3, 1) := by decide +kernel
theorem dX3_isSame_209 : decode cX3_isSame 209 = .ok (.arraylength, 1) := by decide +kernel
theorem dX3_isSame_210 : decode cX3_isSame 210 = .ok (.imul, 1) := by decide +kernel
theorem dX3_isSame_211 : decode cX3_isSame 211 = .ok (.iconst 1, 1) := by decide +kernel
theorem dX3_isSame_212 : decode cX3_isSame 212 = .ok (.isub, 1) := by decide +kernel
theorem dX3_isSame_213 : decode cX3_isSame 213 = .ok (.if_icmp .eq 5, 3) := by decide +kernel
theorem dX3_isSame_216 : decode cX3_isSame 216 = .ok (.iconst 0, 1) := by decide +kernel
theorem dX3_isSame_217 : decode cX3_isSame 217 = .ok (.ireturn, 1) := by decide +kernel
theorem dX3_isSame_218 : decode cX3_isSame 218 = .ok (.aload_n 1, 1) := by decide +kernel
theorem dX3_isSame_219 : decode cX3_isSame 219 = .ok (.iload_n 2, 1) := by decide +kernel
theorem dX3_isSame_220 : decode cX3_isSame 220 = .ok (.invokevirtual 84, 3) := by decide +kernel
theorem dX3_isSame_223 : decode cX3_isSame 223 = .ok (.aload_n 3, 1) := by decide +kernel
theorem dX3_isSame_224 : decode cX3_isSame 224 = .ok (.arraylength, 1) := by decide +kernel
theorem dX3_isSame_225 : decode cX3_isSame 225 = .ok (.ifCond .ne 7, 3) := by decide +kernel
theorem dX3_isSame_228 : decode cX3_isSame 228 = .ok (.dconst 0, 1) := by decide +kernel
theorem dX3_isSame_229 : decode cX3_isSame 229 = .ok (.goto 12, 3) := by decide +kernel
theorem dX3_isSame_232 : decode cX3_isSame 232 = .ok (.aload 4, 2) := by decide +kernel
theorem dX3_isSame_234 : decode cX3_isSame 234 = .ok (.iconst 1, 1) := by decide +kernel
theorem dX3_isSame_235 : decode cX3_isSame 235 = .ok (.iaload, 1) := by decide +kernel
theorem dX3_isSame_236 : decode cX3_isSame 236 = .ok (.i2d, 1) := by decide +kernel
theorem dX3_isSame_237 : decode cX3_isSame 237 = .ok (.aload_n 3, 1) := by decide +kernel
theorem dX3_isSame_238 : decode cX3_isSame 238 = .ok (.arraylength, 1) := by decide +kernel
theorem dX3_isSame_239 : decode cX3_isSame 239 = .ok (.i2d, 1) := by decide +kernel
theorem dX3_isSame_240 : decode cX3_isSame 240 = .ok (.ddiv, 1) := by decide +kernel
theorem dX3_isSame_241 : decode cX3_isSame 241 = .ok (.dcmp .l, 1) := by decide +kernel
theorem dX3_isSame_242 : decode cX3_isSame 242 = .ok (.ifCond .eq 5, 3) := by decide +kernel
theorem dX3_isSame_245 : decode cX3_isSame 245 = .ok (.iconst 0, 1) := by decide +kernel
theorem dX3_isSame_246 : decode cX3_isSame 246 = .ok (.ireturn, 1) := by decide +kernel
theorem dX3_isSame_247 : decode cX3_isSame 247 = .ok (.iinc 2 1, 3) := by decide +kernel
theorem dX3_isSame_250 : decode cX3_isSame 250 = .ok (.goto (-248), 3) := by decide +kernel
theorem dX3_isSame_253 : decode cX3_isSame 253 = .ok (.iconst 1, 1) := by decide +kernel
theorem dX3_isSame_254 : decode cX3_isSame 254 = .ok (.ireturn, 1) := by decide +kernel
