theorem dX3_init_0 : decode cX3_init 0 = .ok (.aload_n 0, 1) := by decide +kernel
theorem dX3_init_1 : decode cX3_init 1 = .ok (.invokespecial 3, 3) := by decide +kernel
theorem dX3_init_4 : decode cX3_init 4 = .ok (.aload_n 0, 1) := by decide +kernel
theorem dX3_init_5 : decode cX3_init 5 = .ok (.iconst 2, 1) := by decide +kernel
theorem dX3_init_6 : decode cX3_init 6 = .ok (.newarray .int, 2) := by decide +kernel
theorem dX3_init_8 : decode cX3_init 8 = .ok (.putfield 9, 3) := by decide +kernel
theorem dX3_init_11 : decode cX3_init 11 = .ok (.aload_n 0, 1) := by decide +kernel
theorem dX3_init_12 : decode cX3_init 12 = .ok (.bipush 48, 2) := by decide +kernel
theorem dX3_init_14 : decode cX3_init 14 = .ok (.newarray .int, 2) := by decide +kernel
theorem dX3_init_16 : decode cX3_init 16 = .ok (.putfield 13, 3) := by decide +kernel
theorem dX3_init_19 : decode cX3_init 19 = .ok (.aload_n 0, 1) := by decide +kernel
theorem dX3_init_20 : decode cX3_init 20 = .ok (.bipush 48, 2) := by decide +kernel
theorem dX3_init_22 : decode cX3_init 22 = .ok (.newarray .int, 2) := by decide +kernel
theorem dX3_init_24 : decode cX3_init 24 = .ok (.putfield 16, 3) := by decide +kernel
theorem dX3_init_27 : decode cX3_init 27 = .ok (.aload_n 0, 1) := by decide +kernel
theorem dX3_init_28 : decode cX3_init 28 = .ok (.bipush 48, 2) := by decide +kernel
theorem dX3_init_30 : decode cX3_init 30 = .ok (.newarray .int, 2) := by decide +kernel
theorem dX3_init_32 : decode cX3_init 32 = .ok (.putfield 19, 3) := by decide +kernel
theorem dX3_init_35 : decode cX3_init 35 = .ok (.aload_n 0, 1) := by decide +kernel
theorem dX3_init_36 : decode cX3_init 36 = .ok (.bipush 96, 2) := by decide +kernel
theorem dX3_init_38 : decode cX3_init 38 = .ok (.newarray .int, 2) := by decide +kernel
theorem dX3_init_40 : decode cX3_init 40 = .ok (.putfield 22, 3) := by decide +kernel
theorem dX3_init_43 : decode cX3_init 43 = .ok (.aload_n 0, 1) := by decide +kernel
theorem dX3_init_44 : decode cX3_init 44 = .ok (.bipush 96, 2) := by decide +kernel
theorem dX3_init_46 : decode cX3_init 46 = .ok (.newarray .int, 2) := by decide +kernel
theorem dX3_init_48 : decode cX3_init 48 = .ok (.putfield 25, 3) := by decide +kernel
theorem dX3_init_51 : decode cX3_init 51 = .ok (.aload_n 0, 1) := by decide +kernel
theorem dX3_init_52 : decode cX3_init 52 = .ok (.bipush 96, 2) := by decide +kernel
theorem dX3_init_54 : decode cX3_init 54 = .ok (.newarray .int, 2) := by decide +kernel
theorem dX3_init_56 : decode cX3_init 56 = .ok (.putfield 28, 3) := by decide +kernel
theorem dX3_init_59 : decode cX3_init 59 = .ok (.aload_n 0, 1) := by decide +kernel
theorem dX3_init_60 : decode cX3_init 60 = .ok (.bipush 96, 2) := by decide +kernel
theorem dX3_init_62 : decode cX3_init 62 = .ok (.newarray .int, 2) := by decide +kernel
theorem dX3_init_64 : decode cX3_init 64 = .ok (.putfield 31, 3) := by decide +kernel
theorem dX3_init_67 : decode cX3_init 67 = .ok (.aload_n 0, 1) := by decide +kernel
theorem dX3_init_68 : decode cX3_init 68 = .ok (.bipush 96, 2) := by decide +kernel
theorem dX3_init_70 : decode cX3_init 70 = .ok (.newarray .int, 2) := by decide +kernel
theorem dX3_init_72 : decode cX3_init 72 = .ok (.putfield 34, 3) := by decide +kernel
theorem dX3_init_75 : decode cX3_init 75 = .ok (.aload_n 0, 1) := by decide +kernel
theorem dX3_init_76 : decode cX3_init 76 = .ok (.bipush 96, 2) := by decide +kernel
theorem dX3_init_78 : decode cX3_init 78 = .ok (.newarray .int, 2) := by decide +kernel
theorem dX3_init_80 : decode cX3_init 80 = .ok (.putfield 37, 3) := by decide +kernel
theorem dX3_init_83 : decode cX3_init 83 = .ok (.return_, 1) := by decide +kernel
theorem dX3_thrown_0 : decode cX3_thrown 0 = .ok (.aload_n 0, 1) := by decide +kernel
theorem dX3_thrown_1 : decode cX3_thrown 1 = .ok (.getfield 40, 3) := by decide +kernel
theorem dX3_thrown_4 : decode cX3_thrown 4 = .ok (.ireturn, 1) := by decide +kernel
theorem dX3_no_0 : decode cX3_no 0 = .ok (.aload_n 0, 1) := by decide +kernel
theorem dX3_no_1 : decode cX3_no 1 = .ok (.iload_n 1, 1) := by decide +kernel
theorem dX3_no_2 : decode cX3_no 2 = .ok (.putfield 40, 3) := by decide +kernel
theorem dX3_no_5 : decode cX3_no 5 = .ok (.iconst 0, 1) := by decide +kernel
theorem dX3_no_6 : decode cX3_no 6 = .ok (.ireturn, 1) := by decide +kernel
theorem dX3_isIn_0 : decode cX3_isIn 0 = .ok (.iload_n 0, 1) := by decide +kernel
theorem dX3_isIn_1 : decode cX3_isIn 1 = .ok (.iload_n 1, 1) := by decide +kernel
theorem dX3_isIn_2 : decode cX3_isIn 2 = .ok (.if_icmp .lt 12, 3) := by decide +kernel
theorem dX3_isIn_5 : decode cX3_isIn 5 = .ok (.iload_n 0, 1) := by decide +kernel
theorem dX3_isIn_6 : decode cX3_isIn 6 = .ok (.iload_n 2, 1) := by decide +kernel
theorem dX3_isIn_7 : decode cX3_isIn 7 = .ok (.if_icmp .gt 7, 3) := by decide +kernel
theorem dX3_isIn_10 : decode cX3_isIn 10 = .ok (.iconst 1, 1) := by decide +kernel
theorem dX3_isIn_11 : decode cX3_isIn 11 = .ok (.goto 4, 3) := by decide +kernel
theorem dX3_isIn_14 : decode cX3_isIn 14 = .ok (.iconst 0, 1) := by decide +kernel
theorem dX3_isIn_15 : decode cX3_isIn 15 = .ok (.ireturn, 1) := by decide +kernel
theorem dX3_isWood_0 : decode cX3_isWood 0 = .ok (.iload_n 0, 1) := by decide +kernel
theorem dX3_isWood_1 : decode cX3_isWood 1 = .ok (.iconst 0, 1) := by decide +kernel
theorem dX3_isWood_2 : decode cX3_isWood 2 = .ok (.iconst 1, 1) := by decide +kernel
theorem dX3_isWood_3 : decode cX3_isWood 3 = .ok (.invokestatic 44, 3) := by decide +kernel
theorem dX3_isWood_6 : decode cX3_isWood 6 = .ok (.ireturn, 1) := by decide +kernel
theorem dX3_isName_0 : decode cX3_isName 0 = .ok (.iload_n 0, 1) := by decide +kernel
theorem dX3_isName_1 : decode cX3_isName 1 = .ok (.iconst 0, 1) := by decide +kernel
theorem dX3_isName_2 : decode cX3_isName 2 = .ok (.ldc 48, 2) := by decide +kernel
theorem dX3_isName_4 : decode cX3_isName 4 = .ok (.invokestatic 44, 3) := by decide +kernel
theorem dX3_isName_7 : decode cX3_isName 7 = .ok (.ireturn, 1) := by decide +kernel
theorem dX3_topBit_0 : decode cX3_topBit 0 = .ok (.bipush 31, 2) := by decide +kernel
theorem dX3_topBit_2 : decode cX3_topBit 2 = .ok (.iload_n 0, 1) := by decide +kernel
theorem dX3_topBit_3 : decode cX3_topBit 3 = .ok (.invokestatic 49, 3) := by decide +kernel
theorem dX3_topBit_6 : decode cX3_topBit 6 = .ok (.isub, 1) := by decide +kernel
theorem dX3_topBit_7 : decode cX3_topBit 7 = .ok (.ireturn, 1) := by decide +kernel
theorem dX3_smaller_0 : decode cX3_smaller 0 = .ok (.iconst 0, 1) := by decide +kernel
theorem dX3_smaller_1 : decode cX3_smaller 1 = .ok (.istore_n 3, 1) := by decide +kernel
theorem dX3_smaller_2 : decode cX3_smaller 2 = .ok (.iload_n 3, 1) := by decide +kernel
theorem dX3_smaller_3 : decode cX3_smaller 3 = .ok (.aload_n 0, 1) := by decide +kernel
theorem dX3_smaller_4 : decode cX3_smaller 4 = .ok (.getfield 9, 3) := by decide +kernel
theorem dX3_smaller_7 : decode cX3_smaller 7 = .ok (.iload_n 1, 1) := by decide +kernel
theorem dX3_smaller_8 : decode cX3_smaller 8 = .ok (.iaload, 1) := by decide +kernel
theorem dX3_smaller_9 : decode cX3_smaller 9 = .ok (.if_icmp .ge 24, 3) := by decide +kernel
theorem dX3_smaller_12 : decode cX3_smaller 12 = .ok (.aload_n 0, 1) := by decide +kernel
theorem dX3_smaller_13 : decode cX3_smaller 13 = .ok (.getfield 13, 3) := by decide +kernel
theorem dX3_smaller_16 : decode cX3_smaller 16 = .ok (.bipush 24, 2) := by decide +kernel
theorem dX3_smaller_18 : decode cX3_smaller 18 = .ok (.iload_n 1, 1) := by decide +kernel
theorem dX3_smaller_19 : decode cX3_smaller 19 = .ok (.imul, 1) := by decide +kernel
theorem dX3_smaller_20 : decode cX3_smaller 20 = .ok (.iload_n 3, 1) := by decide +kernel
theorem dX3_smaller_21 : decode cX3_smaller 21 = .ok (.iadd, 1) := by decide +kernel
theorem dX3_smaller_22 : decode cX3_smaller 22 = .ok (.iaload, 1) := by decide +kernel
theorem dX3_smaller_23 : decode cX3_smaller 23 = .ok (.iload_n 2, 1) := by decide +kernel
theorem dX3_smaller_24 : decode cX3_smaller 24 = .ok (.if_icmp .ge 9, 3) := by decide +kernel
theorem dX3_smaller_27 : decode cX3_smaller 27 = .ok (.iinc 3 1, 3) := by decide +kernel
theorem dX3_smaller_30 : decode cX3_smaller 30 = .ok (.goto (-28), 3) := by decide +kernel
theorem dX3_smaller_33 : decode cX3_smaller 33 = .ok (.iload_n 3, 1) := by decide +kernel
theorem dX3_smaller_34 : decode cX3_smaller 34 = .ok (.ireturn, 1) := by decide +kernel
theorem dX3_isThere_0 : decode cX3_isThere 0 = .ok (.aload_n 0, 1) := by decide +kernel
theorem dX3_isThere_1 : decode cX3_isThere 1 = .ok (.iload_n 1, 1) := by decide +kernel
theorem dX3_isThere_2 : decode cX3_isThere 2 = .ok (.iload_n 2, 1) := by decide +kernel
theorem dX3_isThere_3 : decode cX3_isThere 3 = .ok (.invokevirtual 55, 3) := by decide +kernel
theorem dX3_isThere_6 : decode cX3_isThere 6 = .ok (.istore_n 3, 1) := by decide +kernel
theorem dX3_isThere_7 : decode cX3_isThere 7 = .ok (.iload_n 3, 1) := by decide +kernel
theorem dX3_isThere_8 : decode cX3_isThere 8 = .ok (.aload_n 0, 1) := by decide +kernel
theorem dX3_isThere_9 : decode cX3_isThere 9 = .ok (.getfield 9, 3) := by decide +kernel
theorem dX3_isThere_12 : decode cX3_isThere 12 = .ok (.iload_n 1, 1) := by decide +kernel
theorem dX3_isThere_13 : decode cX3_isThere 13 = .ok (.iaload, 1) := by decide +kernel
theorem dX3_isThere_14 : decode cX3_isThere 14 = .ok (.if_icmp .ge 22, 3) := by decide +kernel
theorem dX3_isThere_17 : decode cX3_isThere 17 = .ok (.aload_n 0, 1) := by decide +kernel
theorem dX3_isThere_18 : decode cX3_isThere 18 = .ok (.getfield 13, 3) := by decide +kernel
theorem dX3_isThere_21 : decode cX3_isThere 21 = .ok (.bipush 24, 2) := by decide +kernel
theorem dX3_isThere_23 : decode cX3_isThere 23 = .ok (.iload_n 1, 1) := by decide +kernel
theorem dX3_isThere_24 : decode cX3_isThere 24 = .ok (.imul, 1) := by decide +kernel
theorem dX3_isThere_25 : decode cX3_isThere 25 = .ok (.iload_n 3, 1) := by decide +kernel
theorem dX3_isThere_26 : decode cX3_isThere 26 = .ok (.iadd, 1) := by decide +kernel
theorem dX3_isThere_27 : decode cX3_isThere 27 = .ok (.iaload, 1) := by decide +kernel
theorem dX3_isThere_28 : decode cX3_isThere 28 = .ok (.iload_n 2, 1) := by decide +kernel
theorem dX3_isThere_29 : decode cX3_isThere 29 = .ok (.if_icmp .ne 7, 3) := by decide +kernel
theorem dX3_isThere_32 : decode cX3_isThere 32 = .ok (.iconst 1, 1) := by decide +kernel
theorem dX3_isThere_33 : decode cX3_isThere 33 = .ok (.goto 4, 3) := by decide +kernel
theorem dX3_isThere_36 : decode cX3_isThere 36 = .ok (.iconst 0, 1) := by decide +kernel
theorem dX3_isThere_37 : decode cX3_isThere 37 = .ok (.ireturn, 1) := by decide +kernel
theorem dX3_insert_0 : decode cX3_insert 0 = .ok (.bipush 24, 2) := by decide +kernel
theorem dX3_insert_2 : decode cX3_insert 2 = .ok (.iload_n 1, 1) := by decide +kernel
theorem dX3_insert_3 : decode cX3_insert 3 = .ok (.imul, 1) := by decide +kernel
theorem dX3_insert_4 : decode cX3_insert 4 = .ok (.aload_n 0, 1) := by decide +kernel
theorem dX3_insert_5 : decode cX3_insert 5 = .ok (.iload_n 1, 1) := by decide +kernel
theorem dX3_insert_6 : decode cX3_insert 6 = .ok (.iload_n 2, 1) := by decide +kernel
theorem dX3_insert_7 : decode cX3_insert 7 = .ok (.invokevirtual 55, 3) := by decide +kernel
theorem dX3_insert_10 : decode cX3_insert 10 = .ok (.iadd, 1) := by decide +kernel
theorem dX3_insert_11 : decode cX3_insert 11 = .ok (.istore 4, 2) := by decide +kernel
theorem dX3_insert_13 : decode cX3_insert 13 = .ok (.bipush 24, 2) := by decide +kernel
theorem dX3_insert_15 : decode cX3_insert 15 = .ok (.iload_n 1, 1) := by decide +kernel
theorem dX3_insert_16 : decode cX3_insert 16 = .ok (.imul, 1) := by decide +kernel
theorem dX3_insert_17 : decode cX3_insert 17 = .ok (.aload_n 0, 1) := by decide +kernel
theorem dX3_insert_18 : decode cX3_insert 18 = .ok (.getfield 9, 3) := by decide +kernel
theorem dX3_insert_21 : decode cX3_insert 21 = .ok (.iload_n 1, 1) := by decide +kernel
theorem dX3_insert_22 : decode cX3_insert 22 = .ok (.iaload, 1) := by decide +kernel
theorem dX3_insert_23 : decode cX3_insert 23 = .ok (.iadd, 1) := by decide +kernel
theorem dX3_insert_24 : decode cX3_insert 24 = .ok (.iload 4, 2) := by decide +kernel
theorem dX3_insert_26 : decode cX3_insert 26 = .ok (.isub, 1) := by decide +kernel
theorem dX3_insert_27 : decode cX3_insert 27 = .ok (.istore 5, 2) := by decide +kernel
theorem dX3_insert_29 : decode cX3_insert 29 = .ok (.aload_n 0, 1) := by decide +kernel
theorem dX3_insert_30 : decode cX3_insert 30 = .ok (.getfield 13, 3) := by decide +kernel
theorem dX3_insert_33 : decode cX3_insert 33 = .ok (.iload 4, 2) := by decide +kernel
theorem dX3_insert_35 : decode cX3_insert 35 = .ok (.aload_n 0, 1) := by decide +kernel
theorem dX3_insert_36 : decode cX3_insert 36 = .ok (.getfield 13, 3) := by decide +kernel
theorem dX3_insert_39 : decode cX3_insert 39 = .ok (.iload 4, 2) := by decide +kernel
theorem dX3_insert_41 : decode cX3_insert 41 = .ok (.iconst 1, 1) := by decide +kernel
theorem dX3_insert_42 : decode cX3_insert 42 = .ok (.iadd, 1) := by decide +kernel
theorem dX3_insert_43 : decode cX3_insert 43 = .ok (.iload 5, 2) := by decide +kernel
theorem dX3_insert_45 : decode cX3_insert 45 = .ok (.invokestatic 59, 3) := by decide +kernel
theorem dX3_insert_48 : decode cX3_insert 48 = .ok (.aload_n 0, 1) := by decide +kernel
theorem dX3_insert_49 : decode cX3_insert 49 = .ok (.getfield 16, 3) := by decide +kernel
theorem dX3_insert_52 : decode cX3_insert 52 = .ok (.iload 4, 2) := by decide +kernel
theorem dX3_insert_54 : decode cX3_insert 54 = .ok (.aload_n 0, 1) := by decide +kernel
theorem dX3_insert_55 : decode cX3_insert 55 = .ok (.getfield 16, 3) := by decide +kernel
theorem dX3_insert_58 : decode cX3_insert 58 = .ok (.iload 4, 2) := by decide +kernel
theorem dX3_insert_60 : decode cX3_insert 60 = .ok (.iconst 1, 1) := by decide +kernel
theorem dX3_insert_61 : decode cX3_insert 61 = .ok (.iadd, 1) := by decide +kernel
theorem dX3_insert_62 : decode cX3_insert 62 = .ok (.iload 5, 2) := by decide +kernel
theorem dX3_insert_64 : decode cX3_insert 64 = .ok (.invokestatic 59, 3) := by decide +kernel
theorem dX3_insert_67 : decode cX3_insert 67 = .ok (.aload_n 0, 1) := by decide +kernel
theorem dX3_insert_68 : decode cX3_insert 68 = .ok (.getfield 13, 3) := by decide +kernel
theorem dX3_insert_71 : decode cX3_insert 71 = .ok (.iload 4, 2) := by decide +kernel
theorem dX3_insert_73 : decode cX3_insert 73 = .ok (.iload_n 2, 1) := by decide +kernel
theorem dX3_insert_74 : decode cX3_insert 74 = .ok (.iastore, 1) := by decide +kernel
theorem dX3_insert_75 : decode cX3_insert 75 = .ok (.aload_n 0, 1) := by decide +kernel
theorem dX3_insert_76 : decode cX3_insert 76 = .ok (.getfield 16, 3) := by decide +kernel
theorem dX3_insert_79 : decode cX3_insert 79 = .ok (.iload 4, 2) := by decide +kernel
theorem dX3_insert_81 : decode cX3_insert 81 = .ok (.iload_n 3, 1) := by decide +kernel
theorem dX3_insert_82 : decode cX3_insert 82 = .ok (.iastore, 1) := by decide +kernel
theorem dX3_insert_83 : decode cX3_insert 83 = .ok (.aload_n 0, 1) := by decide +kernel
theorem dX3_insert_84 : decode cX3_insert 84 = .ok (.getfield 9, 3) := by decide +kernel
theorem dX3_insert_87 : decode cX3_insert 87 = .ok (.iload_n 1, 1) := by decide +kernel
theorem dX3_insert_88 : decode cX3_insert 88 = .ok (.dup2, 1) := by decide +kernel
theorem dX3_insert_89 : decode cX3_insert 89 = .ok (.iaload, 1) := by decide +kernel
theorem dX3_insert_90 : decode cX3_insert 90 = .ok (.iconst 1, 1) := by decide +kernel
theorem dX3_insert_91 : decode cX3_insert 91 = .ok (.iadd, 1) := by decide +kernel
theorem dX3_insert_92 : decode cX3_insert 92 = .ok (.iastore, 1) := by decide +kernel
theorem dX3_insert_93 : decode cX3_insert 93 = .ok (.return_, 1) := by decide +kernel
theorem dX3_remove_0 : decode cX3_remove 0 = .ok (.bipush 24, 2) := by decide +kernel
theorem dX3_remove_2 : decode cX3_remove 2 = .ok (.iload_n 1, 1) := by decide +kernel
theorem dX3_remove_3 : decode cX3_remove 3 = .ok (.imul, 1) := by decide +kernel
theorem dX3_remove_4 : decode cX3_remove 4 = .ok (.aload_n 0, 1) := by decide +kernel
theorem dX3_remove_5 : decode cX3_remove 5 = .ok (.iload_n 1, 1) := by decide +kernel
theorem dX3_remove_6 : decode cX3_remove 6 = .ok (.iload_n 2, 1) := by decide +kernel
theorem dX3_remove_7 : decode cX3_remove 7 = .ok (.invokevirtual 55, 3) := by decide +kernel
theorem dX3_remove_10 : decode cX3_remove 10 = .ok (.iadd, 1) := by decide +kernel
theorem dX3_remove_11 : decode cX3_remove 11 = .ok (.istore_n 3, 1) := by decide +kernel
theorem dX3_remove_12 : decode cX3_remove 12 = .ok (.aload_n 0, 1) := by decide +kernel
theorem dX3_remove_13 : decode cX3_remove 13 = .ok (.getfield 16, 3) := by decide +kernel
theorem dX3_remove_16 : decode cX3_remove 16 = .ok (.iload_n 3, 1) := by decide +kernel
theorem dX3_remove_17 : decode cX3_remove 17 = .ok (.iaload, 1) := by decide +kernel
theorem dX3_remove_18 : decode cX3_remove 18 = .ok (.istore 4, 2) := by decide +kernel
theorem dX3_remove_20 : decode cX3_remove 20 = .ok (.bipush 24, 2) := by decide +kernel
theorem dX3_remove_22 : decode cX3_remove 22 = .ok (.iload_n 1, 1) := by decide +kernel
theorem dX3_remove_23 : decode cX3_remove 23 = .ok (.imul, 1) := by decide +kernel
theorem dX3_remove_24 : decode cX3_remove 24 = .ok (.aload_n 0, 1) := by decide +kernel
theorem dX3_remove_25 : decode cX3_remove 25 = .ok (.getfield 9, 3) := by decide +kernel
theorem dX3_remove_28 : decode cX3_remove 28 = .ok (.iload_n 1, 1) := by decide +kernel
theorem dX3_remove_29 : decode cX3_remove 29 = .ok (.iaload, 1) := by decide +kernel
theorem dX3_remove_30 : decode cX3_remove 30 = .ok (.iadd, 1) := by decide +kernel
theorem dX3_remove_31 : decode cX3_remove 31 = .ok (.iload_n 3, 1) := by decide +kernel
theorem dX3_remove_32 : decode cX3_remove 32 = .ok (.isub, 1) := by decide +kernel
theorem dX3_remove_33 : decode cX3_remove 33 = .ok (.iconst 1, 1) := by decide +kernel
theorem dX3_remove_34 : decode cX3_remove 34 = .ok (.isub, 1) := by decide +kernel
theorem dX3_remove_35 : decode cX3_remove 35 = .ok (.istore 5, 2) := by decide +kernel
theorem dX3_remove_37 : decode cX3_remove 37 = .ok (.aload_n 0, 1) := by decide +kernel
theorem dX3_remove_38 : decode cX3_remove 38 = .ok (.getfield 13, 3) := by decide +kernel
theorem dX3_remove_41 : decode cX3_remove 41 = .ok (.iload_n 3, 1) := by decide +kernel
theorem dX3_remove_42 : decode cX3_remove 42 = .ok (.iconst 1, 1) := by decide +kernel
theorem dX3_remove_43 : decode cX3_remove 43 = .ok (.iadd, 1) := by decide +kernel
theorem dX3_remove_44 : decode cX3_remove 44 = .ok (.aload_n 0, 1) := by decide +kernel
theorem dX3_remove_45 : decode cX3_remove 45 = .ok (.getfield 13, 3) := by decide +kernel
theorem dX3_remove_48 : decode cX3_remove 48 = .ok (.iload_n 3, 1) := by decide +kernel
theorem dX3_remove_49 : decode cX3_remove 49 = .ok (.iload 5, 2) := by decide +kernel
theorem dX3_remove_51 : decode cX3_remove 51 = .ok (.invokestatic 59, 3) := by decide +kernel
theorem dX3_remove_54 : decode cX3_remove 54 = .ok (.aload_n 0, 1) := by decide +kernel
theorem dX3_remove_55 : decode cX3_remove 55 = .ok (.getfield 16, 3) := by decide +kernel
theorem dX3_remove_58 : decode cX3_remove 58 = .ok (.iload_n 3, 1) := by decide +kernel
theorem dX3_remove_59 : decode cX3_remove 59 = .ok (.iconst 1, 1) := by decide +kernel
theorem dX3_remove_60 : decode cX3_remove 60 = .ok (.iadd, 1) := by decide +kernel
theorem dX3_remove_61 : decode cX3_remove 61 = .ok (.aload_n 0, 1) := by decide +kernel
theorem dX3_remove_62 : decode cX3_remove 62 = .ok (.getfield 16, 3) := by decide +kernel
theorem dX3_remove_65 : decode cX3_remove 65 = .ok (.iload_n 3, 1) := by decide +kernel
theorem dX3_remove_66 : decode cX3_remove 66 = .ok (.iload 5, 2) := by decide +kernel
theorem dX3_remove_68 : decode cX3_remove 68 = .ok (.invokestatic 59, 3) := by decide +kernel
theorem dX3_remove_71 : decode cX3_remove 71 = .ok (.aload_n 0, 1) := by decide +kernel
theorem dX3_remove_72 : decode cX3_remove 72 = .ok (.getfield 9, 3) := by decide +kernel
theorem dX3_remove_75 : decode cX3_remove 75 = .ok (.iload_n 1, 1) := by decide +kernel
theorem dX3_remove_76 : decode cX3_remove 76 = .ok (.dup2, 1) := by decide +kernel
theorem dX3_remove_77 : decode cX3_remove 77 = .ok (.iaload, 1) := by decide +kernel
theorem dX3_remove_78 : decode cX3_remove 78 = .ok (.iconst 1, 1) := by decide +kernel
theorem dX3_remove_79 : decode cX3_remove 79 = .ok (.isub, 1) := by decide +kernel
theorem dX3_remove_80 : decode cX3_remove 80 = .ok (.iastore, 1) := by decide +kernel
theorem dX3_remove_81 : decode cX3_remove 81 = .ok (.iload 4, 2) := by decide +kernel
theorem dX3_remove_83 : decode cX3_remove 83 = .ok (.ireturn, 1) := by decide +kernel
theorem dX3_common_0 : decode cX3_common 0 = .ok (.iconst 0, 1) := by decide +kernel
theorem dX3_common_1 : decode cX3_common 1 = .ok (.istore_n 1, 1) := by decide +kernel
theorem dX3_common_2 : decode cX3_common 2 = .ok (.iconst 0, 1) := by decide +kernel
theorem dX3_common_3 : decode cX3_common 3 = .ok (.istore_n 2, 1) := by decide +kernel
theorem dX3_common_4 : decode cX3_common 4 = .ok (.iload_n 2, 1) := by decide +kernel
theorem dX3_common_5 : decode cX3_common 5 = .ok (.aload_n 0, 1) := by decide +kernel
theorem dX3_common_6 : decode cX3_common 6 = .ok (.getfield 9, 3) := by decide +kernel
theorem dX3_common_9 : decode cX3_common 9 = .ok (.iconst 0, 1) := by decide +kernel
theorem dX3_common_10 : decode cX3_common 10 = .ok (.iaload, 1) := by decide +kernel
theorem dX3_common_11 : decode cX3_common 11 = .ok (.if_icmp .ge 31, 3) := by decide +kernel
theorem dX3_common_14 : decode cX3_common 14 = .ok (.iload_n 1, 1) := by decide +kernel
theorem dX3_common_15 : decode cX3_common 15 = .ok (.aload_n 0, 1) := by decide +kernel
theorem dX3_common_16 : decode cX3_common 16 = .ok (.iconst 1, 1) := by decide +kernel
theorem dX3_common_17 : decode cX3_common 17 = .ok (.aload_n 0, 1) := by decide +kernel
theorem dX3_common_18 : decode cX3_common 18 = .ok (.getfield 13, 3) := by decide +kernel
theorem dX3_common_21 : decode cX3_common 21 = .ok (.iload_n 2, 1) := by decide +kernel
theorem dX3_common_22 : decode cX3_common 22 = .ok (.iaload, 1) := by decide +kernel
theorem dX3_common_23 : decode cX3_common 23 = .ok (.invokevirtual 65, 3) := by decide +kernel
theorem dX3_common_26 : decode cX3_common 26 = .ok (.ifCond .eq 7, 3) := by decide +kernel
theorem dX3_common_29 : decode cX3_common 29 = .ok (.iconst 1, 1) := by decide +kernel
theorem dX3_common_30 : decode cX3_common 30 = .ok (.goto 4, 3) := by decide +kernel
theorem dX3_common_33 : decode cX3_common 33 = .ok (.iconst 0, 1) := by decide +kernel
theorem dX3_common_34 : decode cX3_common 34 = .ok (.iadd, 1) := by decide +kernel
theorem dX3_common_35 : decode cX3_common 35 = .ok (.istore_n 1, 1) := by decide +kernel
theorem dX3_common_36 : decode cX3_common 36 = .ok (.iinc 2 1, 3) := by decide +kernel
theorem dX3_common_39 : decode cX3_common 39 = .ok (.goto (-35), 3) := by decide +kernel
theorem dX3_common_42 : decode cX3_common 42 = .ok (.iload_n 1, 1) := by decide +kernel
theorem dX3_common_43 : decode cX3_common 43 = .ok (.ireturn, 1) := by decide +kernel
theorem dX3_part_0 : decode cX3_part 0 = .ok (.aload_n 0, 1) := by decide +kernel
theorem dX3_part_1 : decode cX3_part 1 = .ok (.getfield 69, 3) := by decide +kernel
theorem dX3_part_4 : decode cX3_part 4 = .ok (.istore 4, 2) := by decide +kernel
theorem dX3_part_6 : decode cX3_part 6 = .ok (.aload_n 0, 1) := by decide +kernel
theorem dX3_part_7 : decode cX3_part 7 = .ok (.dup, 1) := by decide +kernel
theorem dX3_part_8 : decode cX3_part 8 = .ok (.getfield 69, 3) := by decide +kernel
theorem dX3_part_11 : decode cX3_part 11 = .ok (.iconst 1, 1) := by decide +kernel
theorem dX3_part_12 : decode cX3_part 12 = .ok (.iadd, 1) := by decide +kernel
theorem dX3_part_13 : decode cX3_part 13 = .ok (.putfield 69, 3) := by decide +kernel
theorem dX3_part_16 : decode cX3_part 16 = .ok (.aload_n 0, 1) := by decide +kernel
theorem dX3_part_17 : decode cX3_part 17 = .ok (.getfield 25, 3) := by decide +kernel
theorem dX3_part_20 : decode cX3_part 20 = .ok (.iload 4, 2) := by decide +kernel
theorem dX3_part_22 : decode cX3_part 22 = .ok (.iload_n 1, 1) := by decide +kernel
theorem dX3_part_23 : decode cX3_part 23 = .ok (.iastore, 1) := by decide +kernel
theorem dX3_part_24 : decode cX3_part 24 = .ok (.aload_n 0, 1) := by decide +kernel
theorem dX3_part_25 : decode cX3_part 25 = .ok (.getfield 28, 3) := by decide +kernel
theorem dX3_part_28 : decode cX3_part 28 = .ok (.iload 4, 2) := by decide +kernel
theorem dX3_part_30 : decode cX3_part 30 = .ok (.iload_n 2, 1) := by decide +kernel
theorem dX3_part_31 : decode cX3_part 31 = .ok (.iastore, 1) := by decide +kernel
theorem dX3_part_32 : decode cX3_part 32 = .ok (.aload_n 0, 1) := by decide +kernel
theorem dX3_part_33 : decode cX3_part 33 = .ok (.getfield 37, 3) := by decide +kernel
theorem dX3_part_36 : decode cX3_part 36 = .ok (.iload 4, 2) := by decide +kernel
theorem dX3_part_38 : decode cX3_part 38 = .ok (.iload_n 3, 1) := by decide +kernel
theorem dX3_part_39 : decode cX3_part 39 = .ok (.iastore, 1) := by decide +kernel
theorem dX3_part_40 : decode cX3_part 40 = .ok (.aload_n 0, 1) := by decide +kernel
theorem dX3_part_41 : decode cX3_part 41 = .ok (.getfield 22, 3) := by decide +kernel
theorem dX3_part_44 : decode cX3_part 44 = .ok (.iload 4, 2) := by decide +kernel
theorem dX3_part_46 : decode cX3_part 46 = .ok (.iconst (-1), 1) := by decide +kernel
theorem dX3_part_47 : decode cX3_part 47 = .ok (.iastore, 1) := by decide +kernel
theorem dX3_part_48 : decode cX3_part 48 = .ok (.aload_n 0, 1) := by decide +kernel
theorem dX3_part_49 : decode cX3_part 49 = .ok (.getfield 31, 3) := by decide +kernel
theorem dX3_part_52 : decode cX3_part 52 = .ok (.iload 4, 2) := by decide +kernel
theorem dX3_part_54 : decode cX3_part 54 = .ok (.iconst (-1), 1) := by decide +kernel
theorem dX3_part_55 : decode cX3_part 55 = .ok (.iastore, 1) := by decide +kernel
theorem dX3_part_56 : decode cX3_part 56 = .ok (.aload_n 0, 1) := by decide +kernel
theorem dX3_part_57 : decode cX3_part 57 = .ok (.getfield 34, 3) := by decide +kernel
theorem dX3_part_60 : decode cX3_part 60 = .ok (.iload 4, 2) := by decide +kernel
theorem dX3_part_62 : decode cX3_part 62 = .ok (.iconst (-1), 1) := by decide +kernel
theorem dX3_part_63 : decode cX3_part 63 = .ok (.iastore, 1) := by decide +kernel
theorem dX3_part_64 : decode cX3_part 64 = .ok (.iload_n 2, 1) := by decide +kernel
theorem dX3_part_65 : decode cX3_part 65 = .ok (.iload_n 1, 1) := by decide +kernel
theorem dX3_part_66 : decode cX3_part 66 = .ok (.isub, 1) := by decide +kernel
theorem dX3_part_67 : decode cX3_part 67 = .ok (.iconst 2, 1) := by decide +kernel
theorem dX3_part_68 : decode cX3_part 68 = .ok (.if_icmp .ge 6, 3) := by decide +kernel
theorem dX3_part_71 : decode cX3_part 71 = .ok (.iload 4, 2) := by decide +kernel
theorem dX3_part_73 : decode cX3_part 73 = .ok (.ireturn, 1) := by decide +kernel
theorem dX3_part_74 : decode cX3_part 74 = .ok (.aload_n 0, 1) := by decide +kernel
theorem dX3_part_75 : decode cX3_part 75 = .ok (.getfield 22, 3) := by decide +kernel
theorem dX3_part_78 : decode cX3_part 78 = .ok (.iload 4, 2) := by decide +kernel
theorem dX3_part_80 : decode cX3_part 80 = .ok (.aload_n 0, 1) := by decide +kernel
theorem dX3_part_81 : decode cX3_part 81 = .ok (.getfield 19, 3) := by decide +kernel
theorem dX3_part_84 : decode cX3_part 84 = .ok (.iload_n 1, 1) := by decide +kernel
theorem dX3_part_85 : decode cX3_part 85 = .ok (.iaload, 1) := by decide +kernel
theorem dX3_part_86 : decode cX3_part 86 = .ok (.aload_n 0, 1) := by decide +kernel
theorem dX3_part_87 : decode cX3_part 87 = .ok (.getfield 19, 3) := by decide +kernel
theorem dX3_part_90 : decode cX3_part 90 = .ok (.iload_n 2, 1) := by decide +kernel
theorem dX3_part_91 : decode cX3_part 91 = .ok (.iconst 1, 1) := by decide +kernel
theorem dX3_part_92 : decode cX3_part 92 = .ok (.isub, 1) := by decide +kernel
theorem dX3_part_93 : decode cX3_part 93 = .ok (.iaload, 1) := by decide +kernel
theorem dX3_part_94 : decode cX3_part 94 = .ok (.ixor, 1) := by decide +kernel
theorem dX3_part_95 : decode cX3_part 95 = .ok (.invokestatic 72, 3) := by decide +kernel
theorem dX3_part_98 : decode cX3_part 98 = .ok (.iastore, 1) := by decide +kernel
theorem dX3_part_99 : decode cX3_part 99 = .ok (.iload_n 1, 1) := by decide +kernel
theorem dX3_part_100 : decode cX3_part 100 = .ok (.istore 5, 2) := by decide +kernel
theorem dX3_part_102 : decode cX3_part 102 = .ok (.aload_n 0, 1) := by decide +kernel
theorem dX3_part_103 : decode cX3_part 103 = .ok (.getfield 19, 3) := by decide +kernel
theorem dX3_part_106 : decode cX3_part 106 = .ok (.iload 5, 2) := by decide +kernel
theorem dX3_part_108 : decode cX3_part 108 = .ok (.iaload, 1) := by decide +kernel
theorem dX3_part_109 : decode cX3_part 109 = .ok (.aload_n 0, 1) := by decide +kernel
theorem dX3_part_110 : decode cX3_part 110 = .ok (.getfield 22, 3) := by decide +kernel
theorem dX3_part_113 : decode cX3_part 113 = .ok (.iload 4, 2) := by decide +kernel
theorem dX3_part_115 : decode cX3_part 115 = .ok (.iaload, 1) := by decide +kernel
theorem dX3_part_116 : decode cX3_part 116 = .ok (.ishr, 1) := by decide +kernel
theorem dX3_part_117 : decode cX3_part 117 = .ok (.iconst 1, 1) := by decide +kernel
theorem dX3_part_118 : decode cX3_part 118 = .ok (.iand, 1) := by decide +kernel
theorem dX3_part_119 : decode cX3_part 119 = .ok (.ifCond .ne 9, 3) := by decide +kernel
theorem dX3_part_122 : decode cX3_part 122 = .ok (.iinc 5 1, 3) := by decide +kernel
theorem dX3_part_125 : decode cX3_part 125 = .ok (.goto (-23), 3) := by decide +kernel
theorem dX3_part_128 : decode cX3_part 128 = .ok (.aload_n 0, 1) := by decide +kernel
theorem dX3_part_129 : decode cX3_part 129 = .ok (.getfield 31, 3) := by decide +kernel
theorem dX3_part_132 : decode cX3_part 132 = .ok (.iload 4, 2) := by decide +kernel
theorem dX3_part_134 : decode cX3_part 134 = .ok (.aload_n 0, 1) := by decide +kernel
theorem dX3_part_135 : decode cX3_part 135 = .ok (.iload_n 1, 1) := by decide +kernel
theorem dX3_part_136 : decode cX3_part 136 = .ok (.iload 5, 2) := by decide +kernel
theorem dX3_part_138 : decode cX3_part 138 = .ok (.iload_n 3, 1) := by decide +kernel
theorem dX3_part_139 : decode cX3_part 139 = .ok (.iconst 1, 1) := by decide +kernel
theorem dX3_part_140 : decode cX3_part 140 = .ok (.iadd, 1) := by decide +kernel
theorem dX3_part_141 : decode cX3_part 141 = .ok (.invokevirtual 75, 3) := by decide +kernel
theorem dX3_part_144 : decode cX3_part 144 = .ok (.iastore, 1) := by decide +kernel
theorem dX3_part_145 : decode cX3_part 145 = .ok (.aload_n 0, 1) := by decide +kernel
theorem dX3_part_146 : decode cX3_part 146 = .ok (.getfield 34, 3) := by decide +kernel
theorem dX3_part_149 : decode cX3_part 149 = .ok (.iload 4, 2) := by decide +kernel
theorem dX3_part_151 : decode cX3_part 151 = .ok (.aload_n 0, 1) := by decide +kernel
theorem dX3_part_152 : decode cX3_part 152 = .ok (.iload 5, 2) := by decide +kernel
theorem dX3_part_154 : decode cX3_part 154 = .ok (.iload_n 2, 1) := by decide +kernel
theorem dX3_part_155 : decode cX3_part 155 = .ok (.iload_n 3, 1) := by decide +kernel
theorem dX3_part_156 : decode cX3_part 156 = .ok (.iconst 1, 1) := by decide +kernel
theorem dX3_part_157 : decode cX3_part 157 = .ok (.iadd, 1) := by decide +kernel
theorem dX3_part_158 : decode cX3_part 158 = .ok (.invokevirtual 75, 3) := by decide +kernel
theorem dX3_part_161 : decode cX3_part 161 = .ok (.iastore, 1) := by decide +kernel
theorem dX3_part_162 : decode cX3_part 162 = .ok (.iload 4, 2) := by decide +kernel
theorem dX3_part_164 : decode cX3_part 164 = .ok (.ireturn, 1) := by decide +kernel
theorem dX3_makeSigns_0 : decode cX3_makeSigns 0 = .ok (.aload_n 0, 1) := by decide +kernel
theorem dX3_makeSigns_1 : decode cX3_makeSigns 1 = .ok (.iconst 0, 1) := by decide +kernel
theorem dX3_makeSigns_2 : decode cX3_makeSigns 2 = .ok (.putfield 69, 3) := by decide +kernel
theorem dX3_makeSigns_5 : decode cX3_makeSigns 5 = .ok (.aload_n 0, 1) := by decide +kernel
theorem dX3_makeSigns_6 : decode cX3_makeSigns 6 = .ok (.getfield 79, 3) := by decide +kernel
theorem dX3_makeSigns_9 : decode cX3_makeSigns 9 = .ok (.ifCond .le 14, 3) := by decide +kernel
theorem dX3_makeSigns_12 : decode cX3_makeSigns 12 = .ok (.aload_n 0, 1) := by decide +kernel
theorem dX3_makeSigns_13 : decode cX3_makeSigns 13 = .ok (.iconst 0, 1) := by decide +kernel
theorem dX3_makeSigns_14 : decode cX3_makeSigns 14 = .ok (.aload_n 0, 1) := by decide +kernel
theorem dX3_makeSigns_15 : decode cX3_makeSigns 15 = .ok (.getfield 79, 3) := by decide +kernel
theorem dX3_makeSigns_18 : decode cX3_makeSigns 18 = .ok (.iconst 0, 1) := by decide +kernel
theorem dX3_makeSigns_19 : decode cX3_makeSigns 19 = .ok (.invokevirtual 75, 3) := by decide +kernel
theorem dX3_makeSigns_22 : decode cX3_makeSigns 22 = .ok (.pop, 1) := by decide +kernel
theorem dX3_makeSigns_23 : decode cX3_makeSigns 23 = .ok (.return_, 1) := by decide +kernel
theorem dX3_look_0 : decode cX3_look 0 = .ok (.aload_n 0, 1) := by decide +kernel
theorem dX3_look_1 : decode cX3_look 1 = .ok (.aload_n 0, 1) := by decide +kernel
theorem dX3_look_2 : decode cX3_look 2 = .ok (.getfield 9, 3) := by decide +kernel
theorem dX3_look_5 : decode cX3_look 5 = .ok (.iload_n 1, 1) := by decide +kernel
theorem dX3_look_6 : decode cX3_look 6 = .ok (.iaload, 1) := by decide +kernel
theorem dX3_look_7 : decode cX3_look 7 = .ok (.putfield 79, 3) := by decide +kernel
theorem dX3_look_10 : decode cX3_look 10 = .ok (.aload_n 0, 1) := by decide +kernel
theorem dX3_look_11 : decode cX3_look 11 = .ok (.getfield 13, 3) := by decide +kernel
theorem dX3_look_14 : decode cX3_look 14 = .ok (.bipush 24, 2) := by decide +kernel
theorem dX3_look_16 : decode cX3_look 16 = .ok (.iload_n 1, 1) := by decide +kernel
theorem dX3_look_17 : decode cX3_look 17 = .ok (.imul, 1) := by decide +kernel
theorem dX3_look_18 : decode cX3_look 18 = .ok (.aload_n 0, 1) := by decide +kernel
theorem dX3_look_19 : decode cX3_look 19 = .ok (.getfield 19, 3) := by decide +kernel
theorem dX3_look_22 : decode cX3_look 22 = .ok (.iconst 0, 1) := by decide +kernel
theorem dX3_look_23 : decode cX3_look 23 = .ok (.aload_n 0, 1) := by decide +kernel
theorem dX3_look_24 : decode cX3_look 24 = .ok (.getfield 79, 3) := by decide +kernel
theorem dX3_look_27 : decode cX3_look 27 = .ok (.invokestatic 59, 3) := by decide +kernel
theorem dX3_look_30 : decode cX3_look 30 = .ok (.aload_n 0, 1) := by decide +kernel
theorem dX3_look_31 : decode cX3_look 31 = .ok (.invokevirtual 82, 3) := by decide +kernel
theorem dX3_look_34 : decode cX3_look 34 = .ok (.return_, 1) := by decide +kernel
theorem dX3_lookWithout_0 : decode cX3_lookWithout 0 = .ok (.aload_n 0, 1) := by decide +kernel
theorem dX3_lookWithout_1 : decode cX3_lookWithout 1 = .ok (.aload_n 0, 1) := by decide +kernel
theorem dX3_lookWithout_2 : decode cX3_lookWithout 2 = .ok (.getfield 9, 3) := by decide +kernel
theorem dX3_lookWithout_5 : decode cX3_lookWithout 5 = .ok (.iload_n 1, 1) := by decide +kernel
theorem dX3_lookWithout_6 : decode cX3_lookWithout 6 = .ok (.iaload, 1) := by decide +kernel
theorem dX3_lookWithout_7 : decode cX3_lookWithout 7 = .ok (.iconst 1, 1) := by decide +kernel
theorem dX3_lookWithout_8 : decode cX3_lookWithout 8 = .ok (.isub, 1) := by decide +kernel
theorem dX3_lookWithout_9 : decode cX3_lookWithout 9 = .ok (.putfield 79, 3) := by decide +kernel
theorem dX3_lookWithout_12 : decode cX3_lookWithout 12 = .ok (.aload_n 0, 1) := by decide +kernel
theorem dX3_lookWithout_13 : decode cX3_lookWithout 13 = .ok (.getfield 13, 3) := by decide +kernel
theorem dX3_lookWithout_16 : decode cX3_lookWithout 16 = .ok (.bipush 24, 2) := by decide +kernel
theorem dX3_lookWithout_18 : decode cX3_lookWithout 18 = .ok (.iload_n 1, 1) := by decide +kernel
theorem dX3_lookWithout_19 : decode cX3_lookWithout 19 = .ok (.imul, 1) := by decide +kernel
theorem dX3_lookWithout_20 : decode cX3_lookWithout 20 = .ok (.aload_n 0, 1) := by decide +kernel
theorem dX3_lookWithout_21 : decode cX3_lookWithout 21 = .ok (.getfield 19, 3) := by decide +kernel
theorem dX3_lookWithout_24 : decode cX3_lookWithout 24 = .ok (.iconst 0, 1) := by decide +kernel
theorem dX3_lookWithout_25 : decode cX3_lookWithout 25 = .ok (.iload_n 2, 1) := by decide +kernel
theorem dX3_lookWithout_26 : decode cX3_lookWithout 26 = .ok (.invokestatic 59, 3) := by decide +kernel
theorem dX3_lookWithout_29 : decode cX3_lookWithout 29 = .ok (.aload_n 0, 1) := by decide +kernel
theorem dX3_lookWithout_30 : decode cX3_lookWithout 30 = .ok (.getfield 13, 3) := by decide +kernel
theorem dX3_lookWithout_33 : decode cX3_lookWithout 33 = .ok (.bipush 24, 2) := by decide +kernel
theorem dX3_lookWithout_35 : decode cX3_lookWithout 35 = .ok (.iload_n 1, 1) := by decide +kernel
theorem dX3_lookWithout_36 : decode cX3_lookWithout 36 = .ok (.imul, 1) := by decide +kernel
theorem dX3_lookWithout_37 : decode cX3_lookWithout 37 = .ok (.iload_n 2, 1) := by decide +kernel
theorem dX3_lookWithout_38 : decode cX3_lookWithout 38 = .ok (.iadd, 1) := by decide +kernel
theorem dX3_lookWithout_39 : decode cX3_lookWithout 39 = .ok (.iconst 1, 1) := by decide +kernel
theorem dX3_lookWithout_40 : decode cX3_lookWithout 40 = .ok (.iadd, 1) := by decide +kernel
theorem dX3_lookWithout_41 : decode cX3_lookWithout 41 = .ok (.aload_n 0, 1) := by decide +kernel
theorem dX3_lookWithout_42 : decode cX3_lookWithout 42 = .ok (.getfield 19, 3) := by decide +kernel
theorem dX3_lookWithout_45 : decode cX3_lookWithout 45 = .ok (.iload_n 2, 1) := by decide +kernel
theorem dX3_lookWithout_46 : decode cX3_lookWithout 46 = .ok (.aload_n 0, 1) := by decide +kernel
theorem dX3_lookWithout_47 : decode cX3_lookWithout 47 = .ok (.getfield 79, 3) := by decide +kernel
theorem dX3_lookWithout_50 : decode cX3_lookWithout 50 = .ok (.iload_n 2, 1) := by decide +kernel
theorem dX3_lookWithout_51 : decode cX3_lookWithout 51 = .ok (.isub, 1) := by decide +kernel
theorem dX3_lookWithout_52 : decode cX3_lookWithout 52 = .ok (.invokestatic 59, 3) := by decide +kernel
theorem dX3_lookWithout_55 : decode cX3_lookWithout 55 = .ok (.aload_n 0, 1) := by decide +kernel
theorem dX3_lookWithout_56 : decode cX3_lookWithout 56 = .ok (.invokevirtual 82, 3) := by decide +kernel
theorem dX3_lookWithout_59 : decode cX3_lookWithout 59 = .ok (.return_, 1) := by decide +kernel
theorem dX3_lookAtBoth_0 : decode cX3_lookAtBoth 0 = .ok (.aload_n 0, 1) := by decide +kernel
theorem dX3_lookAtBoth_1 : decode cX3_lookAtBoth 1 = .ok (.iconst 0, 1) := by decide +kernel
theorem dX3_lookAtBoth_2 : decode cX3_lookAtBoth 2 = .ok (.putfield 79, 3) := by decide +kernel
theorem dX3_lookAtBoth_5 : decode cX3_lookAtBoth 5 = .ok (.iconst 0, 1) := by decide +kernel
theorem dX3_lookAtBoth_6 : decode cX3_lookAtBoth 6 = .ok (.istore_n 1, 1) := by decide +kernel
theorem dX3_lookAtBoth_7 : decode cX3_lookAtBoth 7 = .ok (.iconst 0, 1) := by decide +kernel
theorem dX3_lookAtBoth_8 : decode cX3_lookAtBoth 8 = .ok (.istore_n 2, 1) := by decide +kernel
theorem dX3_lookAtBoth_9 : decode cX3_lookAtBoth 9 = .ok (.iload_n 1, 1) := by decide +kernel
theorem dX3_lookAtBoth_10 : decode cX3_lookAtBoth 10 = .ok (.aload_n 0, 1) := by decide +kernel
theorem dX3_lookAtBoth_11 : decode cX3_lookAtBoth 11 = .ok (.getfield 9, 3) := by decide +kernel
theorem dX3_lookAtBoth_14 : decode cX3_lookAtBoth 14 = .ok (.iconst 0, 1) := by decide +kernel
theorem dX3_lookAtBoth_15 : decode cX3_lookAtBoth 15 = .ok (.iaload, 1) := by decide +kernel
theorem dX3_lookAtBoth_16 : decode cX3_lookAtBoth 16 = .ok (.if_icmp .lt 13, 3) := by decide +kernel
theorem dX3_lookAtBoth_19 : decode cX3_lookAtBoth 19 = .ok (.iload_n 2, 1) := by decide +kernel
theorem dX3_lookAtBoth_20 : decode cX3_lookAtBoth 20 = .ok (.aload_n 0, 1) := by decide +kernel
theorem dX3_lookAtBoth_21 : decode cX3_lookAtBoth 21 = .ok (.getfield 9, 3) := by decide +kernel
theorem dX3_lookAtBoth_24 : decode cX3_lookAtBoth 24 = .ok (.iconst 1, 1) := by decide +kernel
theorem dX3_lookAtBoth_25 : decode cX3_lookAtBoth 25 = .ok (.iaload, 1) := by decide +kernel
theorem dX3_lookAtBoth_26 : decode cX3_lookAtBoth 26 = .ok (.if_icmp .ge 107, 3) := by decide +kernel
theorem dX3_lookAtBoth_29 : decode cX3_lookAtBoth 29 = .ok (.iload_n 1, 1) := by decide +kernel
theorem dX3_lookAtBoth_30 : decode cX3_lookAtBoth 30 = .ok (.aload_n 0, 1) := by decide +kernel
theorem dX3_lookAtBoth_31 : decode cX3_lookAtBoth 31 = .ok (.getfield 9, 3) := by decide +kernel
theorem dX3_lookAtBoth_34 : decode cX3_lookAtBoth 34 = .ok (.iconst 0, 1) := by decide +kernel
theorem dX3_lookAtBoth_35 : decode cX3_lookAtBoth 35 = .ok (.iaload, 1) := by decide +kernel
theorem dX3_lookAtBoth_36 : decode cX3_lookAtBoth 36 = .ok (.if_icmp .ge 12, 3) := by decide +kernel
theorem dX3_lookAtBoth_39 : decode cX3_lookAtBoth 39 = .ok (.aload_n 0, 1) := by decide +kernel
theorem dX3_lookAtBoth_40 : decode cX3_lookAtBoth 40 = .ok (.getfield 13, 3) := by decide +kernel
theorem dX3_lookAtBoth_43 : decode cX3_lookAtBoth 43 = .ok (.iload_n 1, 1) := by decide +kernel
theorem dX3_lookAtBoth_44 : decode cX3_lookAtBoth 44 = .ok (.iaload, 1) := by decide +kernel
theorem dX3_lookAtBoth_45 : decode cX3_lookAtBoth 45 = .ok (.goto 5, 3) := by decide +kernel
theorem dX3_lookAtBoth_48 : decode cX3_lookAtBoth 48 = .ok (.ldc 85, 2) := by decide +kernel
theorem dX3_lookAtBoth_50 : decode cX3_lookAtBoth 50 = .ok (.istore_n 3, 1) := by decide +kernel
theorem dX3_lookAtBoth_51 : decode cX3_lookAtBoth 51 = .ok (.iload_n 2, 1) := by decide +kernel
theorem dX3_lookAtBoth_52 : decode cX3_lookAtBoth 52 = .ok (.aload_n 0, 1) := by decide +kernel
theorem dX3_lookAtBoth_53 : decode cX3_lookAtBoth 53 = .ok (.getfield 9, 3) := by decide +kernel
theorem dX3_lookAtBoth_56 : decode cX3_lookAtBoth 56 = .ok (.iconst 1, 1) := by decide +kernel
theorem dX3_lookAtBoth_57 : decode cX3_lookAtBoth 57 = .ok (.iaload, 1) := by decide +kernel
theorem dX3_lookAtBoth_58 : decode cX3_lookAtBoth 58 = .ok (.if_icmp .ge 15, 3) := by decide +kernel
theorem dX3_lookAtBoth_61 : decode cX3_lookAtBoth 61 = .ok (.aload_n 0, 1) := by decide +kernel
theorem dX3_lookAtBoth_62 : decode cX3_lookAtBoth 62 = .ok (.getfield 13, 3) := by decide +kernel
theorem dX3_lookAtBoth_65 : decode cX3_lookAtBoth 65 = .ok (.bipush 24, 2) := by decide +kernel
theorem dX3_lookAtBoth_67 : decode cX3_lookAtBoth 67 = .ok (.iload_n 2, 1) := by decide +kernel
theorem dX3_lookAtBoth_68 : decode cX3_lookAtBoth 68 = .ok (.iadd, 1) := by decide +kernel
theorem dX3_lookAtBoth_69 : decode cX3_lookAtBoth 69 = .ok (.iaload, 1) := by decide +kernel
theorem dX3_lookAtBoth_70 : decode cX3_lookAtBoth 70 = .ok (.goto 5, 3) := by decide +kernel
theorem dX3_lookAtBoth_73 : decode cX3_lookAtBoth 73 = .ok (.ldc 85, 2) := by decide +kernel
theorem dX3_lookAtBoth_75 : decode cX3_lookAtBoth 75 = .ok (.istore 4, 2) := by decide +kernel
theorem dX3_lookAtBoth_77 : decode cX3_lookAtBoth 77 = .ok (.aload_n 0, 1) := by decide +kernel
theorem dX3_lookAtBoth_78 : decode cX3_lookAtBoth 78 = .ok (.getfield 19, 3) := by decide +kernel
theorem dX3_lookAtBoth_81 : decode cX3_lookAtBoth 81 = .ok (.aload_n 0, 1) := by decide +kernel
theorem dX3_lookAtBoth_82 : decode cX3_lookAtBoth 82 = .ok (.getfield 79, 3) := by decide +kernel
theorem dX3_lookAtBoth_85 : decode cX3_lookAtBoth 85 = .ok (.iload_n 3, 1) := by decide +kernel
theorem dX3_lookAtBoth_86 : decode cX3_lookAtBoth 86 = .ok (.iload 4, 2) := by decide +kernel
theorem dX3_lookAtBoth_88 : decode cX3_lookAtBoth 88 = .ok (.invokestatic 86, 3) := by decide +kernel
theorem dX3_lookAtBoth_91 : decode cX3_lookAtBoth 91 = .ok (.iastore, 1) := by decide +kernel
theorem dX3_lookAtBoth_92 : decode cX3_lookAtBoth 92 = .ok (.aload_n 0, 1) := by decide +kernel
theorem dX3_lookAtBoth_93 : decode cX3_lookAtBoth 93 = .ok (.dup, 1) := by decide +kernel
theorem dX3_lookAtBoth_94 : decode cX3_lookAtBoth 94 = .ok (.getfield 79, 3) := by decide +kernel
theorem dX3_lookAtBoth_97 : decode cX3_lookAtBoth 97 = .ok (.iconst 1, 1) := by decide +kernel
theorem dX3_lookAtBoth_98 : decode cX3_lookAtBoth 98 = .ok (.iadd, 1) := by decide +kernel
theorem dX3_lookAtBoth_99 : decode cX3_lookAtBoth 99 = .ok (.putfield 79, 3) := by decide +kernel
theorem dX3_lookAtBoth_102 : decode cX3_lookAtBoth 102 = .ok (.iload_n 1, 1) := by decide +kernel
theorem dX3_lookAtBoth_103 : decode cX3_lookAtBoth 103 = .ok (.iload_n 3, 1) := by decide +kernel
theorem dX3_lookAtBoth_104 : decode cX3_lookAtBoth 104 = .ok (.iload 4, 2) := by decide +kernel
theorem dX3_lookAtBoth_106 : decode cX3_lookAtBoth 106 = .ok (.if_icmp .gt 7, 3) := by decide +kernel
theorem dX3_lookAtBoth_109 : decode cX3_lookAtBoth 109 = .ok (.iconst 1, 1) := by decide +kernel
theorem dX3_lookAtBoth_110 : decode cX3_lookAtBoth 110 = .ok (.goto 4, 3) := by decide +kernel
theorem dX3_lookAtBoth_113 : decode cX3_lookAtBoth 113 = .ok (.iconst 0, 1) := by decide +kernel
theorem dX3_lookAtBoth_114 : decode cX3_lookAtBoth 114 = .ok (.iadd, 1) := by decide +kernel
theorem dX3_lookAtBoth_115 : decode cX3_lookAtBoth 115 = .ok (.istore_n 1, 1) := by decide +kernel
theorem dX3_lookAtBoth_116 : decode cX3_lookAtBoth 116 = .ok (.iload_n 2, 1) := by decide +kernel
theorem dX3_lookAtBoth_117 : decode cX3_lookAtBoth 117 = .ok (.iload 4, 2) := by decide +kernel
theorem dX3_lookAtBoth_119 : decode cX3_lookAtBoth 119 = .ok (.iload_n 3, 1) := by decide +kernel
theorem dX3_lookAtBoth_120 : decode cX3_lookAtBoth 120 = .ok (.if_icmp .gt 7, 3) := by decide +kernel
theorem dX3_lookAtBoth_123 : decode cX3_lookAtBoth 123 = .ok (.iconst 1, 1) := by decide +kernel
theorem dX3_lookAtBoth_124 : decode cX3_lookAtBoth 124 = .ok (.goto 4, 3) := by decide +kernel
theorem dX3_lookAtBoth_127 : decode cX3_lookAtBoth 127 = .ok (.iconst 0, 1) := by decide +kernel
theorem dX3_lookAtBoth_128 : decode cX3_lookAtBoth 128 = .ok (.iadd, 1) := by decide +kernel
theorem dX3_lookAtBoth_129 : decode cX3_lookAtBoth 129 = .ok (.istore_n 2, 1) := by decide +kernel
theorem dX3_lookAtBoth_130 : decode cX3_lookAtBoth 130 = .ok (.goto (-121), 3) := by decide +kernel
theorem dX3_lookAtBoth_133 : decode cX3_lookAtBoth 133 = .ok (.aload_n 0, 1) := by decide +kernel
theorem dX3_lookAtBoth_134 : decode cX3_lookAtBoth 134 = .ok (.invokevirtual 82, 3) := by decide +kernel
theorem dX3_lookAtBoth_137 : decode cX3_lookAtBoth 137 = .ok (.return_, 1) := by decide +kernel
theorem dX3_longest_0 : decode cX3_longest 0 = .ok (.iconst 0, 1) := by decide +kernel
theorem dX3_longest_1 : decode cX3_longest 1 = .ok (.istore_n 1, 1) := by decide +kernel
theorem dX3_longest_2 : decode cX3_longest 2 = .ok (.iconst 0, 1) := by decide +kernel
theorem dX3_longest_3 : decode cX3_longest 3 = .ok (.istore_n 2, 1) := by decide +kernel
theorem dX3_longest_4 : decode cX3_longest 4 = .ok (.iload_n 2, 1) := by decide +kernel
theorem dX3_longest_5 : decode cX3_longest 5 = .ok (.aload_n 0, 1) := by decide +kernel
theorem dX3_longest_6 : decode cX3_longest 6 = .ok (.getfield 69, 3) := by decide +kernel
theorem dX3_longest_9 : decode cX3_longest 9 = .ok (.if_icmp .ge 20, 3) := by decide +kernel
theorem dX3_longest_12 : decode cX3_longest 12 = .ok (.iload_n 1, 1) := by decide +kernel
theorem dX3_longest_13 : decode cX3_longest 13 = .ok (.aload_n 0, 1) := by decide +kernel
theorem dX3_longest_14 : decode cX3_longest 14 = .ok (.getfield 37, 3) := by decide +kernel
theorem dX3_longest_17 : decode cX3_longest 17 = .ok (.iload_n 2, 1) := by decide +kernel
theorem dX3_longest_18 : decode cX3_longest 18 = .ok (.iaload, 1) := by decide +kernel
theorem dX3_longest_19 : decode cX3_longest 19 = .ok (.invokestatic 91, 3) := by decide +kernel
theorem dX3_longest_22 : decode cX3_longest 22 = .ok (.istore_n 1, 1) := by decide +kernel
theorem dX3_longest_23 : decode cX3_longest 23 = .ok (.iinc 2 1, 3) := by decide +kernel
theorem dX3_longest_26 : decode cX3_longest 26 = .ok (.goto (-22), 3) := by decide +kernel
theorem dX3_longest_29 : decode cX3_longest 29 = .ok (.iload_n 1, 1) := by decide +kernel
theorem dX3_longest_30 : decode cX3_longest 30 = .ok (.ireturn, 1) := by decide +kernel
theorem dX3_allPaths_0 : decode cX3_allPaths 0 = .ok (.iconst 0, 1) := by decide +kernel
theorem dX3_allPaths_1 : decode cX3_allPaths 1 = .ok (.istore_n 1, 1) := by decide +kernel
theorem dX3_allPaths_2 : decode cX3_allPaths 2 = .ok (.iconst 0, 1) := by decide +kernel
theorem dX3_allPaths_3 : decode cX3_allPaths 3 = .ok (.istore_n 2, 1) := by decide +kernel
theorem dX3_allPaths_4 : decode cX3_allPaths 4 = .ok (.iload_n 2, 1) := by decide +kernel
theorem dX3_allPaths_5 : decode cX3_allPaths 5 = .ok (.aload_n 0, 1) := by decide +kernel
theorem dX3_allPaths_6 : decode cX3_allPaths 6 = .ok (.getfield 69, 3) := by decide +kernel
theorem dX3_allPaths_9 : decode cX3_allPaths 9 = .ok (.if_icmp .ge 32, 3) := by decide +kernel
theorem dX3_allPaths_12 : decode cX3_allPaths 12 = .ok (.iload_n 1, 1) := by decide +kernel
theorem dX3_allPaths_13 : decode cX3_allPaths 13 = .ok (.aload_n 0, 1) := by decide +kernel
theorem dX3_allPaths_14 : decode cX3_allPaths 14 = .ok (.getfield 22, 3) := by decide +kernel
theorem dX3_allPaths_17 : decode cX3_allPaths 17 = .ok (.iload_n 2, 1) := by decide +kernel
theorem dX3_allPaths_18 : decode cX3_allPaths 18 = .ok (.iaload, 1) := by decide +kernel
theorem dX3_allPaths_19 : decode cX3_allPaths 19 = .ok (.iconst (-1), 1) := by decide +kernel
theorem dX3_allPaths_20 : decode cX3_allPaths 20 = .ok (.if_icmp .ne 12, 3) := by decide +kernel
theorem dX3_allPaths_23 : decode cX3_allPaths 23 = .ok (.aload_n 0, 1) := by decide +kernel
theorem dX3_allPaths_24 : decode cX3_allPaths 24 = .ok (.getfield 37, 3) := by decide +kernel
theorem dX3_allPaths_27 : decode cX3_allPaths 27 = .ok (.iload_n 2, 1) := by decide +kernel
theorem dX3_allPaths_28 : decode cX3_allPaths 28 = .ok (.iaload, 1) := by decide +kernel
theorem dX3_allPaths_29 : decode cX3_allPaths 29 = .ok (.goto 4, 3) := by decide +kernel
theorem dX3_allPaths_32 : decode cX3_allPaths 32 = .ok (.iconst 0, 1) := by decide +kernel
theorem dX3_allPaths_33 : decode cX3_allPaths 33 = .ok (.iadd, 1) := by decide +kernel
theorem dX3_allPaths_34 : decode cX3_allPaths 34 = .ok (.istore_n 1, 1) := by decide +kernel
theorem dX3_allPaths_35 : decode cX3_allPaths 35 = .ok (.iinc 2 1, 3) := by decide +kernel
theorem dX3_allPaths_38 : decode cX3_allPaths 38 = .ok (.goto (-34), 3) := by decide +kernel
theorem dX3_allPaths_41 : decode cX3_allPaths 41 = .ok (.iload_n 1, 1) := by decide +kernel
theorem dX3_allPaths_42 : decode cX3_allPaths 42 = .ok (.ireturn, 1) := by decide +kernel
theorem dX3_shared_0 : decode cX3_shared 0 = .ok (.iload_n 0, 1) := by decide +kernel
theorem dX3_shared_1 : decode cX3_shared 1 = .ok (.iload_n 1, 1) := by decide +kernel
theorem dX3_shared_2 : decode cX3_shared 2 = .ok (.if_icmp .ne 8, 3) := by decide +kernel
theorem dX3_shared_5 : decode cX3_shared 5 = .ok (.bipush 16, 2) := by decide +kernel
theorem dX3_shared_7 : decode cX3_shared 7 = .ok (.goto 12, 3) := by decide +kernel
theorem dX3_shared_10 : decode cX3_shared 10 = .ok (.bipush 15, 2) := by decide +kernel
theorem dX3_shared_12 : decode cX3_shared 12 = .ok (.iload_n 0, 1) := by decide +kernel
theorem dX3_shared_13 : decode cX3_shared 13 = .ok (.iload_n 1, 1) := by decide +kernel
theorem dX3_shared_14 : decode cX3_shared 14 = .ok (.ixor, 1) := by decide +kernel
theorem dX3_shared_15 : decode cX3_shared 15 = .ok (.invokestatic 72, 3) := by decide +kernel
theorem dX3_shared_18 : decode cX3_shared 18 = .ok (.isub, 1) := by decide +kernel
theorem dX3_shared_19 : decode cX3_shared 19 = .ok (.ireturn, 1) := by decide +kernel
theorem dX3_bitsOfPosts_0 : decode cX3_bitsOfPosts 0 = .ok (.iconst 0, 1) := by decide +kernel
theorem dX3_bitsOfPosts_1 : decode cX3_bitsOfPosts 1 = .ok (.istore_n 1, 1) := by decide +kernel
theorem dX3_bitsOfPosts_2 : decode cX3_bitsOfPosts 2 = .ok (.iconst 0, 1) := by decide +kernel
theorem dX3_bitsOfPosts_3 : decode cX3_bitsOfPosts 3 = .ok (.istore_n 2, 1) := by decide +kernel
theorem dX3_bitsOfPosts_4 : decode cX3_bitsOfPosts 4 = .ok (.iload_n 2, 1) := by decide +kernel
theorem dX3_bitsOfPosts_5 : decode cX3_bitsOfPosts 5 = .ok (.aload_n 0, 1) := by decide +kernel
theorem dX3_bitsOfPosts_6 : decode cX3_bitsOfPosts 6 = .ok (.getfield 69, 3) := by decide +kernel
theorem dX3_bitsOfPosts_9 : decode cX3_bitsOfPosts 9 = .ok (.if_icmp .ge 34, 3) := by decide +kernel
theorem dX3_bitsOfPosts_12 : decode cX3_bitsOfPosts 12 = .ok (.iload_n 1, 1) := by decide +kernel
theorem dX3_bitsOfPosts_13 : decode cX3_bitsOfPosts 13 = .ok (.aload_n 0, 1) := by decide +kernel
theorem dX3_bitsOfPosts_14 : decode cX3_bitsOfPosts 14 = .ok (.getfield 22, 3) := by decide +kernel
theorem dX3_bitsOfPosts_17 : decode cX3_bitsOfPosts 17 = .ok (.iload_n 2, 1) := by decide +kernel
theorem dX3_bitsOfPosts_18 : decode cX3_bitsOfPosts 18 = .ok (.iaload, 1) := by decide +kernel
theorem dX3_bitsOfPosts_19 : decode cX3_bitsOfPosts 19 = .ok (.iconst (-1), 1) := by decide +kernel
theorem dX3_bitsOfPosts_20 : decode cX3_bitsOfPosts 20 = .ok (.if_icmp .ne 7, 3) := by decide +kernel
theorem dX3_bitsOfPosts_23 : decode cX3_bitsOfPosts 23 = .ok (.iconst 0, 1) := by decide +kernel
theorem dX3_bitsOfPosts_24 : decode cX3_bitsOfPosts 24 = .ok (.goto 11, 3) := by decide +kernel
theorem dX3_bitsOfPosts_27 : decode cX3_bitsOfPosts 27 = .ok (.iconst 1, 1) := by decide +kernel
theorem dX3_bitsOfPosts_28 : decode cX3_bitsOfPosts 28 = .ok (.aload_n 0, 1) := by decide +kernel
theorem dX3_bitsOfPosts_29 : decode cX3_bitsOfPosts 29 = .ok (.getfield 22, 3) := by decide +kernel
theorem dX3_bitsOfPosts_32 : decode cX3_bitsOfPosts 32 = .ok (.iload_n 2, 1) := by decide +kernel
theorem dX3_bitsOfPosts_33 : decode cX3_bitsOfPosts 33 = .ok (.iaload, 1) := by decide +kernel
theorem dX3_bitsOfPosts_34 : decode cX3_bitsOfPosts 34 = .ok (.ishl, 1) := by decide +kernel
theorem dX3_bitsOfPosts_35 : decode cX3_bitsOfPosts 35 = .ok (.ior, 1) := by decide +kernel
theorem dX3_bitsOfPosts_36 : decode cX3_bitsOfPosts 36 = .ok (.istore_n 1, 1) := by decide +kernel
theorem dX3_bitsOfPosts_37 : decode cX3_bitsOfPosts 37 = .ok (.iinc 2 1, 3) := by decide +kernel
theorem dX3_bitsOfPosts_40 : decode cX3_bitsOfPosts 40 = .ok (.goto (-36), 3) := by decide +kernel
theorem dX3_bitsOfPosts_43 : decode cX3_bitsOfPosts 43 = .ok (.iload_n 1, 1) := by decide +kernel
theorem dX3_bitsOfPosts_44 : decode cX3_bitsOfPosts 44 = .ok (.ireturn, 1) := by decide +kernel
theorem dX3_walkTo_0 : decode cX3_walkTo 0 = .ok (.iconst 0, 1) := by decide +kernel
theorem dX3_walkTo_1 : decode cX3_walkTo 1 = .ok (.istore_n 2, 1) := by decide +kernel
theorem dX3_walkTo_2 : decode cX3_walkTo 2 = .ok (.aload_n 0, 1) := by decide +kernel
theorem dX3_walkTo_3 : decode cX3_walkTo 3 = .ok (.getfield 22, 3) := by decide +kernel
theorem dX3_walkTo_6 : decode cX3_walkTo 6 = .ok (.iload_n 2, 1) := by decide +kernel
theorem dX3_walkTo_7 : decode cX3_walkTo 7 = .ok (.iaload, 1) := by decide +kernel
theorem dX3_walkTo_8 : decode cX3_walkTo 8 = .ok (.iconst (-1), 1) := by decide +kernel
theorem dX3_walkTo_9 : decode cX3_walkTo 9 = .ok (.if_icmp .eq 35, 3) := by decide +kernel
theorem dX3_walkTo_12 : decode cX3_walkTo 12 = .ok (.iload_n 1, 1) := by decide +kernel
theorem dX3_walkTo_13 : decode cX3_walkTo 13 = .ok (.aload_n 0, 1) := by decide +kernel
theorem dX3_walkTo_14 : decode cX3_walkTo 14 = .ok (.getfield 22, 3) := by decide +kernel
theorem dX3_walkTo_17 : decode cX3_walkTo 17 = .ok (.iload_n 2, 1) := by decide +kernel
theorem dX3_walkTo_18 : decode cX3_walkTo 18 = .ok (.iaload, 1) := by decide +kernel
theorem dX3_walkTo_19 : decode cX3_walkTo 19 = .ok (.ishr, 1) := by decide +kernel
theorem dX3_walkTo_20 : decode cX3_walkTo 20 = .ok (.iconst 1, 1) := by decide +kernel
theorem dX3_walkTo_21 : decode cX3_walkTo 21 = .ok (.iand, 1) := by decide +kernel
theorem dX3_walkTo_22 : decode cX3_walkTo 22 = .ok (.ifCond .ne 12, 3) := by decide +kernel
theorem dX3_walkTo_25 : decode cX3_walkTo 25 = .ok (.aload_n 0, 1) := by decide +kernel
theorem dX3_walkTo_26 : decode cX3_walkTo 26 = .ok (.getfield 31, 3) := by decide +kernel
theorem dX3_walkTo_29 : decode cX3_walkTo 29 = .ok (.iload_n 2, 1) := by decide +kernel
theorem dX3_walkTo_30 : decode cX3_walkTo 30 = .ok (.iaload, 1) := by decide +kernel
theorem dX3_walkTo_31 : decode cX3_walkTo 31 = .ok (.goto 9, 3) := by decide +kernel
theorem dX3_walkTo_34 : decode cX3_walkTo 34 = .ok (.aload_n 0, 1) := by decide +kernel
theorem dX3_walkTo_35 : decode cX3_walkTo 35 = .ok (.getfield 34, 3) := by decide +kernel
theorem dX3_walkTo_38 : decode cX3_walkTo 38 = .ok (.iload_n 2, 1) := by decide +kernel
theorem dX3_walkTo_39 : decode cX3_walkTo 39 = .ok (.iaload, 1) := by decide +kernel
theorem dX3_walkTo_40 : decode cX3_walkTo 40 = .ok (.istore_n 2, 1) := by decide +kernel
theorem dX3_walkTo_41 : decode cX3_walkTo 41 = .ok (.goto (-39), 3) := by decide +kernel
theorem dX3_walkTo_44 : decode cX3_walkTo 44 = .ok (.iload_n 2, 1) := by decide +kernel
theorem dX3_walkTo_45 : decode cX3_walkTo 45 = .ok (.ireturn, 1) := by decide +kernel
theorem dX3_put_0 : decode cX3_put 0 = .ok (.aload_n 0, 1) := by decide +kernel
theorem dX3_put_1 : decode cX3_put 1 = .ok (.iconst 0, 1) := by decide +kernel
theorem dX3_put_2 : decode cX3_put 2 = .ok (.putfield 40, 3) := by decide +kernel
theorem dX3_put_5 : decode cX3_put 5 = .ok (.iload_n 1, 1) := by decide +kernel
theorem dX3_put_6 : decode cX3_put 6 = .ok (.invokestatic 94, 3) := by decide +kernel
theorem dX3_put_9 : decode cX3_put 9 = .ok (.ifCond .ne 9, 3) := by decide +kernel
theorem dX3_put_12 : decode cX3_put 12 = .ok (.aload_n 0, 1) := by decide +kernel
theorem dX3_put_13 : decode cX3_put 13 = .ok (.iconst 1, 1) := by decide +kernel
theorem dX3_put_14 : decode cX3_put 14 = .ok (.invokevirtual 98, 3) := by decide +kernel
theorem dX3_put_17 : decode cX3_put 17 = .ok (.ireturn, 1) := by decide +kernel
theorem dX3_put_18 : decode cX3_put 18 = .ok (.iload_n 2, 1) := by decide +kernel
theorem dX3_put_19 : decode cX3_put 19 = .ok (.invokestatic 101, 3) := by decide +kernel
theorem dX3_put_22 : decode cX3_put 22 = .ok (.ifCond .eq 14, 3) := by decide +kernel
theorem dX3_put_25 : decode cX3_put 25 = .ok (.iload_n 3, 1) := by decide +kernel
theorem dX3_put_26 : decode cX3_put 26 = .ok (.iconst 0, 1) := by decide +kernel
theorem dX3_put_27 : decode cX3_put 27 = .ok (.sipush 999, 3) := by decide +kernel
theorem dX3_put_30 : decode cX3_put 30 = .ok (.invokestatic 44, 3) := by decide +kernel
theorem dX3_put_33 : decode cX3_put 33 = .ok (.ifCond .ne 9, 3) := by decide +kernel
theorem dX3_put_36 : decode cX3_put 36 = .ok (.aload_n 0, 1) := by decide +kernel
theorem dX3_put_37 : decode cX3_put 37 = .ok (.iconst 2, 1) := by decide +kernel
theorem dX3_put_38 : decode cX3_put 38 = .ok (.invokevirtual 98, 3) := by decide +kernel
theorem dX3_put_41 : decode cX3_put 41 = .ok (.ireturn, 1) := by decide +kernel
theorem dX3_put_42 : decode cX3_put 42 = .ok (.aload_n 0, 1) := by decide +kernel
theorem dX3_put_43 : decode cX3_put 43 = .ok (.iload_n 1, 1) := by decide +kernel
theorem dX3_put_44 : decode cX3_put 44 = .ok (.iload_n 2, 1) := by decide +kernel
theorem dX3_put_45 : decode cX3_put 45 = .ok (.invokevirtual 65, 3) := by decide +kernel
theorem dX3_put_48 : decode cX3_put 48 = .ok (.ifCond .eq 36, 3) := by decide +kernel
theorem dX3_put_51 : decode cX3_put 51 = .ok (.bipush 24, 2) := by decide +kernel
theorem dX3_put_53 : decode cX3_put 53 = .ok (.iload_n 1, 1) := by decide +kernel
theorem dX3_put_54 : decode cX3_put 54 = .ok (.imul, 1) := by decide +kernel
theorem dX3_put_55 : decode cX3_put 55 = .ok (.aload_n 0, 1) := by decide +kernel
theorem dX3_put_56 : decode cX3_put 56 = .ok (.iload_n 1, 1) := by decide +kernel
theorem dX3_put_57 : decode cX3_put 57 = .ok (.iload_n 2, 1) := by decide +kernel
theorem dX3_put_58 : decode cX3_put 58 = .ok (.invokevirtual 55, 3) := by decide +kernel
theorem dX3_put_61 : decode cX3_put 61 = .ok (.iadd, 1) := by decide +kernel
theorem dX3_put_62 : decode cX3_put 62 = .ok (.istore 4, 2) := by decide +kernel
theorem dX3_put_64 : decode cX3_put 64 = .ok (.aload_n 0, 1) := by decide +kernel
theorem dX3_put_65 : decode cX3_put 65 = .ok (.getfield 16, 3) := by decide +kernel
theorem dX3_put_68 : decode cX3_put 68 = .ok (.iload 4, 2) := by decide +kernel
theorem dX3_put_70 : decode cX3_put 70 = .ok (.iaload, 1) := by decide +kernel
theorem dX3_put_71 : decode cX3_put 71 = .ok (.istore 5, 2) := by decide +kernel
theorem dX3_put_73 : decode cX3_put 73 = .ok (.aload_n 0, 1) := by decide +kernel
theorem dX3_put_74 : decode cX3_put 74 = .ok (.getfield 16, 3) := by decide +kernel
theorem dX3_put_77 : decode cX3_put 77 = .ok (.iload 4, 2) := by decide +kernel
theorem dX3_put_79 : decode cX3_put 79 = .ok (.iload_n 3, 1) := by decide +kernel
theorem dX3_put_80 : decode cX3_put 80 = .ok (.iastore, 1) := by decide +kernel
theorem dX3_put_81 : decode cX3_put 81 = .ok (.iload 5, 2) := by decide +kernel
theorem dX3_put_83 : decode cX3_put 83 = .ok (.ireturn, 1) := by decide +kernel
theorem dX3_put_84 : decode cX3_put 84 = .ok (.aload_n 0, 1) := by decide +kernel
theorem dX3_put_85 : decode cX3_put 85 = .ok (.getfield 9, 3) := by decide +kernel
theorem dX3_put_88 : decode cX3_put 88 = .ok (.iload_n 1, 1) := by decide +kernel
theorem dX3_put_89 : decode cX3_put 89 = .ok (.iaload, 1) := by decide +kernel
theorem dX3_put_90 : decode cX3_put 90 = .ok (.bipush 24, 2) := by decide +kernel
theorem dX3_put_92 : decode cX3_put 92 = .ok (.if_icmp .ne 9, 3) := by decide +kernel
theorem dX3_put_95 : decode cX3_put 95 = .ok (.aload_n 0, 1) := by decide +kernel
theorem dX3_put_96 : decode cX3_put 96 = .ok (.iconst 3, 1) := by decide +kernel
theorem dX3_put_97 : decode cX3_put 97 = .ok (.invokevirtual 98, 3) := by decide +kernel
theorem dX3_put_100 : decode cX3_put 100 = .ok (.ireturn, 1) := by decide +kernel
theorem dX3_put_101 : decode cX3_put 101 = .ok (.aload_n 0, 1) := by decide +kernel
theorem dX3_put_102 : decode cX3_put 102 = .ok (.iload_n 1, 1) := by decide +kernel
theorem dX3_put_103 : decode cX3_put 103 = .ok (.iload_n 2, 1) := by decide +kernel
theorem dX3_put_104 : decode cX3_put 104 = .ok (.iload_n 3, 1) := by decide +kernel
theorem dX3_put_105 : decode cX3_put 105 = .ok (.invokevirtual 104, 3) := by decide +kernel
theorem dX3_put_108 : decode cX3_put 108 = .ok (.iconst (-1), 1) := by decide +kernel
theorem dX3_put_109 : decode cX3_put 109 = .ok (.ireturn, 1) := by decide +kernel
theorem dX3_take_0 : decode cX3_take 0 = .ok (.aload_n 0, 1) := by decide +kernel
theorem dX3_take_1 : decode cX3_take 1 = .ok (.iconst 0, 1) := by decide +kernel
theorem dX3_take_2 : decode cX3_take 2 = .ok (.putfield 40, 3) := by decide +kernel
theorem dX3_take_5 : decode cX3_take 5 = .ok (.iload_n 1, 1) := by decide +kernel
theorem dX3_take_6 : decode cX3_take 6 = .ok (.invokestatic 94, 3) := by decide +kernel
theorem dX3_take_9 : decode cX3_take 9 = .ok (.ifCond .ne 9, 3) := by decide +kernel
theorem dX3_take_12 : decode cX3_take 12 = .ok (.aload_n 0, 1) := by decide +kernel
theorem dX3_take_13 : decode cX3_take 13 = .ok (.iconst 1, 1) := by decide +kernel
theorem dX3_take_14 : decode cX3_take 14 = .ok (.invokevirtual 98, 3) := by decide +kernel
theorem dX3_take_17 : decode cX3_take 17 = .ok (.ireturn, 1) := by decide +kernel
theorem dX3_take_18 : decode cX3_take 18 = .ok (.iload_n 2, 1) := by decide +kernel
theorem dX3_take_19 : decode cX3_take 19 = .ok (.invokestatic 101, 3) := by decide +kernel
theorem dX3_take_22 : decode cX3_take 22 = .ok (.ifCond .ne 9, 3) := by decide +kernel
theorem dX3_take_25 : decode cX3_take 25 = .ok (.aload_n 0, 1) := by decide +kernel
theorem dX3_take_26 : decode cX3_take 26 = .ok (.iconst 2, 1) := by decide +kernel
theorem dX3_take_27 : decode cX3_take 27 = .ok (.invokevirtual 98, 3) := by decide +kernel
theorem dX3_take_30 : decode cX3_take 30 = .ok (.ireturn, 1) := by decide +kernel
theorem dX3_take_31 : decode cX3_take 31 = .ok (.aload_n 0, 1) := by decide +kernel
theorem dX3_take_32 : decode cX3_take 32 = .ok (.iload_n 1, 1) := by decide +kernel
theorem dX3_take_33 : decode cX3_take 33 = .ok (.iload_n 2, 1) := by decide +kernel
theorem dX3_take_34 : decode cX3_take 34 = .ok (.invokevirtual 65, 3) := by decide +kernel
theorem dX3_take_37 : decode cX3_take 37 = .ok (.ifCond .eq 12, 3) := by decide +kernel
theorem dX3_take_40 : decode cX3_take 40 = .ok (.aload_n 0, 1) := by decide +kernel
theorem dX3_take_41 : decode cX3_take 41 = .ok (.iload_n 1, 1) := by decide +kernel
theorem dX3_take_42 : decode cX3_take 42 = .ok (.iload_n 2, 1) := by decide +kernel
theorem dX3_take_43 : decode cX3_take 43 = .ok (.invokevirtual 108, 3) := by decide +kernel
theorem dX3_take_46 : decode cX3_take 46 = .ok (.goto 8, 3) := by decide +kernel
theorem dX3_take_49 : decode cX3_take 49 = .ok (.aload_n 0, 1) := by decide +kernel
theorem dX3_take_50 : decode cX3_take 50 = .ok (.iconst 3, 1) := by decide +kernel
theorem dX3_take_51 : decode cX3_take 51 = .ok (.invokevirtual 98, 3) := by decide +kernel
theorem dX3_take_54 : decode cX3_take 54 = .ok (.ireturn, 1) := by decide +kernel
theorem dX3_joined_0 : decode cX3_joined 0 = .ok (.iload_n 0, 1) := by decide +kernel
theorem dX3_joined_1 : decode cX3_joined 1 = .ok (.tableswitch 41 0 2 #[27, 29, 31], 27) := by decide +kernel
theorem dX3_joined_28 : decode cX3_joined 28 = .ok (.iload_n 1, 1) := by decide +kernel
theorem dX3_joined_29 : decode cX3_joined 29 = .ok (.ireturn, 1) := by decide +kernel
theorem dX3_joined_30 : decode cX3_joined 30 = .ok (.iload_n 2, 1) := by decide +kernel
theorem dX3_joined_31 : decode cX3_joined 31 = .ok (.ireturn, 1) := by decide +kernel
theorem dX3_joined_32 : decode cX3_joined 32 = .ok (.sipush 999, 3) := by decide +kernel
theorem dX3_joined_35 : decode cX3_joined 35 = .ok (.iload_n 1, 1) := by decide +kernel
theorem dX3_joined_36 : decode cX3_joined 36 = .ok (.iload_n 2, 1) := by decide +kernel
theorem dX3_joined_37 : decode cX3_joined 37 = .ok (.iadd, 1) := by decide +kernel
theorem dX3_joined_38 : decode cX3_joined 38 = .ok (.invokestatic 86, 3) := by decide +kernel
theorem dX3_joined_41 : decode cX3_joined 41 = .ok (.ireturn, 1) := by decide +kernel
theorem dX3_joined_42 : decode cX3_joined 42 = .ok (.iload_n 1, 1) := by decide +kernel
theorem dX3_joined_43 : decode cX3_joined 43 = .ok (.iload_n 2, 1) := by decide +kernel
theorem dX3_joined_44 : decode cX3_joined 44 = .ok (.invokestatic 86, 3) := by decide +kernel
theorem dX3_joined_47 : decode cX3_joined 47 = .ok (.ireturn, 1) := by decide +kernel
theorem dX3_merge_0 : decode cX3_merge 0 = .ok (.aload_n 0, 1) := by decide +kernel
theorem dX3_merge_1 : decode cX3_merge 1 = .ok (.iconst 0, 1) := by decide +kernel
theorem dX3_merge_2 : decode cX3_merge 2 = .ok (.putfield 40, 3) := by decide +kernel
theorem dX3_merge_5 : decode cX3_merge 5 = .ok (.iload_n 1, 1) := by decide +kernel
theorem dX3_merge_6 : decode cX3_merge 6 = .ok (.invokestatic 94, 3) := by decide +kernel
theorem dX3_merge_9 : decode cX3_merge 9 = .ok (.ifCond .eq 12, 3) := by decide +kernel
theorem dX3_merge_12 : decode cX3_merge 12 = .ok (.iload_n 2, 1) := by decide +kernel
theorem dX3_merge_13 : decode cX3_merge 13 = .ok (.iconst 0, 1) := by decide +kernel
theorem dX3_merge_14 : decode cX3_merge 14 = .ok (.iconst 3, 1) := by decide +kernel
theorem dX3_merge_15 : decode cX3_merge 15 = .ok (.invokestatic 44, 3) := by decide +kernel
theorem dX3_merge_18 : decode cX3_merge 18 = .ok (.ifCond .ne 9, 3) := by decide +kernel
theorem dX3_merge_21 : decode cX3_merge 21 = .ok (.aload_n 0, 1) := by decide +kernel
theorem dX3_merge_22 : decode cX3_merge 22 = .ok (.iconst 1, 1) := by decide +kernel
theorem dX3_merge_23 : decode cX3_merge 23 = .ok (.invokevirtual 98, 3) := by decide +kernel
theorem dX3_merge_26 : decode cX3_merge 26 = .ok (.ireturn, 1) := by decide +kernel
theorem dX3_merge_27 : decode cX3_merge 27 = .ok (.aload_n 0, 1) := by decide +kernel
theorem dX3_merge_28 : decode cX3_merge 28 = .ok (.invokevirtual 111, 3) := by decide +kernel
theorem dX3_merge_31 : decode cX3_merge 31 = .ok (.istore_n 3, 1) := by decide +kernel
theorem dX3_merge_32 : decode cX3_merge 32 = .ok (.aload_n 0, 1) := by decide +kernel
theorem dX3_merge_33 : decode cX3_merge 33 = .ok (.getfield 9, 3) := by decide +kernel
theorem dX3_merge_36 : decode cX3_merge 36 = .ok (.iconst 0, 1) := by decide +kernel
theorem dX3_merge_37 : decode cX3_merge 37 = .ok (.iaload, 1) := by decide +kernel
theorem dX3_merge_38 : decode cX3_merge 38 = .ok (.aload_n 0, 1) := by decide +kernel
theorem dX3_merge_39 : decode cX3_merge 39 = .ok (.getfield 9, 3) := by decide +kernel
theorem dX3_merge_42 : decode cX3_merge 42 = .ok (.iconst 1, 1) := by decide +kernel
theorem dX3_merge_43 : decode cX3_merge 43 = .ok (.iaload, 1) := by decide +kernel
theorem dX3_merge_44 : decode cX3_merge 44 = .ok (.iadd, 1) := by decide +kernel
theorem dX3_merge_45 : decode cX3_merge 45 = .ok (.iload_n 3, 1) := by decide +kernel
theorem dX3_merge_46 : decode cX3_merge 46 = .ok (.isub, 1) := by decide +kernel
theorem dX3_merge_47 : decode cX3_merge 47 = .ok (.bipush 24, 2) := by decide +kernel
theorem dX3_merge_49 : decode cX3_merge 49 = .ok (.if_icmp .le 9, 3) := by decide +kernel
theorem dX3_merge_52 : decode cX3_merge 52 = .ok (.aload_n 0, 1) := by decide +kernel
theorem dX3_merge_53 : decode cX3_merge 53 = .ok (.iconst 2, 1) := by decide +kernel
theorem dX3_merge_54 : decode cX3_merge 54 = .ok (.invokevirtual 98, 3) := by decide +kernel
theorem dX3_merge_57 : decode cX3_merge 57 = .ok (.ireturn, 1) := by decide +kernel
theorem dX3_merge_58 : decode cX3_merge 58 = .ok (.iconst 1, 1) := by decide +kernel
theorem dX3_merge_59 : decode cX3_merge 59 = .ok (.iload_n 1, 1) := by decide +kernel
theorem dX3_merge_60 : decode cX3_merge 60 = .ok (.isub, 1) := by decide +kernel
theorem dX3_merge_61 : decode cX3_merge 61 = .ok (.istore 4, 2) := by decide +kernel
theorem dX3_merge_63 : decode cX3_merge 63 = .ok (.bipush 24, 2) := by decide +kernel
theorem dX3_merge_65 : decode cX3_merge 65 = .ok (.iload_n 1, 1) := by decide +kernel
theorem dX3_merge_66 : decode cX3_merge 66 = .ok (.imul, 1) := by decide +kernel
theorem dX3_merge_67 : decode cX3_merge 67 = .ok (.istore 5, 2) := by decide +kernel
theorem dX3_merge_69 : decode cX3_merge 69 = .ok (.iload 5, 2) := by decide +kernel
theorem dX3_merge_71 : decode cX3_merge 71 = .ok (.bipush 24, 2) := by decide +kernel
theorem dX3_merge_73 : decode cX3_merge 73 = .ok (.iload_n 1, 1) := by decide +kernel
theorem dX3_merge_74 : decode cX3_merge 74 = .ok (.imul, 1) := by decide +kernel
theorem dX3_merge_75 : decode cX3_merge 75 = .ok (.aload_n 0, 1) := by decide +kernel
theorem dX3_merge_76 : decode cX3_merge 76 = .ok (.getfield 9, 3) := by decide +kernel
theorem dX3_merge_79 : decode cX3_merge 79 = .ok (.iload_n 1, 1) := by decide +kernel
theorem dX3_merge_80 : decode cX3_merge 80 = .ok (.iaload, 1) := by decide +kernel
theorem dX3_merge_81 : decode cX3_merge 81 = .ok (.iadd, 1) := by decide +kernel
theorem dX3_merge_82 : decode cX3_merge 82 = .ok (.if_icmp .ge 94, 3) := by decide +kernel
theorem dX3_merge_85 : decode cX3_merge 85 = .ok (.aload_n 0, 1) := by decide +kernel
theorem dX3_merge_86 : decode cX3_merge 86 = .ok (.iload 4, 2) := by decide +kernel
theorem dX3_merge_88 : decode cX3_merge 88 = .ok (.aload_n 0, 1) := by decide +kernel
theorem dX3_merge_89 : decode cX3_merge 89 = .ok (.getfield 13, 3) := by decide +kernel
theorem dX3_merge_92 : decode cX3_merge 92 = .ok (.iload 5, 2) := by decide +kernel
theorem dX3_merge_94 : decode cX3_merge 94 = .ok (.iaload, 1) := by decide +kernel
theorem dX3_merge_95 : decode cX3_merge 95 = .ok (.invokevirtual 65, 3) := by decide +kernel
theorem dX3_merge_98 : decode cX3_merge 98 = .ok (.ifCond .ne 26, 3) := by decide +kernel
theorem dX3_merge_101 : decode cX3_merge 101 = .ok (.aload_n 0, 1) := by decide +kernel
theorem dX3_merge_102 : decode cX3_merge 102 = .ok (.iload 4, 2) := by decide +kernel
theorem dX3_merge_104 : decode cX3_merge 104 = .ok (.aload_n 0, 1) := by decide +kernel
theorem dX3_merge_105 : decode cX3_merge 105 = .ok (.getfield 13, 3) := by decide +kernel
theorem dX3_merge_108 : decode cX3_merge 108 = .ok (.iload 5, 2) := by decide +kernel
theorem dX3_merge_110 : decode cX3_merge 110 = .ok (.iaload, 1) := by decide +kernel
theorem dX3_merge_111 : decode cX3_merge 111 = .ok (.aload_n 0, 1) := by decide +kernel
theorem dX3_merge_112 : decode cX3_merge 112 = .ok (.getfield 16, 3) := by decide +kernel
theorem dX3_merge_115 : decode cX3_merge 115 = .ok (.iload 5, 2) := by decide +kernel
theorem dX3_merge_117 : decode cX3_merge 117 = .ok (.iaload, 1) := by decide +kernel
theorem dX3_merge_118 : decode cX3_merge 118 = .ok (.invokevirtual 104, 3) := by decide +kernel
theorem dX3_merge_121 : decode cX3_merge 121 = .ok (.goto 49, 3) := by decide +kernel
theorem dX3_merge_124 : decode cX3_merge 124 = .ok (.bipush 24, 2) := by decide +kernel
theorem dX3_merge_126 : decode cX3_merge 126 = .ok (.iload 4, 2) := by decide +kernel
theorem dX3_merge_128 : decode cX3_merge 128 = .ok (.imul, 1) := by decide +kernel
theorem dX3_merge_129 : decode cX3_merge 129 = .ok (.aload_n 0, 1) := by decide +kernel
theorem dX3_merge_130 : decode cX3_merge 130 = .ok (.iload 4, 2) := by decide +kernel
theorem dX3_merge_132 : decode cX3_merge 132 = .ok (.aload_n 0, 1) := by decide +kernel
theorem dX3_merge_133 : decode cX3_merge 133 = .ok (.getfield 13, 3) := by decide +kernel
theorem dX3_merge_136 : decode cX3_merge 136 = .ok (.iload 5, 2) := by decide +kernel
theorem dX3_merge_138 : decode cX3_merge 138 = .ok (.iaload, 1) := by decide +kernel
theorem dX3_merge_139 : decode cX3_merge 139 = .ok (.invokevirtual 55, 3) := by decide +kernel
theorem dX3_merge_142 : decode cX3_merge 142 = .ok (.iadd, 1) := by decide +kernel
theorem dX3_merge_143 : decode cX3_merge 143 = .ok (.istore 6, 2) := by decide +kernel
theorem dX3_merge_145 : decode cX3_merge 145 = .ok (.aload_n 0, 1) := by decide +kernel
theorem dX3_merge_146 : decode cX3_merge 146 = .ok (.getfield 16, 3) := by decide +kernel
theorem dX3_merge_149 : decode cX3_merge 149 = .ok (.iload 6, 2) := by decide +kernel
theorem dX3_merge_151 : decode cX3_merge 151 = .ok (.iload_n 2, 1) := by decide +kernel
theorem dX3_merge_152 : decode cX3_merge 152 = .ok (.aload_n 0, 1) := by decide +kernel
theorem dX3_merge_153 : decode cX3_merge 153 = .ok (.getfield 16, 3) := by decide +kernel
theorem dX3_merge_156 : decode cX3_merge 156 = .ok (.iload 5, 2) := by decide +kernel
theorem dX3_merge_158 : decode cX3_merge 158 = .ok (.iaload, 1) := by decide +kernel
theorem dX3_merge_159 : decode cX3_merge 159 = .ok (.aload_n 0, 1) := by decide +kernel
theorem dX3_merge_160 : decode cX3_merge 160 = .ok (.getfield 16, 3) := by decide +kernel
theorem dX3_merge_163 : decode cX3_merge 163 = .ok (.iload 6, 2) := by decide +kernel
theorem dX3_merge_165 : decode cX3_merge 165 = .ok (.iaload, 1) := by decide +kernel
theorem dX3_merge_166 : decode cX3_merge 166 = .ok (.invokestatic 115, 3) := by decide +kernel
theorem dX3_merge_169 : decode cX3_merge 169 = .ok (.iastore, 1) := by decide +kernel
theorem dX3_merge_170 : decode cX3_merge 170 = .ok (.iinc 5 1, 3) := by decide +kernel
theorem dX3_merge_173 : decode cX3_merge 173 = .ok (.goto (-104), 3) := by decide +kernel
theorem dX3_merge_176 : decode cX3_merge 176 = .ok (.aload_n 0, 1) := by decide +kernel
theorem dX3_merge_177 : decode cX3_merge 177 = .ok (.getfield 9, 3) := by decide +kernel
theorem dX3_merge_180 : decode cX3_merge 180 = .ok (.iload_n 1, 1) := by decide +kernel
theorem dX3_merge_181 : decode cX3_merge 181 = .ok (.iconst 0, 1) := by decide +kernel
theorem dX3_merge_182 : decode cX3_merge 182 = .ok (.iastore, 1) := by decide +kernel
theorem dX3_merge_183 : decode cX3_merge 183 = .ok (.iload_n 3, 1) := by decide +kernel
theorem dX3_merge_184 : decode cX3_merge 184 = .ok (.ireturn, 1) := by decide +kernel
theorem dX3_cut_0 : decode cX3_cut 0 = .ok (.aload_n 0, 1) := by decide +kernel
theorem dX3_cut_1 : decode cX3_cut 1 = .ok (.iconst 0, 1) := by decide +kernel
theorem dX3_cut_2 : decode cX3_cut 2 = .ok (.putfield 40, 3) := by decide +kernel
theorem dX3_cut_5 : decode cX3_cut 5 = .ok (.iload_n 1, 1) := by decide +kernel
theorem dX3_cut_6 : decode cX3_cut 6 = .ok (.invokestatic 94, 3) := by decide +kernel
theorem dX3_cut_9 : decode cX3_cut 9 = .ok (.ifCond .ne 9, 3) := by decide +kernel
theorem dX3_cut_12 : decode cX3_cut 12 = .ok (.aload_n 0, 1) := by decide +kernel
theorem dX3_cut_13 : decode cX3_cut 13 = .ok (.iconst 1, 1) := by decide +kernel
theorem dX3_cut_14 : decode cX3_cut 14 = .ok (.invokevirtual 98, 3) := by decide +kernel
theorem dX3_cut_17 : decode cX3_cut 17 = .ok (.ireturn, 1) := by decide +kernel
theorem dX3_cut_18 : decode cX3_cut 18 = .ok (.iload_n 2, 1) := by decide +kernel
theorem dX3_cut_19 : decode cX3_cut 19 = .ok (.invokestatic 101, 3) := by decide +kernel
theorem dX3_cut_22 : decode cX3_cut 22 = .ok (.ifCond .ne 9, 3) := by decide +kernel
theorem dX3_cut_25 : decode cX3_cut 25 = .ok (.aload_n 0, 1) := by decide +kernel
theorem dX3_cut_26 : decode cX3_cut 26 = .ok (.iconst 2, 1) := by decide +kernel
theorem dX3_cut_27 : decode cX3_cut 27 = .ok (.invokevirtual 98, 3) := by decide +kernel
theorem dX3_cut_30 : decode cX3_cut 30 = .ok (.ireturn, 1) := by decide +kernel
theorem dX3_cut_31 : decode cX3_cut 31 = .ok (.aload_n 0, 1) := by decide +kernel
theorem dX3_cut_32 : decode cX3_cut 32 = .ok (.getfield 9, 3) := by decide +kernel
theorem dX3_cut_35 : decode cX3_cut 35 = .ok (.iconst 1, 1) := by decide +kernel
theorem dX3_cut_36 : decode cX3_cut 36 = .ok (.iload_n 1, 1) := by decide +kernel
theorem dX3_cut_37 : decode cX3_cut 37 = .ok (.isub, 1) := by decide +kernel
theorem dX3_cut_38 : decode cX3_cut 38 = .ok (.iaload, 1) := by decide +kernel
theorem dX3_cut_39 : decode cX3_cut 39 = .ok (.ifCond .le 9, 3) := by decide +kernel
theorem dX3_cut_42 : decode cX3_cut 42 = .ok (.aload_n 0, 1) := by decide +kernel
theorem dX3_cut_43 : decode cX3_cut 43 = .ok (.iconst 3, 1) := by decide +kernel
theorem dX3_cut_44 : decode cX3_cut 44 = .ok (.invokevirtual 98, 3) := by decide +kernel
theorem dX3_cut_47 : decode cX3_cut 47 = .ok (.ireturn, 1) := by decide +kernel
theorem dX3_cut_48 : decode cX3_cut 48 = .ok (.aload_n 0, 1) := by decide +kernel
theorem dX3_cut_49 : decode cX3_cut 49 = .ok (.iload_n 1, 1) := by decide +kernel
theorem dX3_cut_50 : decode cX3_cut 50 = .ok (.iload_n 2, 1) := by decide +kernel
theorem dX3_cut_51 : decode cX3_cut 51 = .ok (.invokevirtual 55, 3) := by decide +kernel
theorem dX3_cut_54 : decode cX3_cut 54 = .ok (.istore_n 3, 1) := by decide +kernel
theorem dX3_cut_55 : decode cX3_cut 55 = .ok (.aload_n 0, 1) := by decide +kernel
theorem dX3_cut_56 : decode cX3_cut 56 = .ok (.getfield 9, 3) := by decide +kernel
theorem dX3_cut_59 : decode cX3_cut 59 = .ok (.iload_n 1, 1) := by decide +kernel
theorem dX3_cut_60 : decode cX3_cut 60 = .ok (.iaload, 1) := by decide +kernel
theorem dX3_cut_61 : decode cX3_cut 61 = .ok (.iload_n 3, 1) := by decide +kernel
theorem dX3_cut_62 : decode cX3_cut 62 = .ok (.isub, 1) := by decide +kernel
theorem dX3_cut_63 : decode cX3_cut 63 = .ok (.istore 4, 2) := by decide +kernel
theorem dX3_cut_65 : decode cX3_cut 65 = .ok (.aload_n 0, 1) := by decide +kernel
theorem dX3_cut_66 : decode cX3_cut 66 = .ok (.getfield 13, 3) := by decide +kernel
theorem dX3_cut_69 : decode cX3_cut 69 = .ok (.bipush 24, 2) := by decide +kernel
theorem dX3_cut_71 : decode cX3_cut 71 = .ok (.iload_n 1, 1) := by decide +kernel
theorem dX3_cut_72 : decode cX3_cut 72 = .ok (.imul, 1) := by decide +kernel
theorem dX3_cut_73 : decode cX3_cut 73 = .ok (.iload_n 3, 1) := by decide +kernel
theorem dX3_cut_74 : decode cX3_cut 74 = .ok (.iadd, 1) := by decide +kernel
theorem dX3_cut_75 : decode cX3_cut 75 = .ok (.aload_n 0, 1) := by decide +kernel
theorem dX3_cut_76 : decode cX3_cut 76 = .ok (.getfield 13, 3) := by decide +kernel
theorem dX3_cut_79 : decode cX3_cut 79 = .ok (.bipush 24, 2) := by decide +kernel
theorem dX3_cut_81 : decode cX3_cut 81 = .ok (.iconst 1, 1) := by decide +kernel
theorem dX3_cut_82 : decode cX3_cut 82 = .ok (.iload_n 1, 1) := by decide +kernel
theorem dX3_cut_83 : decode cX3_cut 83 = .ok (.isub, 1) := by decide +kernel
theorem dX3_cut_84 : decode cX3_cut 84 = .ok (.imul, 1) := by decide +kernel
theorem dX3_cut_85 : decode cX3_cut 85 = .ok (.iload 4, 2) := by decide +kernel
theorem dX3_cut_87 : decode cX3_cut 87 = .ok (.invokestatic 59, 3) := by decide +kernel
theorem dX3_cut_90 : decode cX3_cut 90 = .ok (.aload_n 0, 1) := by decide +kernel
theorem dX3_cut_91 : decode cX3_cut 91 = .ok (.getfield 16, 3) := by decide +kernel
theorem dX3_cut_94 : decode cX3_cut 94 = .ok (.bipush 24, 2) := by decide +kernel
theorem dX3_cut_96 : decode cX3_cut 96 = .ok (.iload_n 1, 1) := by decide +kernel
theorem dX3_cut_97 : decode cX3_cut 97 = .ok (.imul, 1) := by decide +kernel
theorem dX3_cut_98 : decode cX3_cut 98 = .ok (.iload_n 3, 1) := by decide +kernel
theorem dX3_cut_99 : decode cX3_cut 99 = .ok (.iadd, 1) := by decide +kernel
theorem dX3_cut_100 : decode cX3_cut 100 = .ok (.aload_n 0, 1) := by decide +kernel
theorem dX3_cut_101 : decode cX3_cut 101 = .ok (.getfield 16, 3) := by decide +kernel
theorem dX3_cut_104 : decode cX3_cut 104 = .ok (.bipush 24, 2) := by decide +kernel
theorem dX3_cut_106 : decode cX3_cut 106 = .ok (.iconst 1, 1) := by decide +kernel
theorem dX3_cut_107 : decode cX3_cut 107 = .ok (.iload_n 1, 1) := by decide +kernel
theorem dX3_cut_108 : decode cX3_cut 108 = .ok (.isub, 1) := by decide +kernel
theorem dX3_cut_109 : decode cX3_cut 109 = .ok (.imul, 1) := by decide +kernel
theorem dX3_cut_110 : decode cX3_cut 110 = .ok (.iload 4, 2) := by decide +kernel
theorem dX3_cut_112 : decode cX3_cut 112 = .ok (.invokestatic 59, 3) := by decide +kernel
theorem dX3_cut_115 : decode cX3_cut 115 = .ok (.aload_n 0, 1) := by decide +kernel
theorem dX3_cut_116 : decode cX3_cut 116 = .ok (.getfield 9, 3) := by decide +kernel
theorem dX3_cut_119 : decode cX3_cut 119 = .ok (.iload_n 1, 1) := by decide +kernel
theorem dX3_cut_120 : decode cX3_cut 120 = .ok (.iload_n 3, 1) := by decide +kernel
theorem dX3_cut_121 : decode cX3_cut 121 = .ok (.iastore, 1) := by decide +kernel
theorem dX3_cut_122 : decode cX3_cut 122 = .ok (.aload_n 0, 1) := by decide +kernel
theorem dX3_cut_123 : decode cX3_cut 123 = .ok (.getfield 9, 3) := by decide +kernel
theorem dX3_cut_126 : decode cX3_cut 126 = .ok (.iconst 1, 1) := by decide +kernel
theorem dX3_cut_127 : decode cX3_cut 127 = .ok (.iload_n 1, 1) := by decide +kernel
theorem dX3_cut_128 : decode cX3_cut 128 = .ok (.isub, 1) := by decide +kernel
theorem dX3_cut_129 : decode cX3_cut 129 = .ok (.iload 4, 2) := by decide +kernel
theorem dX3_cut_131 : decode cX3_cut 131 = .ok (.iastore, 1) := by decide +kernel
theorem dX3_cut_132 : decode cX3_cut 132 = .ok (.iload 4, 2) := by decide +kernel
theorem dX3_cut_134 : decode cX3_cut 134 = .ok (.ireturn, 1) := by decide +kernel
theorem dX3_turn_0 : decode cX3_turn 0 = .ok (.aload_n 0, 1) := by decide +kernel
theorem dX3_turn_1 : decode cX3_turn 1 = .ok (.iconst 0, 1) := by decide +kernel
theorem dX3_turn_2 : decode cX3_turn 2 = .ok (.putfield 40, 3) := by decide +kernel
theorem dX3_turn_5 : decode cX3_turn 5 = .ok (.iload_n 1, 1) := by decide +kernel
theorem dX3_turn_6 : decode cX3_turn 6 = .ok (.invokestatic 94, 3) := by decide +kernel
theorem dX3_turn_9 : decode cX3_turn 9 = .ok (.ifCond .ne 9, 3) := by decide +kernel
theorem dX3_turn_12 : decode cX3_turn 12 = .ok (.aload_n 0, 1) := by decide +kernel
theorem dX3_turn_13 : decode cX3_turn 13 = .ok (.iconst 1, 1) := by decide +kernel
theorem dX3_turn_14 : decode cX3_turn 14 = .ok (.invokevirtual 98, 3) := by decide +kernel
theorem dX3_turn_17 : decode cX3_turn 17 = .ok (.ireturn, 1) := by decide +kernel
theorem dX3_turn_18 : decode cX3_turn 18 = .ok (.iload_n 2, 1) := by decide +kernel
theorem dX3_turn_19 : decode cX3_turn 19 = .ok (.invokestatic 101, 3) := by decide +kernel
theorem dX3_turn_22 : decode cX3_turn 22 = .ok (.ifCond .ne 9, 3) := by decide +kernel
theorem dX3_turn_25 : decode cX3_turn 25 = .ok (.aload_n 0, 1) := by decide +kernel
theorem dX3_turn_26 : decode cX3_turn 26 = .ok (.iconst 2, 1) := by decide +kernel
theorem dX3_turn_27 : decode cX3_turn 27 = .ok (.invokevirtual 98, 3) := by decide +kernel
theorem dX3_turn_30 : decode cX3_turn 30 = .ok (.ireturn, 1) := by decide +kernel
theorem dX3_turn_31 : decode cX3_turn 31 = .ok (.aload_n 0, 1) := by decide +kernel
theorem dX3_turn_32 : decode cX3_turn 32 = .ok (.getfield 9, 3) := by decide +kernel
theorem dX3_turn_35 : decode cX3_turn 35 = .ok (.iload_n 1, 1) := by decide +kernel
theorem dX3_turn_36 : decode cX3_turn 36 = .ok (.iaload, 1) := by decide +kernel
theorem dX3_turn_37 : decode cX3_turn 37 = .ok (.ifCond .ne 9, 3) := by decide +kernel
theorem dX3_turn_40 : decode cX3_turn 40 = .ok (.aload_n 0, 1) := by decide +kernel
theorem dX3_turn_41 : decode cX3_turn 41 = .ok (.iconst 3, 1) := by decide +kernel
theorem dX3_turn_42 : decode cX3_turn 42 = .ok (.invokevirtual 98, 3) := by decide +kernel
theorem dX3_turn_45 : decode cX3_turn 45 = .ok (.ireturn, 1) := by decide +kernel
theorem dX3_turn_46 : decode cX3_turn 46 = .ok (.aload_n 0, 1) := by decide +kernel
theorem dX3_turn_47 : decode cX3_turn 47 = .ok (.getfield 9, 3) := by decide +kernel
theorem dX3_turn_50 : decode cX3_turn 50 = .ok (.iload_n 1, 1) := by decide +kernel
theorem dX3_turn_51 : decode cX3_turn 51 = .ok (.iaload, 1) := by decide +kernel
theorem dX3_turn_52 : decode cX3_turn 52 = .ok (.istore_n 3, 1) := by decide +kernel
theorem dX3_turn_53 : decode cX3_turn 53 = .ok (.iload_n 3, 1) := by decide +kernel
theorem dX3_turn_54 : decode cX3_turn 54 = .ok (.newarray .int, 2) := by decide +kernel
theorem dX3_turn_56 : decode cX3_turn 56 = .ok (.astore 4, 2) := by decide +kernel
theorem dX3_turn_58 : decode cX3_turn 58 = .ok (.iload_n 3, 1) := by decide +kernel
theorem dX3_turn_59 : decode cX3_turn 59 = .ok (.newarray .int, 2) := by decide +kernel
theorem dX3_turn_61 : decode cX3_turn 61 = .ok (.astore 5, 2) := by decide +kernel
theorem dX3_turn_63 : decode cX3_turn 63 = .ok (.aload_n 0, 1) := by decide +kernel
theorem dX3_turn_64 : decode cX3_turn 64 = .ok (.getfield 13, 3) := by decide +kernel
theorem dX3_turn_67 : decode cX3_turn 67 = .ok (.bipush 24, 2) := by decide +kernel
theorem dX3_turn_69 : decode cX3_turn 69 = .ok (.iload_n 1, 1) := by decide +kernel
theorem dX3_turn_70 : decode cX3_turn 70 = .ok (.imul, 1) := by decide +kernel
theorem dX3_turn_71 : decode cX3_turn 71 = .ok (.aload 4, 2) := by decide +kernel
theorem dX3_turn_73 : decode cX3_turn 73 = .ok (.iconst 0, 1) := by decide +kernel
theorem dX3_turn_74 : decode cX3_turn 74 = .ok (.iload_n 3, 1) := by decide +kernel
theorem dX3_turn_75 : decode cX3_turn 75 = .ok (.invokestatic 59, 3) := by decide +kernel
theorem dX3_turn_78 : decode cX3_turn 78 = .ok (.aload_n 0, 1) := by decide +kernel
theorem dX3_turn_79 : decode cX3_turn 79 = .ok (.getfield 16, 3) := by decide +kernel
theorem dX3_turn_82 : decode cX3_turn 82 = .ok (.bipush 24, 2) := by decide +kernel
theorem dX3_turn_84 : decode cX3_turn 84 = .ok (.iload_n 1, 1) := by decide +kernel
theorem dX3_turn_85 : decode cX3_turn 85 = .ok (.imul, 1) := by decide +kernel
theorem dX3_turn_86 : decode cX3_turn 86 = .ok (.aload 5, 2) := by decide +kernel
theorem dX3_turn_88 : decode cX3_turn 88 = .ok (.iconst 0, 1) := by decide +kernel
theorem dX3_turn_89 : decode cX3_turn 89 = .ok (.iload_n 3, 1) := by decide +kernel
theorem dX3_turn_90 : decode cX3_turn 90 = .ok (.invokestatic 59, 3) := by decide +kernel
theorem dX3_turn_93 : decode cX3_turn 93 = .ok (.aload_n 0, 1) := by decide +kernel
theorem dX3_turn_94 : decode cX3_turn 94 = .ok (.getfield 9, 3) := by decide +kernel
theorem dX3_turn_97 : decode cX3_turn 97 = .ok (.iload_n 1, 1) := by decide +kernel
theorem dX3_turn_98 : decode cX3_turn 98 = .ok (.iconst 0, 1) := by decide +kernel
theorem dX3_turn_99 : decode cX3_turn 99 = .ok (.iastore, 1) := by decide +kernel
theorem dX3_turn_100 : decode cX3_turn 100 = .ok (.iconst 0, 1) := by decide +kernel
theorem dX3_turn_101 : decode cX3_turn 101 = .ok (.istore 6, 2) := by decide +kernel
theorem dX3_turn_103 : decode cX3_turn 103 = .ok (.iload 6, 2) := by decide +kernel
theorem dX3_turn_105 : decode cX3_turn 105 = .ok (.iload_n 3, 1) := by decide +kernel
theorem dX3_turn_106 : decode cX3_turn 106 = .ok (.if_icmp .ge 26, 3) := by decide +kernel
theorem dX3_turn_109 : decode cX3_turn 109 = .ok (.aload_n 0, 1) := by decide +kernel
theorem dX3_turn_110 : decode cX3_turn 110 = .ok (.iload_n 1, 1) := by decide +kernel
theorem dX3_turn_111 : decode cX3_turn 111 = .ok (.aload 4, 2) := by decide +kernel
theorem dX3_turn_113 : decode cX3_turn 113 = .ok (.iload 6, 2) := by decide +kernel
theorem dX3_turn_115 : decode cX3_turn 115 = .ok (.iaload, 1) := by decide +kernel
theorem dX3_turn_116 : decode cX3_turn 116 = .ok (.iload_n 2, 1) := by decide +kernel
theorem dX3_turn_117 : decode cX3_turn 117 = .ok (.ixor, 1) := by decide +kernel
theorem dX3_turn_118 : decode cX3_turn 118 = .ok (.aload 5, 2) := by decide +kernel
theorem dX3_turn_120 : decode cX3_turn 120 = .ok (.iload 6, 2) := by decide +kernel
theorem dX3_turn_122 : decode cX3_turn 122 = .ok (.iaload, 1) := by decide +kernel
theorem dX3_turn_123 : decode cX3_turn 123 = .ok (.invokevirtual 104, 3) := by decide +kernel
theorem dX3_turn_126 : decode cX3_turn 126 = .ok (.iinc 6 1, 3) := by decide +kernel
theorem dX3_turn_129 : decode cX3_turn 129 = .ok (.goto (-26), 3) := by decide +kernel
theorem dX3_turn_132 : decode cX3_turn 132 = .ok (.aload_n 0, 1) := by decide +kernel
theorem dX3_turn_133 : decode cX3_turn 133 = .ok (.getfield 13, 3) := by decide +kernel
theorem dX3_turn_136 : decode cX3_turn 136 = .ok (.bipush 24, 2) := by decide +kernel
theorem dX3_turn_138 : decode cX3_turn 138 = .ok (.iload_n 1, 1) := by decide +kernel
theorem dX3_turn_139 : decode cX3_turn 139 = .ok (.imul, 1) := by decide +kernel
theorem dX3_turn_140 : decode cX3_turn 140 = .ok (.iaload, 1) := by decide +kernel
theorem dX3_turn_141 : decode cX3_turn 141 = .ok (.ireturn, 1) := by decide +kernel
theorem dX3_miles_0 : decode cX3_miles 0 = .ok (.aload_n 0, 1) := by decide +kernel
theorem dX3_miles_1 : decode cX3_miles 1 = .ok (.iconst 0, 1) := by decide +kernel
theorem dX3_miles_2 : decode cX3_miles 2 = .ok (.putfield 40, 3) := by decide +kernel
theorem dX3_miles_5 : decode cX3_miles 5 = .ok (.iload_n 1, 1) := by decide +kernel
theorem dX3_miles_6 : decode cX3_miles 6 = .ok (.invokestatic 94, 3) := by decide +kernel
theorem dX3_miles_9 : decode cX3_miles 9 = .ok (.ifCond .ne 9, 3) := by decide +kernel
theorem dX3_miles_12 : decode cX3_miles 12 = .ok (.aload_n 0, 1) := by decide +kernel
theorem dX3_miles_13 : decode cX3_miles 13 = .ok (.iconst 1, 1) := by decide +kernel
theorem dX3_miles_14 : decode cX3_miles 14 = .ok (.invokevirtual 98, 3) := by decide +kernel
theorem dX3_miles_17 : decode cX3_miles 17 = .ok (.ireturn, 1) := by decide +kernel
theorem dX3_miles_18 : decode cX3_miles 18 = .ok (.iload_n 2, 1) := by decide +kernel
theorem dX3_miles_19 : decode cX3_miles 19 = .ok (.invokestatic 101, 3) := by decide +kernel
theorem dX3_miles_22 : decode cX3_miles 22 = .ok (.ifCond .ne 9, 3) := by decide +kernel
theorem dX3_miles_25 : decode cX3_miles 25 = .ok (.aload_n 0, 1) := by decide +kernel
theorem dX3_miles_26 : decode cX3_miles 26 = .ok (.iconst 2, 1) := by decide +kernel
theorem dX3_miles_27 : decode cX3_miles 27 = .ok (.invokevirtual 98, 3) := by decide +kernel
theorem dX3_miles_30 : decode cX3_miles 30 = .ok (.ireturn, 1) := by decide +kernel
theorem dX3_miles_31 : decode cX3_miles 31 = .ok (.aload_n 0, 1) := by decide +kernel
theorem dX3_miles_32 : decode cX3_miles 32 = .ok (.iload_n 1, 1) := by decide +kernel
theorem dX3_miles_33 : decode cX3_miles 33 = .ok (.iload_n 2, 1) := by decide +kernel
theorem dX3_miles_34 : decode cX3_miles 34 = .ok (.invokevirtual 65, 3) := by decide +kernel
theorem dX3_miles_37 : decode cX3_miles 37 = .ok (.ifCond .eq 22, 3) := by decide +kernel
theorem dX3_miles_40 : decode cX3_miles 40 = .ok (.aload_n 0, 1) := by decide +kernel
theorem dX3_miles_41 : decode cX3_miles 41 = .ok (.getfield 16, 3) := by decide +kernel
theorem dX3_miles_44 : decode cX3_miles 44 = .ok (.bipush 24, 2) := by decide +kernel
theorem dX3_miles_46 : decode cX3_miles 46 = .ok (.iload_n 1, 1) := by decide +kernel
theorem dX3_miles_47 : decode cX3_miles 47 = .ok (.imul, 1) := by decide +kernel
theorem dX3_miles_48 : decode cX3_miles 48 = .ok (.aload_n 0, 1) := by decide +kernel
theorem dX3_miles_49 : decode cX3_miles 49 = .ok (.iload_n 1, 1) := by decide +kernel
theorem dX3_miles_50 : decode cX3_miles 50 = .ok (.iload_n 2, 1) := by decide +kernel
theorem dX3_miles_51 : decode cX3_miles 51 = .ok (.invokevirtual 55, 3) := by decide +kernel
theorem dX3_miles_54 : decode cX3_miles 54 = .ok (.iadd, 1) := by decide +kernel
theorem dX3_miles_55 : decode cX3_miles 55 = .ok (.iaload, 1) := by decide +kernel
theorem dX3_miles_56 : decode cX3_miles 56 = .ok (.goto 4, 3) := by decide +kernel
theorem dX3_miles_59 : decode cX3_miles 59 = .ok (.iconst (-1), 1) := by decide +kernel
theorem dX3_miles_60 : decode cX3_miles 60 = .ok (.ireturn, 1) := by decide +kernel
theorem dX3_counted_0 : decode cX3_counted 0 = .ok (.aload_n 0, 1) := by decide +kernel
theorem dX3_counted_1 : decode cX3_counted 1 = .ok (.iload_n 1, 1) := by decide +kernel
theorem dX3_counted_2 : decode cX3_counted 2 = .ok (.invokevirtual 118, 3) := by decide +kernel
theorem dX3_counted_5 : decode cX3_counted 5 = .ok (.iconst 0, 1) := by decide +kernel
theorem dX3_counted_6 : decode cX3_counted 6 = .ok (.istore_n 3, 1) := by decide +kernel
theorem dX3_counted_7 : decode cX3_counted 7 = .ok (.iload_n 2, 1) := by decide +kernel
theorem dX3_counted_8 : decode cX3_counted 8 = .ok (.tableswitch 103 0 5 #[40, 45, 56, 61, 66, 98], 40) := by decide +kernel
theorem dX3_counted_48 : decode cX3_counted 48 = .ok (.aload_n 0, 1) := by decide +kernel
theorem dX3_counted_49 : decode cX3_counted 49 = .ok (.getfield 79, 3) := by decide +kernel
theorem dX3_counted_52 : decode cX3_counted 52 = .ok (.ireturn, 1) := by decide +kernel
theorem dX3_counted_53 : decode cX3_counted 53 = .ok (.iconst 0, 1) := by decide +kernel
theorem dX3_counted_54 : decode cX3_counted 54 = .ok (.aload_n 0, 1) := by decide +kernel
theorem dX3_counted_55 : decode cX3_counted 55 = .ok (.getfield 79, 3) := by decide +kernel
theorem dX3_counted_58 : decode cX3_counted 58 = .ok (.iconst 1, 1) := by decide +kernel
theorem dX3_counted_59 : decode cX3_counted 59 = .ok (.isub, 1) := by decide +kernel
theorem dX3_counted_60 : decode cX3_counted 60 = .ok (.invokestatic 91, 3) := by decide +kernel
theorem dX3_counted_63 : decode cX3_counted 63 = .ok (.ireturn, 1) := by decide +kernel
theorem dX3_counted_64 : decode cX3_counted 64 = .ok (.aload_n 0, 1) := by decide +kernel
theorem dX3_counted_65 : decode cX3_counted 65 = .ok (.invokevirtual 122, 3) := by decide +kernel
theorem dX3_counted_68 : decode cX3_counted 68 = .ok (.ireturn, 1) := by decide +kernel
theorem dX3_counted_69 : decode cX3_counted 69 = .ok (.aload_n 0, 1) := by decide +kernel
theorem dX3_counted_70 : decode cX3_counted 70 = .ok (.invokevirtual 125, 3) := by decide +kernel
theorem dX3_counted_73 : decode cX3_counted 73 = .ok (.ireturn, 1) := by decide +kernel
theorem dX3_counted_74 : decode cX3_counted 74 = .ok (.aload_n 0, 1) := by decide +kernel
theorem dX3_counted_75 : decode cX3_counted 75 = .ok (.getfield 79, 3) := by decide +kernel
theorem dX3_counted_78 : decode cX3_counted 78 = .ok (.ifCond .ne 7, 3) := by decide +kernel
theorem dX3_counted_81 : decode cX3_counted 81 = .ok (.iconst 0, 1) := by decide +kernel
theorem dX3_counted_82 : decode cX3_counted 82 = .ok (.goto 23, 3) := by decide +kernel
theorem dX3_counted_85 : decode cX3_counted 85 = .ok (.aload_n 0, 1) := by decide +kernel
theorem dX3_counted_86 : decode cX3_counted 86 = .ok (.getfield 19, 3) := by decide +kernel
theorem dX3_counted_89 : decode cX3_counted 89 = .ok (.iconst 0, 1) := by decide +kernel
theorem dX3_counted_90 : decode cX3_counted 90 = .ok (.iaload, 1) := by decide +kernel
theorem dX3_counted_91 : decode cX3_counted 91 = .ok (.aload_n 0, 1) := by decide +kernel
theorem dX3_counted_92 : decode cX3_counted 92 = .ok (.getfield 19, 3) := by decide +kernel
theorem dX3_counted_95 : decode cX3_counted 95 = .ok (.aload_n 0, 1) := by decide +kernel
theorem dX3_counted_96 : decode cX3_counted 96 = .ok (.getfield 79, 3) := by decide +kernel
theorem dX3_counted_99 : decode cX3_counted 99 = .ok (.iconst 1, 1) := by decide +kernel
theorem dX3_counted_100 : decode cX3_counted 100 = .ok (.isub, 1) := by decide +kernel
theorem dX3_counted_101 : decode cX3_counted 101 = .ok (.iaload, 1) := by decide +kernel
theorem dX3_counted_102 : decode cX3_counted 102 = .ok (.invokestatic 128, 3) := by decide +kernel
theorem dX3_counted_105 : decode cX3_counted 105 = .ok (.ireturn, 1) := by decide +kernel
theorem dX3_counted_106 : decode cX3_counted 106 = .ok (.aload_n 0, 1) := by decide +kernel
theorem dX3_counted_107 : decode cX3_counted 107 = .ok (.invokevirtual 131, 3) := by decide +kernel
theorem dX3_counted_110 : decode cX3_counted 110 = .ok (.ireturn, 1) := by decide +kernel
theorem dX3_counted_111 : decode cX3_counted 111 = .ok (.iconst 0, 1) := by decide +kernel
theorem dX3_counted_112 : decode cX3_counted 112 = .ok (.istore 4, 2) := by decide +kernel
theorem dX3_counted_114 : decode cX3_counted 114 = .ok (.iload 4, 2) := by decide +kernel
theorem dX3_counted_116 : decode cX3_counted 116 = .ok (.aload_n 0, 1) := by decide +kernel
theorem dX3_counted_117 : decode cX3_counted 117 = .ok (.getfield 79, 3) := by decide +kernel
theorem dX3_counted_120 : decode cX3_counted 120 = .ok (.if_icmp .ge 24, 3) := by decide +kernel
theorem dX3_counted_123 : decode cX3_counted 123 = .ok (.iload_n 3, 1) := by decide +kernel
theorem dX3_counted_124 : decode cX3_counted 124 = .ok (.aload_n 0, 1) := by decide +kernel
theorem dX3_counted_125 : decode cX3_counted 125 = .ok (.getfield 16, 3) := by decide +kernel
theorem dX3_counted_128 : decode cX3_counted 128 = .ok (.bipush 24, 2) := by decide +kernel
theorem dX3_counted_130 : decode cX3_counted 130 = .ok (.iload_n 1, 1) := by decide +kernel
theorem dX3_counted_131 : decode cX3_counted 131 = .ok (.imul, 1) := by decide +kernel
theorem dX3_counted_132 : decode cX3_counted 132 = .ok (.iload 4, 2) := by decide +kernel
theorem dX3_counted_134 : decode cX3_counted 134 = .ok (.iadd, 1) := by decide +kernel
theorem dX3_counted_135 : decode cX3_counted 135 = .ok (.iaload, 1) := by decide +kernel
theorem dX3_counted_136 : decode cX3_counted 136 = .ok (.iadd, 1) := by decide +kernel
theorem dX3_counted_137 : decode cX3_counted 137 = .ok (.istore_n 3, 1) := by decide +kernel
theorem dX3_counted_138 : decode cX3_counted 138 = .ok (.iinc 4 1, 3) := by decide +kernel
theorem dX3_counted_141 : decode cX3_counted 141 = .ok (.goto (-27), 3) := by decide +kernel
theorem dX3_counted_144 : decode cX3_counted 144 = .ok (.iload_n 3, 1) := by decide +kernel
theorem dX3_counted_145 : decode cX3_counted 145 = .ok (.ireturn, 1) := by decide +kernel
theorem dX3_count_0 : decode cX3_count 0 = .ok (.aload_n 0, 1) := by decide +kernel
theorem dX3_count_1 : decode cX3_count 1 = .ok (.iconst 0, 1) := by decide +kernel
theorem dX3_count_2 : decode cX3_count 2 = .ok (.putfield 40, 3) := by decide +kernel
theorem dX3_count_5 : decode cX3_count 5 = .ok (.iload_n 1, 1) := by decide +kernel
theorem dX3_count_6 : decode cX3_count 6 = .ok (.invokestatic 94, 3) := by decide +kernel
theorem dX3_count_9 : decode cX3_count 9 = .ok (.ifCond .eq 22, 3) := by decide +kernel
theorem dX3_count_12 : decode cX3_count 12 = .ok (.iload_n 2, 1) := by decide +kernel
theorem dX3_count_13 : decode cX3_count 13 = .ok (.iconst 0, 1) := by decide +kernel
theorem dX3_count_14 : decode cX3_count 14 = .ok (.bipush 6, 2) := by decide +kernel
theorem dX3_count_16 : decode cX3_count 16 = .ok (.invokestatic 44, 3) := by decide +kernel
theorem dX3_count_19 : decode cX3_count 19 = .ok (.ifCond .eq 12, 3) := by decide +kernel
theorem dX3_count_22 : decode cX3_count 22 = .ok (.aload_n 0, 1) := by decide +kernel
theorem dX3_count_23 : decode cX3_count 23 = .ok (.iload_n 1, 1) := by decide +kernel
theorem dX3_count_24 : decode cX3_count 24 = .ok (.iload_n 2, 1) := by decide +kernel
theorem dX3_count_25 : decode cX3_count 25 = .ok (.invokevirtual 134, 3) := by decide +kernel
theorem dX3_count_28 : decode cX3_count 28 = .ok (.goto 8, 3) := by decide +kernel
theorem dX3_count_31 : decode cX3_count 31 = .ok (.aload_n 0, 1) := by decide +kernel
theorem dX3_count_32 : decode cX3_count 32 = .ok (.iconst 1, 1) := by decide +kernel
theorem dX3_count_33 : decode cX3_count 33 = .ok (.invokevirtual 98, 3) := by decide +kernel
theorem dX3_count_36 : decode cX3_count 36 = .ok (.ireturn, 1) := by decide +kernel
theorem dX3_signTold_0 : decode cX3_signTold 0 = .ok (.iload_n 2, 1) := by decide +kernel
theorem dX3_signTold_1 : decode cX3_signTold 1 = .ok (.tableswitch 100 0 5 #[39, 46, 60, 72, 86, 93], 39) := by decide +kernel
theorem dX3_signTold_40 : decode cX3_signTold 40 = .ok (.aload_n 0, 1) := by decide +kernel
theorem dX3_signTold_41 : decode cX3_signTold 41 = .ok (.getfield 22, 3) := by decide +kernel
theorem dX3_signTold_44 : decode cX3_signTold 44 = .ok (.iload_n 1, 1) := by decide +kernel
theorem dX3_signTold_45 : decode cX3_signTold 45 = .ok (.iaload, 1) := by decide +kernel
theorem dX3_signTold_46 : decode cX3_signTold 46 = .ok (.ireturn, 1) := by decide +kernel
theorem dX3_signTold_47 : decode cX3_signTold 47 = .ok (.aload_n 0, 1) := by decide +kernel
theorem dX3_signTold_48 : decode cX3_signTold 48 = .ok (.getfield 28, 3) := by decide +kernel
theorem dX3_signTold_51 : decode cX3_signTold 51 = .ok (.iload_n 1, 1) := by decide +kernel
theorem dX3_signTold_52 : decode cX3_signTold 52 = .ok (.iaload, 1) := by decide +kernel
theorem dX3_signTold_53 : decode cX3_signTold 53 = .ok (.aload_n 0, 1) := by decide +kernel
theorem dX3_signTold_54 : decode cX3_signTold 54 = .ok (.getfield 25, 3) := by decide +kernel
theorem dX3_signTold_57 : decode cX3_signTold 57 = .ok (.iload_n 1, 1) := by decide +kernel
theorem dX3_signTold_58 : decode cX3_signTold 58 = .ok (.iaload, 1) := by decide +kernel
theorem dX3_signTold_59 : decode cX3_signTold 59 = .ok (.isub, 1) := by decide +kernel
theorem dX3_signTold_60 : decode cX3_signTold 60 = .ok (.ireturn, 1) := by decide +kernel
theorem dX3_signTold_61 : decode cX3_signTold 61 = .ok (.aload_n 0, 1) := by decide +kernel
theorem dX3_signTold_62 : decode cX3_signTold 62 = .ok (.getfield 19, 3) := by decide +kernel
theorem dX3_signTold_65 : decode cX3_signTold 65 = .ok (.aload_n 0, 1) := by decide +kernel
theorem dX3_signTold_66 : decode cX3_signTold 66 = .ok (.getfield 25, 3) := by decide +kernel
theorem dX3_signTold_69 : decode cX3_signTold 69 = .ok (.iload_n 1, 1) := by decide +kernel
theorem dX3_signTold_70 : decode cX3_signTold 70 = .ok (.iaload, 1) := by decide +kernel
theorem dX3_signTold_71 : decode cX3_signTold 71 = .ok (.iaload, 1) := by decide +kernel
theorem dX3_signTold_72 : decode cX3_signTold 72 = .ok (.ireturn, 1) := by decide +kernel
theorem dX3_signTold_73 : decode cX3_signTold 73 = .ok (.aload_n 0, 1) := by decide +kernel
theorem dX3_signTold_74 : decode cX3_signTold 74 = .ok (.getfield 19, 3) := by decide +kernel
theorem dX3_signTold_77 : decode cX3_signTold 77 = .ok (.aload_n 0, 1) := by decide +kernel
theorem dX3_signTold_78 : decode cX3_signTold 78 = .ok (.getfield 28, 3) := by decide +kernel
theorem dX3_signTold_81 : decode cX3_signTold 81 = .ok (.iload_n 1, 1) := by decide +kernel
theorem dX3_signTold_82 : decode cX3_signTold 82 = .ok (.iaload, 1) := by decide +kernel
theorem dX3_signTold_83 : decode cX3_signTold 83 = .ok (.iconst 1, 1) := by decide +kernel
theorem dX3_signTold_84 : decode cX3_signTold 84 = .ok (.isub, 1) := by decide +kernel
theorem dX3_signTold_85 : decode cX3_signTold 85 = .ok (.iaload, 1) := by decide +kernel
theorem dX3_signTold_86 : decode cX3_signTold 86 = .ok (.ireturn, 1) := by decide +kernel
theorem dX3_signTold_87 : decode cX3_signTold 87 = .ok (.aload_n 0, 1) := by decide +kernel
theorem dX3_signTold_88 : decode cX3_signTold 88 = .ok (.getfield 31, 3) := by decide +kernel
theorem dX3_signTold_91 : decode cX3_signTold 91 = .ok (.iload_n 1, 1) := by decide +kernel
theorem dX3_signTold_92 : decode cX3_signTold 92 = .ok (.iaload, 1) := by decide +kernel
theorem dX3_signTold_93 : decode cX3_signTold 93 = .ok (.ireturn, 1) := by decide +kernel
theorem dX3_signTold_94 : decode cX3_signTold 94 = .ok (.aload_n 0, 1) := by decide +kernel
theorem dX3_signTold_95 : decode cX3_signTold 95 = .ok (.getfield 34, 3) := by decide +kernel
theorem dX3_signTold_98 : decode cX3_signTold 98 = .ok (.iload_n 1, 1) := by decide +kernel
theorem dX3_signTold_99 : decode cX3_signTold 99 = .ok (.iaload, 1) := by decide +kernel
theorem dX3_signTold_100 : decode cX3_signTold 100 = .ok (.ireturn, 1) := by decide +kernel
theorem dX3_signTold_101 : decode cX3_signTold 101 = .ok (.aload_n 0, 1) := by decide +kernel
theorem dX3_signTold_102 : decode cX3_signTold 102 = .ok (.getfield 37, 3) := by decide +kernel
theorem dX3_signTold_105 : decode cX3_signTold 105 = .ok (.iload_n 1, 1) := by decide +kernel
theorem dX3_signTold_106 : decode cX3_signTold 106 = .ok (.iaload, 1) := by decide +kernel
theorem dX3_signTold_107 : decode cX3_signTold 107 = .ok (.ireturn, 1) := by decide +kernel
theorem dX3_sign_0 : decode cX3_sign 0 = .ok (.aload_n 0, 1) := by decide +kernel
theorem dX3_sign_1 : decode cX3_sign 1 = .ok (.iconst 0, 1) := by decide +kernel
theorem dX3_sign_2 : decode cX3_sign 2 = .ok (.putfield 40, 3) := by decide +kernel
theorem dX3_sign_5 : decode cX3_sign 5 = .ok (.iload_n 1, 1) := by decide +kernel
theorem dX3_sign_6 : decode cX3_sign 6 = .ok (.invokestatic 94, 3) := by decide +kernel
theorem dX3_sign_9 : decode cX3_sign 9 = .ok (.ifCond .eq 13, 3) := by decide +kernel
theorem dX3_sign_12 : decode cX3_sign 12 = .ok (.iload_n 3, 1) := by decide +kernel
theorem dX3_sign_13 : decode cX3_sign 13 = .ok (.iconst 0, 1) := by decide +kernel
theorem dX3_sign_14 : decode cX3_sign 14 = .ok (.bipush 6, 2) := by decide +kernel
theorem dX3_sign_16 : decode cX3_sign 16 = .ok (.invokestatic 44, 3) := by decide +kernel
theorem dX3_sign_19 : decode cX3_sign 19 = .ok (.ifCond .ne 9, 3) := by decide +kernel
theorem dX3_sign_22 : decode cX3_sign 22 = .ok (.aload_n 0, 1) := by decide +kernel
theorem dX3_sign_23 : decode cX3_sign 23 = .ok (.iconst 1, 1) := by decide +kernel
theorem dX3_sign_24 : decode cX3_sign 24 = .ok (.invokevirtual 98, 3) := by decide +kernel
theorem dX3_sign_27 : decode cX3_sign 27 = .ok (.ireturn, 1) := by decide +kernel
theorem dX3_sign_28 : decode cX3_sign 28 = .ok (.aload_n 0, 1) := by decide +kernel
theorem dX3_sign_29 : decode cX3_sign 29 = .ok (.iload_n 1, 1) := by decide +kernel
theorem dX3_sign_30 : decode cX3_sign 30 = .ok (.invokevirtual 118, 3) := by decide +kernel
theorem dX3_sign_33 : decode cX3_sign 33 = .ok (.iload_n 2, 1) := by decide +kernel
theorem dX3_sign_34 : decode cX3_sign 34 = .ok (.iconst 0, 1) := by decide +kernel
theorem dX3_sign_35 : decode cX3_sign 35 = .ok (.aload_n 0, 1) := by decide +kernel
theorem dX3_sign_36 : decode cX3_sign 36 = .ok (.getfield 69, 3) := by decide +kernel
theorem dX3_sign_39 : decode cX3_sign 39 = .ok (.iconst 1, 1) := by decide +kernel
theorem dX3_sign_40 : decode cX3_sign 40 = .ok (.isub, 1) := by decide +kernel
theorem dX3_sign_41 : decode cX3_sign 41 = .ok (.invokestatic 44, 3) := by decide +kernel
theorem dX3_sign_44 : decode cX3_sign 44 = .ok (.ifCond .eq 12, 3) := by decide +kernel
theorem dX3_sign_47 : decode cX3_sign 47 = .ok (.aload_n 0, 1) := by decide +kernel
theorem dX3_sign_48 : decode cX3_sign 48 = .ok (.iload_n 2, 1) := by decide +kernel
theorem dX3_sign_49 : decode cX3_sign 49 = .ok (.iload_n 3, 1) := by decide +kernel
theorem dX3_sign_50 : decode cX3_sign 50 = .ok (.invokevirtual 137, 3) := by decide +kernel
theorem dX3_sign_53 : decode cX3_sign 53 = .ok (.goto 8, 3) := by decide +kernel
theorem dX3_sign_56 : decode cX3_sign 56 = .ok (.aload_n 0, 1) := by decide +kernel
theorem dX3_sign_57 : decode cX3_sign 57 = .ok (.iconst 1, 1) := by decide +kernel
theorem dX3_sign_58 : decode cX3_sign 58 = .ok (.invokevirtual 98, 3) := by decide +kernel
theorem dX3_sign_61 : decode cX3_sign 61 = .ok (.ireturn, 1) := by decide +kernel
theorem dX3_walk_0 : decode cX3_walk 0 = .ok (.aload_n 0, 1) := by decide +kernel
theorem dX3_walk_1 : decode cX3_walk 1 = .ok (.iconst 0, 1) := by decide +kernel
theorem dX3_walk_2 : decode cX3_walk 2 = .ok (.putfield 40, 3) := by decide +kernel
theorem dX3_walk_5 : decode cX3_walk 5 = .ok (.iload_n 1, 1) := by decide +kernel
theorem dX3_walk_6 : decode cX3_walk 6 = .ok (.invokestatic 94, 3) := by decide +kernel
theorem dX3_walk_9 : decode cX3_walk 9 = .ok (.ifCond .eq 12, 3) := by decide +kernel
theorem dX3_walk_12 : decode cX3_walk 12 = .ok (.iload_n 3, 1) := by decide +kernel
theorem dX3_walk_13 : decode cX3_walk 13 = .ok (.iconst 0, 1) := by decide +kernel
theorem dX3_walk_14 : decode cX3_walk 14 = .ok (.iconst 2, 1) := by decide +kernel
theorem dX3_walk_15 : decode cX3_walk 15 = .ok (.invokestatic 44, 3) := by decide +kernel
theorem dX3_walk_18 : decode cX3_walk 18 = .ok (.ifCond .ne 9, 3) := by decide +kernel
theorem dX3_walk_21 : decode cX3_walk 21 = .ok (.aload_n 0, 1) := by decide +kernel
theorem dX3_walk_22 : decode cX3_walk 22 = .ok (.iconst 1, 1) := by decide +kernel
theorem dX3_walk_23 : decode cX3_walk 23 = .ok (.invokevirtual 98, 3) := by decide +kernel
theorem dX3_walk_26 : decode cX3_walk 26 = .ok (.ireturn, 1) := by decide +kernel
theorem dX3_walk_27 : decode cX3_walk 27 = .ok (.iload_n 2, 1) := by decide +kernel
theorem dX3_walk_28 : decode cX3_walk 28 = .ok (.invokestatic 101, 3) := by decide +kernel
theorem dX3_walk_31 : decode cX3_walk 31 = .ok (.ifCond .ne 9, 3) := by decide +kernel
theorem dX3_walk_34 : decode cX3_walk 34 = .ok (.aload_n 0, 1) := by decide +kernel
theorem dX3_walk_35 : decode cX3_walk 35 = .ok (.iconst 2, 1) := by decide +kernel
theorem dX3_walk_36 : decode cX3_walk 36 = .ok (.invokevirtual 98, 3) := by decide +kernel
theorem dX3_walk_39 : decode cX3_walk 39 = .ok (.ireturn, 1) := by decide +kernel
theorem dX3_walk_40 : decode cX3_walk 40 = .ok (.aload_n 0, 1) := by decide +kernel
theorem dX3_walk_41 : decode cX3_walk 41 = .ok (.getfield 9, 3) := by decide +kernel
theorem dX3_walk_44 : decode cX3_walk 44 = .ok (.iload_n 1, 1) := by decide +kernel
theorem dX3_walk_45 : decode cX3_walk 45 = .ok (.iaload, 1) := by decide +kernel
theorem dX3_walk_46 : decode cX3_walk 46 = .ok (.ifCond .ne 9, 3) := by decide +kernel
theorem dX3_walk_49 : decode cX3_walk 49 = .ok (.aload_n 0, 1) := by decide +kernel
theorem dX3_walk_50 : decode cX3_walk 50 = .ok (.iconst 3, 1) := by decide +kernel
theorem dX3_walk_51 : decode cX3_walk 51 = .ok (.invokevirtual 98, 3) := by decide +kernel
theorem dX3_walk_54 : decode cX3_walk 54 = .ok (.ireturn, 1) := by decide +kernel
theorem dX3_walk_55 : decode cX3_walk 55 = .ok (.aload_n 0, 1) := by decide +kernel
theorem dX3_walk_56 : decode cX3_walk 56 = .ok (.iload_n 1, 1) := by decide +kernel
theorem dX3_walk_57 : decode cX3_walk 57 = .ok (.invokevirtual 118, 3) := by decide +kernel
theorem dX3_walk_60 : decode cX3_walk 60 = .ok (.aload_n 0, 1) := by decide +kernel
theorem dX3_walk_61 : decode cX3_walk 61 = .ok (.iload_n 2, 1) := by decide +kernel
theorem dX3_walk_62 : decode cX3_walk 62 = .ok (.invokevirtual 140, 3) := by decide +kernel
theorem dX3_walk_65 : decode cX3_walk 65 = .ok (.istore 4, 2) := by decide +kernel
theorem dX3_walk_67 : decode cX3_walk 67 = .ok (.aload_n 0, 1) := by decide +kernel
theorem dX3_walk_68 : decode cX3_walk 68 = .ok (.getfield 19, 3) := by decide +kernel
theorem dX3_walk_71 : decode cX3_walk 71 = .ok (.aload_n 0, 1) := by decide +kernel
theorem dX3_walk_72 : decode cX3_walk 72 = .ok (.getfield 25, 3) := by decide +kernel
theorem dX3_walk_75 : decode cX3_walk 75 = .ok (.iload 4, 2) := by decide +kernel
theorem dX3_walk_77 : decode cX3_walk 77 = .ok (.iaload, 1) := by decide +kernel
theorem dX3_walk_78 : decode cX3_walk 78 = .ok (.iaload, 1) := by decide +kernel
theorem dX3_walk_79 : decode cX3_walk 79 = .ok (.istore 5, 2) := by decide +kernel
theorem dX3_walk_81 : decode cX3_walk 81 = .ok (.iload_n 3, 1) := by decide +kernel
theorem dX3_walk_82 : decode cX3_walk 82 = .ok (.ifCond .ne 13, 3) := by decide +kernel
theorem dX3_walk_85 : decode cX3_walk 85 = .ok (.aload_n 0, 1) := by decide +kernel
theorem dX3_walk_86 : decode cX3_walk 86 = .ok (.getfield 37, 3) := by decide +kernel
theorem dX3_walk_89 : decode cX3_walk 89 = .ok (.iload 4, 2) := by decide +kernel
theorem dX3_walk_91 : decode cX3_walk 91 = .ok (.iaload, 1) := by decide +kernel
theorem dX3_walk_92 : decode cX3_walk 92 = .ok (.goto 20, 3) := by decide +kernel
theorem dX3_walk_95 : decode cX3_walk 95 = .ok (.iload_n 3, 1) := by decide +kernel
theorem dX3_walk_96 : decode cX3_walk 96 = .ok (.iconst 1, 1) := by decide +kernel
theorem dX3_walk_97 : decode cX3_walk 97 = .ok (.if_icmp .ne 8, 3) := by decide +kernel
theorem dX3_walk_100 : decode cX3_walk 100 = .ok (.iload 5, 2) := by decide +kernel
theorem dX3_walk_102 : decode cX3_walk 102 = .ok (.goto 10, 3) := by decide +kernel
theorem dX3_walk_105 : decode cX3_walk 105 = .ok (.iload 5, 2) := by decide +kernel
theorem dX3_walk_107 : decode cX3_walk 107 = .ok (.iload_n 2, 1) := by decide +kernel
theorem dX3_walk_108 : decode cX3_walk 108 = .ok (.ixor, 1) := by decide +kernel
theorem dX3_walk_109 : decode cX3_walk 109 = .ok (.invokestatic 72, 3) := by decide +kernel
theorem dX3_walk_112 : decode cX3_walk 112 = .ok (.ireturn, 1) := by decide +kernel
theorem dX3_step_0 : decode cX3_step 0 = .ok (.aload_n 0, 1) := by decide +kernel
theorem dX3_step_1 : decode cX3_step 1 = .ok (.iconst 0, 1) := by decide +kernel
theorem dX3_step_2 : decode cX3_step 2 = .ok (.putfield 40, 3) := by decide +kernel
theorem dX3_step_5 : decode cX3_step 5 = .ok (.iload_n 1, 1) := by decide +kernel
theorem dX3_step_6 : decode cX3_step 6 = .ok (.invokestatic 94, 3) := by decide +kernel
theorem dX3_step_9 : decode cX3_step 9 = .ok (.ifCond .ne 9, 3) := by decide +kernel
theorem dX3_step_12 : decode cX3_step 12 = .ok (.aload_n 0, 1) := by decide +kernel
theorem dX3_step_13 : decode cX3_step 13 = .ok (.iconst 1, 1) := by decide +kernel
theorem dX3_step_14 : decode cX3_step 14 = .ok (.invokevirtual 98, 3) := by decide +kernel
theorem dX3_step_17 : decode cX3_step 17 = .ok (.ireturn, 1) := by decide +kernel
theorem dX3_step_18 : decode cX3_step 18 = .ok (.iload_n 2, 1) := by decide +kernel
theorem dX3_step_19 : decode cX3_step 19 = .ok (.invokestatic 101, 3) := by decide +kernel
theorem dX3_step_22 : decode cX3_step 22 = .ok (.ifCond .ne 9, 3) := by decide +kernel
theorem dX3_step_25 : decode cX3_step 25 = .ok (.aload_n 0, 1) := by decide +kernel
theorem dX3_step_26 : decode cX3_step 26 = .ok (.iconst 2, 1) := by decide +kernel
theorem dX3_step_27 : decode cX3_step 27 = .ok (.invokevirtual 98, 3) := by decide +kernel
theorem dX3_step_30 : decode cX3_step 30 = .ok (.ireturn, 1) := by decide +kernel
theorem dX3_step_31 : decode cX3_step 31 = .ok (.iload_n 3, 1) := by decide +kernel
theorem dX3_step_32 : decode cX3_step 32 = .ok (.ifCond .eq 14, 3) := by decide +kernel
theorem dX3_step_35 : decode cX3_step 35 = .ok (.aload_n 0, 1) := by decide +kernel
theorem dX3_step_36 : decode cX3_step 36 = .ok (.iload_n 1, 1) := by decide +kernel
theorem dX3_step_37 : decode cX3_step 37 = .ok (.iload_n 2, 1) := by decide +kernel
theorem dX3_step_38 : decode cX3_step 38 = .ok (.iconst 1, 1) := by decide +kernel
theorem dX3_step_39 : decode cX3_step 39 = .ok (.iadd, 1) := by decide +kernel
theorem dX3_step_40 : decode cX3_step 40 = .ok (.invokevirtual 55, 3) := by decide +kernel
theorem dX3_step_43 : decode cX3_step 43 = .ok (.goto 11, 3) := by decide +kernel
theorem dX3_step_46 : decode cX3_step 46 = .ok (.aload_n 0, 1) := by decide +kernel
theorem dX3_step_47 : decode cX3_step 47 = .ok (.iload_n 1, 1) := by decide +kernel
theorem dX3_step_48 : decode cX3_step 48 = .ok (.iload_n 2, 1) := by decide +kernel
theorem dX3_step_49 : decode cX3_step 49 = .ok (.invokevirtual 55, 3) := by decide +kernel
theorem dX3_step_52 : decode cX3_step 52 = .ok (.iconst 1, 1) := by decide +kernel
theorem dX3_step_53 : decode cX3_step 53 = .ok (.isub, 1) := by decide +kernel
theorem dX3_step_54 : decode cX3_step 54 = .ok (.istore 4, 2) := by decide +kernel
theorem dX3_step_56 : decode cX3_step 56 = .ok (.iload 4, 2) := by decide +kernel
theorem dX3_step_58 : decode cX3_step 58 = .ok (.iconst 0, 1) := by decide +kernel
theorem dX3_step_59 : decode cX3_step 59 = .ok (.aload_n 0, 1) := by decide +kernel
theorem dX3_step_60 : decode cX3_step 60 = .ok (.getfield 9, 3) := by decide +kernel
theorem dX3_step_63 : decode cX3_step 63 = .ok (.iload_n 1, 1) := by decide +kernel
theorem dX3_step_64 : decode cX3_step 64 = .ok (.iaload, 1) := by decide +kernel
theorem dX3_step_65 : decode cX3_step 65 = .ok (.iconst 1, 1) := by decide +kernel
theorem dX3_step_66 : decode cX3_step 66 = .ok (.isub, 1) := by decide +kernel
theorem dX3_step_67 : decode cX3_step 67 = .ok (.invokestatic 44, 3) := by decide +kernel
theorem dX3_step_70 : decode cX3_step 70 = .ok (.ifCond .eq 18, 3) := by decide +kernel
theorem dX3_step_73 : decode cX3_step 73 = .ok (.aload_n 0, 1) := by decide +kernel
theorem dX3_step_74 : decode cX3_step 74 = .ok (.getfield 13, 3) := by decide +kernel
theorem dX3_step_77 : decode cX3_step 77 = .ok (.bipush 24, 2) := by decide +kernel
theorem dX3_step_79 : decode cX3_step 79 = .ok (.iload_n 1, 1) := by decide +kernel
theorem dX3_step_80 : decode cX3_step 80 = .ok (.imul, 1) := by decide +kernel
theorem dX3_step_81 : decode cX3_step 81 = .ok (.iload 4, 2) := by decide +kernel
theorem dX3_step_83 : decode cX3_step 83 = .ok (.iadd, 1) := by decide +kernel
theorem dX3_step_84 : decode cX3_step 84 = .ok (.iaload, 1) := by decide +kernel
theorem dX3_step_85 : decode cX3_step 85 = .ok (.goto 4, 3) := by decide +kernel
theorem dX3_step_88 : decode cX3_step 88 = .ok (.iconst (-1), 1) := by decide +kernel
theorem dX3_step_89 : decode cX3_step 89 = .ok (.ireturn, 1) := by decide +kernel
theorem dX3_at_0 : decode cX3_at 0 = .ok (.aload_n 0, 1) := by decide +kernel
theorem dX3_at_1 : decode cX3_at 1 = .ok (.iconst 0, 1) := by decide +kernel
theorem dX3_at_2 : decode cX3_at 2 = .ok (.putfield 40, 3) := by decide +kernel
theorem dX3_at_5 : decode cX3_at 5 = .ok (.iload_n 1, 1) := by decide +kernel
theorem dX3_at_6 : decode cX3_at 6 = .ok (.invokestatic 94, 3) := by decide +kernel
theorem dX3_at_9 : decode cX3_at 9 = .ok (.ifCond .eq 33, 3) := by decide +kernel
theorem dX3_at_12 : decode cX3_at 12 = .ok (.iload_n 2, 1) := by decide +kernel
theorem dX3_at_13 : decode cX3_at 13 = .ok (.iconst 0, 1) := by decide +kernel
theorem dX3_at_14 : decode cX3_at 14 = .ok (.aload_n 0, 1) := by decide +kernel
theorem dX3_at_15 : decode cX3_at 15 = .ok (.getfield 9, 3) := by decide +kernel
theorem dX3_at_18 : decode cX3_at 18 = .ok (.iload_n 1, 1) := by decide +kernel
theorem dX3_at_19 : decode cX3_at 19 = .ok (.iaload, 1) := by decide +kernel
theorem dX3_at_20 : decode cX3_at 20 = .ok (.iconst 1, 1) := by decide +kernel
theorem dX3_at_21 : decode cX3_at 21 = .ok (.isub, 1) := by decide +kernel
theorem dX3_at_22 : decode cX3_at 22 = .ok (.invokestatic 44, 3) := by decide +kernel
theorem dX3_at_25 : decode cX3_at 25 = .ok (.ifCond .eq 17, 3) := by decide +kernel
theorem dX3_at_28 : decode cX3_at 28 = .ok (.aload_n 0, 1) := by decide +kernel
theorem dX3_at_29 : decode cX3_at 29 = .ok (.getfield 13, 3) := by decide +kernel
theorem dX3_at_32 : decode cX3_at 32 = .ok (.bipush 24, 2) := by decide +kernel
theorem dX3_at_34 : decode cX3_at 34 = .ok (.iload_n 1, 1) := by decide +kernel
theorem dX3_at_35 : decode cX3_at 35 = .ok (.imul, 1) := by decide +kernel
theorem dX3_at_36 : decode cX3_at 36 = .ok (.iload_n 2, 1) := by decide +kernel
theorem dX3_at_37 : decode cX3_at 37 = .ok (.iadd, 1) := by decide +kernel
theorem dX3_at_38 : decode cX3_at 38 = .ok (.iaload, 1) := by decide +kernel
theorem dX3_at_39 : decode cX3_at 39 = .ok (.goto 8, 3) := by decide +kernel
theorem dX3_at_42 : decode cX3_at 42 = .ok (.aload_n 0, 1) := by decide +kernel
theorem dX3_at_43 : decode cX3_at 43 = .ok (.iconst 1, 1) := by decide +kernel
theorem dX3_at_44 : decode cX3_at 44 = .ok (.invokevirtual 98, 3) := by decide +kernel
theorem dX3_at_47 : decode cX3_at 47 = .ok (.ireturn, 1) := by decide +kernel
theorem dX3_ranged_0 : decode cX3_ranged 0 = .ok (.iload 4, 2) := by decide +kernel
theorem dX3_ranged_2 : decode cX3_ranged 2 = .ok (.ifCond .ne 7, 3) := by decide +kernel
theorem dX3_ranged_5 : decode cX3_ranged 5 = .ok (.iload_n 3, 1) := by decide +kernel
theorem dX3_ranged_6 : decode cX3_ranged 6 = .ok (.iload_n 2, 1) := by decide +kernel
theorem dX3_ranged_7 : decode cX3_ranged 7 = .ok (.isub, 1) := by decide +kernel
theorem dX3_ranged_8 : decode cX3_ranged 8 = .ok (.ireturn, 1) := by decide +kernel
theorem dX3_ranged_9 : decode cX3_ranged 9 = .ok (.iload 4, 2) := by decide +kernel
theorem dX3_ranged_11 : decode cX3_ranged 11 = .ok (.iconst 2, 1) := by decide +kernel
theorem dX3_ranged_12 : decode cX3_ranged 12 = .ok (.if_icmp .ne 40, 3) := by decide +kernel
theorem dX3_ranged_15 : decode cX3_ranged 15 = .ok (.iload_n 2, 1) := by decide +kernel
theorem dX3_ranged_16 : decode cX3_ranged 16 = .ok (.iload_n 3, 1) := by decide +kernel
theorem dX3_ranged_17 : decode cX3_ranged 17 = .ok (.if_icmp .ne 7, 3) := by decide +kernel
theorem dX3_ranged_20 : decode cX3_ranged 20 = .ok (.iconst 0, 1) := by decide +kernel
theorem dX3_ranged_21 : decode cX3_ranged 21 = .ok (.goto 30, 3) := by decide +kernel
theorem dX3_ranged_24 : decode cX3_ranged 24 = .ok (.aload_n 0, 1) := by decide +kernel
theorem dX3_ranged_25 : decode cX3_ranged 25 = .ok (.getfield 13, 3) := by decide +kernel
theorem dX3_ranged_28 : decode cX3_ranged 28 = .ok (.bipush 24, 2) := by decide +kernel
theorem dX3_ranged_30 : decode cX3_ranged 30 = .ok (.iload_n 1, 1) := by decide +kernel
theorem dX3_ranged_31 : decode cX3_ranged 31 = .ok (.imul, 1) := by decide +kernel
theorem dX3_ranged_32 : decode cX3_ranged 32 = .ok (.iload_n 2, 1) := by decide +kernel
theorem dX3_ranged_33 : decode cX3_ranged 33 = .ok (.iadd, 1) := by decide +kernel
theorem dX3_ranged_34 : decode cX3_ranged 34 = .ok (.iaload, 1) := by decide +kernel
theorem dX3_ranged_35 : decode cX3_ranged 35 = .ok (.aload_n 0, 1) := by decide +kernel
theorem dX3_ranged_36 : decode cX3_ranged 36 = .ok (.getfield 13, 3) := by decide +kernel
theorem dX3_ranged_39 : decode cX3_ranged 39 = .ok (.bipush 24, 2) := by decide +kernel
theorem dX3_ranged_41 : decode cX3_ranged 41 = .ok (.iload_n 1, 1) := by decide +kernel
theorem dX3_ranged_42 : decode cX3_ranged 42 = .ok (.imul, 1) := by decide +kernel
theorem dX3_ranged_43 : decode cX3_ranged 43 = .ok (.iload_n 3, 1) := by decide +kernel
theorem dX3_ranged_44 : decode cX3_ranged 44 = .ok (.iadd, 1) := by decide +kernel
theorem dX3_ranged_45 : decode cX3_ranged 45 = .ok (.iconst 1, 1) := by decide +kernel
theorem dX3_ranged_46 : decode cX3_ranged 46 = .ok (.isub, 1) := by decide +kernel
theorem dX3_ranged_47 : decode cX3_ranged 47 = .ok (.iaload, 1) := by decide +kernel
theorem dX3_ranged_48 : decode cX3_ranged 48 = .ok (.invokestatic 128, 3) := by decide +kernel
theorem dX3_ranged_51 : decode cX3_ranged 51 = .ok (.ireturn, 1) := by decide +kernel
theorem dX3_ranged_52 : decode cX3_ranged 52 = .ok (.iconst 0, 1) := by decide +kernel
theorem dX3_ranged_53 : decode cX3_ranged 53 = .ok (.istore 5, 2) := by decide +kernel
theorem dX3_ranged_55 : decode cX3_ranged 55 = .ok (.iconst (-1), 1) := by decide +kernel
theorem dX3_ranged_56 : decode cX3_ranged 56 = .ok (.istore 6, 2) := by decide +kernel
theorem dX3_ranged_58 : decode cX3_ranged 58 = .ok (.iload_n 2, 1) := by decide +kernel
theorem dX3_ranged_59 : decode cX3_ranged 59 = .ok (.istore 7, 2) := by decide +kernel
theorem dX3_ranged_61 : decode cX3_ranged 61 = .ok (.iload 7, 2) := by decide +kernel
theorem dX3_ranged_63 : decode cX3_ranged 63 = .ok (.iload_n 3, 1) := by decide +kernel
theorem dX3_ranged_64 : decode cX3_ranged 64 = .ok (.if_icmp .ge 45, 3) := by decide +kernel
theorem dX3_ranged_67 : decode cX3_ranged 67 = .ok (.iload 5, 2) := by decide +kernel
theorem dX3_ranged_69 : decode cX3_ranged 69 = .ok (.aload_n 0, 1) := by decide +kernel
theorem dX3_ranged_70 : decode cX3_ranged 70 = .ok (.getfield 16, 3) := by decide +kernel
theorem dX3_ranged_73 : decode cX3_ranged 73 = .ok (.bipush 24, 2) := by decide +kernel
theorem dX3_ranged_75 : decode cX3_ranged 75 = .ok (.iload_n 1, 1) := by decide +kernel
theorem dX3_ranged_76 : decode cX3_ranged 76 = .ok (.imul, 1) := by decide +kernel
theorem dX3_ranged_77 : decode cX3_ranged 77 = .ok (.iload 7, 2) := by decide +kernel
theorem dX3_ranged_79 : decode cX3_ranged 79 = .ok (.iadd, 1) := by decide +kernel
theorem dX3_ranged_80 : decode cX3_ranged 80 = .ok (.iaload, 1) := by decide +kernel
theorem dX3_ranged_81 : decode cX3_ranged 81 = .ok (.iadd, 1) := by decide +kernel
theorem dX3_ranged_82 : decode cX3_ranged 82 = .ok (.istore 5, 2) := by decide +kernel
theorem dX3_ranged_84 : decode cX3_ranged 84 = .ok (.iload 6, 2) := by decide +kernel
theorem dX3_ranged_86 : decode cX3_ranged 86 = .ok (.aload_n 0, 1) := by decide +kernel
theorem dX3_ranged_87 : decode cX3_ranged 87 = .ok (.getfield 16, 3) := by decide +kernel
theorem dX3_ranged_90 : decode cX3_ranged 90 = .ok (.bipush 24, 2) := by decide +kernel
theorem dX3_ranged_92 : decode cX3_ranged 92 = .ok (.iload_n 1, 1) := by decide +kernel
theorem dX3_ranged_93 : decode cX3_ranged 93 = .ok (.imul, 1) := by decide +kernel
theorem dX3_ranged_94 : decode cX3_ranged 94 = .ok (.iload 7, 2) := by decide +kernel
theorem dX3_ranged_96 : decode cX3_ranged 96 = .ok (.iadd, 1) := by decide +kernel
theorem dX3_ranged_97 : decode cX3_ranged 97 = .ok (.iaload, 1) := by decide +kernel
theorem dX3_ranged_98 : decode cX3_ranged 98 = .ok (.invokestatic 91, 3) := by decide +kernel
theorem dX3_ranged_101 : decode cX3_ranged 101 = .ok (.istore 6, 2) := by decide +kernel
theorem dX3_ranged_103 : decode cX3_ranged 103 = .ok (.iinc 7 1, 3) := by decide +kernel
theorem dX3_ranged_106 : decode cX3_ranged 106 = .ok (.goto (-45), 3) := by decide +kernel
theorem dX3_ranged_109 : decode cX3_ranged 109 = .ok (.iload 4, 2) := by decide +kernel
theorem dX3_ranged_111 : decode cX3_ranged 111 = .ok (.iconst 1, 1) := by decide +kernel
theorem dX3_ranged_112 : decode cX3_ranged 112 = .ok (.if_icmp .ne 8, 3) := by decide +kernel
theorem dX3_ranged_115 : decode cX3_ranged 115 = .ok (.iload 5, 2) := by decide +kernel
theorem dX3_ranged_117 : decode cX3_ranged 117 = .ok (.goto 5, 3) := by decide +kernel
theorem dX3_ranged_120 : decode cX3_ranged 120 = .ok (.iload 6, 2) := by decide +kernel
theorem dX3_ranged_122 : decode cX3_ranged 122 = .ok (.ireturn, 1) := by decide +kernel
theorem dX3_range_0 : decode cX3_range 0 = .ok (.aload_n 0, 1) := by decide +kernel
theorem dX3_range_1 : decode cX3_range 1 = .ok (.iconst 0, 1) := by decide +kernel
theorem dX3_range_2 : decode cX3_range 2 = .ok (.putfield 40, 3) := by decide +kernel
theorem dX3_range_5 : decode cX3_range 5 = .ok (.iload_n 1, 1) := by decide +kernel
theorem dX3_range_6 : decode cX3_range 6 = .ok (.invokestatic 94, 3) := by decide +kernel
theorem dX3_range_9 : decode cX3_range 9 = .ok (.ifCond .eq 13, 3) := by decide +kernel
theorem dX3_range_12 : decode cX3_range 12 = .ok (.iload 4, 2) := by decide +kernel
theorem dX3_range_14 : decode cX3_range 14 = .ok (.iconst 0, 1) := by decide +kernel
theorem dX3_range_15 : decode cX3_range 15 = .ok (.iconst 3, 1) := by decide +kernel
theorem dX3_range_16 : decode cX3_range 16 = .ok (.invokestatic 44, 3) := by decide +kernel
theorem dX3_range_19 : decode cX3_range 19 = .ok (.ifCond .ne 9, 3) := by decide +kernel
theorem dX3_range_22 : decode cX3_range 22 = .ok (.aload_n 0, 1) := by decide +kernel
theorem dX3_range_23 : decode cX3_range 23 = .ok (.iconst 1, 1) := by decide +kernel
theorem dX3_range_24 : decode cX3_range 24 = .ok (.invokevirtual 98, 3) := by decide +kernel
theorem dX3_range_27 : decode cX3_range 27 = .ok (.ireturn, 1) := by decide +kernel
theorem dX3_range_28 : decode cX3_range 28 = .ok (.iload_n 2, 1) := by decide +kernel
theorem dX3_range_29 : decode cX3_range 29 = .ok (.invokestatic 101, 3) := by decide +kernel
theorem dX3_range_32 : decode cX3_range 32 = .ok (.ifCond .eq 15, 3) := by decide +kernel
theorem dX3_range_35 : decode cX3_range 35 = .ok (.iload_n 3, 1) := by decide +kernel
theorem dX3_range_36 : decode cX3_range 36 = .ok (.invokestatic 101, 3) := by decide +kernel
theorem dX3_range_39 : decode cX3_range 39 = .ok (.ifCond .eq 8, 3) := by decide +kernel
theorem dX3_range_42 : decode cX3_range 42 = .ok (.iload_n 2, 1) := by decide +kernel
theorem dX3_range_43 : decode cX3_range 43 = .ok (.iload_n 3, 1) := by decide +kernel
theorem dX3_range_44 : decode cX3_range 44 = .ok (.if_icmp .le 9, 3) := by decide +kernel
theorem dX3_range_47 : decode cX3_range 47 = .ok (.aload_n 0, 1) := by decide +kernel
theorem dX3_range_48 : decode cX3_range 48 = .ok (.iconst 2, 1) := by decide +kernel
theorem dX3_range_49 : decode cX3_range 49 = .ok (.invokevirtual 98, 3) := by decide +kernel
theorem dX3_range_52 : decode cX3_range 52 = .ok (.ireturn, 1) := by decide +kernel
theorem dX3_range_53 : decode cX3_range 53 = .ok (.aload_n 0, 1) := by decide +kernel
theorem dX3_range_54 : decode cX3_range 54 = .ok (.iload_n 1, 1) := by decide +kernel
theorem dX3_range_55 : decode cX3_range 55 = .ok (.aload_n 0, 1) := by decide +kernel
theorem dX3_range_56 : decode cX3_range 56 = .ok (.iload_n 1, 1) := by decide +kernel
theorem dX3_range_57 : decode cX3_range 57 = .ok (.iload_n 2, 1) := by decide +kernel
theorem dX3_range_58 : decode cX3_range 58 = .ok (.invokevirtual 55, 3) := by decide +kernel
theorem dX3_range_61 : decode cX3_range 61 = .ok (.aload_n 0, 1) := by decide +kernel
theorem dX3_range_62 : decode cX3_range 62 = .ok (.iload_n 1, 1) := by decide +kernel
theorem dX3_range_63 : decode cX3_range 63 = .ok (.iload_n 3, 1) := by decide +kernel
theorem dX3_range_64 : decode cX3_range 64 = .ok (.iconst 1, 1) := by decide +kernel
theorem dX3_range_65 : decode cX3_range 65 = .ok (.iadd, 1) := by decide +kernel
theorem dX3_range_66 : decode cX3_range 66 = .ok (.invokevirtual 55, 3) := by decide +kernel
theorem dX3_range_69 : decode cX3_range 69 = .ok (.iload 4, 2) := by decide +kernel
theorem dX3_range_71 : decode cX3_range 71 = .ok (.invokevirtual 143, 3) := by decide +kernel
theorem dX3_range_74 : decode cX3_range 74 = .ok (.ireturn, 1) := by decide +kernel
theorem dX3_near_0 : decode cX3_near 0 = .ok (.aload_n 0, 1) := by decide +kernel
theorem dX3_near_1 : decode cX3_near 1 = .ok (.iconst 0, 1) := by decide +kernel
theorem dX3_near_2 : decode cX3_near 2 = .ok (.putfield 40, 3) := by decide +kernel
theorem dX3_near_5 : decode cX3_near 5 = .ok (.iload_n 1, 1) := by decide +kernel
theorem dX3_near_6 : decode cX3_near 6 = .ok (.invokestatic 94, 3) := by decide +kernel
theorem dX3_near_9 : decode cX3_near 9 = .ok (.ifCond .ne 9, 3) := by decide +kernel
theorem dX3_near_12 : decode cX3_near 12 = .ok (.aload_n 0, 1) := by decide +kernel
theorem dX3_near_13 : decode cX3_near 13 = .ok (.iconst 1, 1) := by decide +kernel
theorem dX3_near_14 : decode cX3_near 14 = .ok (.invokevirtual 98, 3) := by decide +kernel
theorem dX3_near_17 : decode cX3_near 17 = .ok (.ireturn, 1) := by decide +kernel
theorem dX3_near_18 : decode cX3_near 18 = .ok (.iload_n 2, 1) := by decide +kernel
theorem dX3_near_19 : decode cX3_near 19 = .ok (.invokestatic 101, 3) := by decide +kernel
theorem dX3_near_22 : decode cX3_near 22 = .ok (.ifCond .ne 9, 3) := by decide +kernel
theorem dX3_near_25 : decode cX3_near 25 = .ok (.aload_n 0, 1) := by decide +kernel
theorem dX3_near_26 : decode cX3_near 26 = .ok (.iconst 2, 1) := by decide +kernel
theorem dX3_near_27 : decode cX3_near 27 = .ok (.invokevirtual 98, 3) := by decide +kernel
theorem dX3_near_30 : decode cX3_near 30 = .ok (.ireturn, 1) := by decide +kernel
theorem dX3_near_31 : decode cX3_near 31 = .ok (.iconst (-1), 1) := by decide +kernel
theorem dX3_near_32 : decode cX3_near 32 = .ok (.istore_n 3, 1) := by decide +kernel
theorem dX3_near_33 : decode cX3_near 33 = .ok (.bipush 24, 2) := by decide +kernel
theorem dX3_near_35 : decode cX3_near 35 = .ok (.iload_n 1, 1) := by decide +kernel
theorem dX3_near_36 : decode cX3_near 36 = .ok (.imul, 1) := by decide +kernel
theorem dX3_near_37 : decode cX3_near 37 = .ok (.istore 4, 2) := by decide +kernel
theorem dX3_near_39 : decode cX3_near 39 = .ok (.iload 4, 2) := by decide +kernel
theorem dX3_near_41 : decode cX3_near 41 = .ok (.bipush 24, 2) := by decide +kernel
theorem dX3_near_43 : decode cX3_near 43 = .ok (.iload_n 1, 1) := by decide +kernel
theorem dX3_near_44 : decode cX3_near 44 = .ok (.imul, 1) := by decide +kernel
theorem dX3_near_45 : decode cX3_near 45 = .ok (.aload_n 0, 1) := by decide +kernel
theorem dX3_near_46 : decode cX3_near 46 = .ok (.getfield 9, 3) := by decide +kernel
theorem dX3_near_49 : decode cX3_near 49 = .ok (.iload_n 1, 1) := by decide +kernel
theorem dX3_near_50 : decode cX3_near 50 = .ok (.iaload, 1) := by decide +kernel
theorem dX3_near_51 : decode cX3_near 51 = .ok (.iadd, 1) := by decide +kernel
theorem dX3_near_52 : decode cX3_near 52 = .ok (.if_icmp .ge 37, 3) := by decide +kernel
theorem dX3_near_55 : decode cX3_near 55 = .ok (.iload_n 3, 1) := by decide +kernel
theorem dX3_near_56 : decode cX3_near 56 = .ok (.iconst (-1), 1) := by decide +kernel
theorem dX3_near_57 : decode cX3_near 57 = .ok (.if_icmp .eq 18, 3) := by decide +kernel
theorem dX3_near_60 : decode cX3_near 60 = .ok (.aload_n 0, 1) := by decide +kernel
theorem dX3_near_61 : decode cX3_near 61 = .ok (.getfield 13, 3) := by decide +kernel
theorem dX3_near_64 : decode cX3_near 64 = .ok (.iload 4, 2) := by decide +kernel
theorem dX3_near_66 : decode cX3_near 66 = .ok (.iaload, 1) := by decide +kernel
theorem dX3_near_67 : decode cX3_near 67 = .ok (.iload_n 2, 1) := by decide +kernel
theorem dX3_near_68 : decode cX3_near 68 = .ok (.ixor, 1) := by decide +kernel
theorem dX3_near_69 : decode cX3_near 69 = .ok (.iload_n 3, 1) := by decide +kernel
theorem dX3_near_70 : decode cX3_near 70 = .ok (.iload_n 2, 1) := by decide +kernel
theorem dX3_near_71 : decode cX3_near 71 = .ok (.ixor, 1) := by decide +kernel
theorem dX3_near_72 : decode cX3_near 72 = .ok (.if_icmp .ge 11, 3) := by decide +kernel
theorem dX3_near_75 : decode cX3_near 75 = .ok (.aload_n 0, 1) := by decide +kernel
theorem dX3_near_76 : decode cX3_near 76 = .ok (.getfield 13, 3) := by decide +kernel
theorem dX3_near_79 : decode cX3_near 79 = .ok (.iload 4, 2) := by decide +kernel
theorem dX3_near_81 : decode cX3_near 81 = .ok (.iaload, 1) := by decide +kernel
theorem dX3_near_82 : decode cX3_near 82 = .ok (.istore_n 3, 1) := by decide +kernel
theorem dX3_near_83 : decode cX3_near 83 = .ok (.iinc 4 1, 3) := by decide +kernel
theorem dX3_near_86 : decode cX3_near 86 = .ok (.goto (-47), 3) := by decide +kernel
theorem dX3_near_89 : decode cX3_near 89 = .ok (.iload_n 3, 1) := by decide +kernel
theorem dX3_near_90 : decode cX3_near 90 = .ok (.ireturn, 1) := by decide +kernel
theorem dX3_farthest_0 : decode cX3_farthest 0 = .ok (.iconst (-1), 1) := by decide +kernel
theorem dX3_farthest_1 : decode cX3_farthest 1 = .ok (.istore_n 2, 1) := by decide +kernel
theorem dX3_farthest_2 : decode cX3_farthest 2 = .ok (.bipush 24, 2) := by decide +kernel
theorem dX3_farthest_4 : decode cX3_farthest 4 = .ok (.iload_n 1, 1) := by decide +kernel
theorem dX3_farthest_5 : decode cX3_farthest 5 = .ok (.imul, 1) := by decide +kernel
theorem dX3_farthest_6 : decode cX3_farthest 6 = .ok (.istore_n 3, 1) := by decide +kernel
theorem dX3_farthest_7 : decode cX3_farthest 7 = .ok (.iload_n 3, 1) := by decide +kernel
theorem dX3_farthest_8 : decode cX3_farthest 8 = .ok (.bipush 24, 2) := by decide +kernel
theorem dX3_farthest_10 : decode cX3_farthest 10 = .ok (.iload_n 1, 1) := by decide +kernel
theorem dX3_farthest_11 : decode cX3_farthest 11 = .ok (.imul, 1) := by decide +kernel
theorem dX3_farthest_12 : decode cX3_farthest 12 = .ok (.aload_n 0, 1) := by decide +kernel
theorem dX3_farthest_13 : decode cX3_farthest 13 = .ok (.getfield 9, 3) := by decide +kernel
theorem dX3_farthest_16 : decode cX3_farthest 16 = .ok (.iload_n 1, 1) := by decide +kernel
theorem dX3_farthest_17 : decode cX3_farthest 17 = .ok (.iaload, 1) := by decide +kernel
theorem dX3_farthest_18 : decode cX3_farthest 18 = .ok (.iadd, 1) := by decide +kernel
theorem dX3_farthest_19 : decode cX3_farthest 19 = .ok (.if_icmp .ge 46, 3) := by decide +kernel
theorem dX3_farthest_22 : decode cX3_farthest 22 = .ok (.bipush 24, 2) := by decide +kernel
theorem dX3_farthest_24 : decode cX3_farthest 24 = .ok (.iload_n 1, 1) := by decide +kernel
theorem dX3_farthest_25 : decode cX3_farthest 25 = .ok (.imul, 1) := by decide +kernel
theorem dX3_farthest_26 : decode cX3_farthest 26 = .ok (.istore 4, 2) := by decide +kernel
theorem dX3_farthest_28 : decode cX3_farthest 28 = .ok (.iload 4, 2) := by decide +kernel
theorem dX3_farthest_30 : decode cX3_farthest 30 = .ok (.iload_n 3, 1) := by decide +kernel
theorem dX3_farthest_31 : decode cX3_farthest 31 = .ok (.if_icmp .ge 28, 3) := by decide +kernel
theorem dX3_farthest_34 : decode cX3_farthest 34 = .ok (.iload_n 2, 1) := by decide +kernel
theorem dX3_farthest_35 : decode cX3_farthest 35 = .ok (.aload_n 0, 1) := by decide +kernel
theorem dX3_farthest_36 : decode cX3_farthest 36 = .ok (.getfield 13, 3) := by decide +kernel
theorem dX3_farthest_39 : decode cX3_farthest 39 = .ok (.iload_n 3, 1) := by decide +kernel
theorem dX3_farthest_40 : decode cX3_farthest 40 = .ok (.iaload, 1) := by decide +kernel
theorem dX3_farthest_41 : decode cX3_farthest 41 = .ok (.aload_n 0, 1) := by decide +kernel
theorem dX3_farthest_42 : decode cX3_farthest 42 = .ok (.getfield 13, 3) := by decide +kernel
theorem dX3_farthest_45 : decode cX3_farthest 45 = .ok (.iload 4, 2) := by decide +kernel
theorem dX3_farthest_47 : decode cX3_farthest 47 = .ok (.iaload, 1) := by decide +kernel
theorem dX3_farthest_48 : decode cX3_farthest 48 = .ok (.ixor, 1) := by decide +kernel
theorem dX3_farthest_49 : decode cX3_farthest 49 = .ok (.invokestatic 91, 3) := by decide +kernel
theorem dX3_farthest_52 : decode cX3_farthest 52 = .ok (.istore_n 2, 1) := by decide +kernel
theorem dX3_farthest_53 : decode cX3_farthest 53 = .ok (.iinc 4 1, 3) := by decide +kernel
theorem dX3_farthest_56 : decode cX3_farthest 56 = .ok (.goto (-28), 3) := by decide +kernel
theorem dX3_farthest_59 : decode cX3_farthest 59 = .ok (.iinc 3 1, 3) := by decide +kernel
theorem dX3_farthest_62 : decode cX3_farthest 62 = .ok (.goto (-55), 3) := by decide +kernel
theorem dX3_farthest_65 : decode cX3_farthest 65 = .ok (.iload_n 2, 1) := by decide +kernel
theorem dX3_farthest_66 : decode cX3_farthest 66 = .ok (.ireturn, 1) := by decide +kernel
theorem dX3_far_0 : decode cX3_far 0 = .ok (.aload_n 0, 1) := by decide +kernel
theorem dX3_far_1 : decode cX3_far 1 = .ok (.iconst 0, 1) := by decide +kernel
theorem dX3_far_2 : decode cX3_far 2 = .ok (.putfield 40, 3) := by decide +kernel
theorem dX3_far_5 : decode cX3_far 5 = .ok (.iload_n 1, 1) := by decide +kernel
theorem dX3_far_6 : decode cX3_far 6 = .ok (.invokestatic 94, 3) := by decide +kernel
theorem dX3_far_9 : decode cX3_far 9 = .ok (.ifCond .eq 11, 3) := by decide +kernel
theorem dX3_far_12 : decode cX3_far 12 = .ok (.aload_n 0, 1) := by decide +kernel
theorem dX3_far_13 : decode cX3_far 13 = .ok (.iload_n 1, 1) := by decide +kernel
theorem dX3_far_14 : decode cX3_far 14 = .ok (.invokevirtual 147, 3) := by decide +kernel
theorem dX3_far_17 : decode cX3_far 17 = .ok (.goto 8, 3) := by decide +kernel
theorem dX3_far_20 : decode cX3_far 20 = .ok (.aload_n 0, 1) := by decide +kernel
theorem dX3_far_21 : decode cX3_far 21 = .ok (.iconst 1, 1) := by decide +kernel
theorem dX3_far_22 : decode cX3_far 22 = .ok (.invokevirtual 98, 3) := by decide +kernel
theorem dX3_far_25 : decode cX3_far 25 = .ok (.ireturn, 1) := by decide +kernel
theorem dX3_unlike_0 : decode cX3_unlike 0 = .ok (.aload_n 0, 1) := by decide +kernel
theorem dX3_unlike_1 : decode cX3_unlike 1 = .ok (.iconst 0, 1) := by decide +kernel
theorem dX3_unlike_2 : decode cX3_unlike 2 = .ok (.putfield 40, 3) := by decide +kernel
theorem dX3_unlike_5 : decode cX3_unlike 5 = .ok (.iload_n 1, 1) := by decide +kernel
theorem dX3_unlike_6 : decode cX3_unlike 6 = .ok (.invokestatic 101, 3) := by decide +kernel
theorem dX3_unlike_9 : decode cX3_unlike 9 = .ok (.ifCond .eq 19, 3) := by decide +kernel
theorem dX3_unlike_12 : decode cX3_unlike 12 = .ok (.iload_n 2, 1) := by decide +kernel
theorem dX3_unlike_13 : decode cX3_unlike 13 = .ok (.invokestatic 101, 3) := by decide +kernel
theorem dX3_unlike_16 : decode cX3_unlike 16 = .ok (.ifCond .eq 12, 3) := by decide +kernel
theorem dX3_unlike_19 : decode cX3_unlike 19 = .ok (.iload_n 1, 1) := by decide +kernel
theorem dX3_unlike_20 : decode cX3_unlike 20 = .ok (.iload_n 2, 1) := by decide +kernel
theorem dX3_unlike_21 : decode cX3_unlike 21 = .ok (.ixor, 1) := by decide +kernel
theorem dX3_unlike_22 : decode cX3_unlike 22 = .ok (.invokestatic 72, 3) := by decide +kernel
theorem dX3_unlike_25 : decode cX3_unlike 25 = .ok (.goto 8, 3) := by decide +kernel
theorem dX3_unlike_28 : decode cX3_unlike 28 = .ok (.aload_n 0, 1) := by decide +kernel
theorem dX3_unlike_29 : decode cX3_unlike 29 = .ok (.iconst 1, 1) := by decide +kernel
theorem dX3_unlike_30 : decode cX3_unlike 30 = .ok (.invokevirtual 98, 3) := by decide +kernel
theorem dX3_unlike_33 : decode cX3_unlike 33 = .ok (.ireturn, 1) := by decide +kernel
theorem dX3_wouldBe_0 : decode cX3_wouldBe 0 = .ok (.aload_n 0, 1) := by decide +kernel
theorem dX3_wouldBe_1 : decode cX3_wouldBe 1 = .ok (.invokevirtual 150, 3) := by decide +kernel
theorem dX3_wouldBe_4 : decode cX3_wouldBe 4 = .ok (.iload_n 1, 1) := by decide +kernel
theorem dX3_wouldBe_5 : decode cX3_wouldBe 5 = .ok (.ifCond .ne 10, 3) := by decide +kernel
theorem dX3_wouldBe_8 : decode cX3_wouldBe 8 = .ok (.aload_n 0, 1) := by decide +kernel
theorem dX3_wouldBe_9 : decode cX3_wouldBe 9 = .ok (.getfield 79, 3) := by decide +kernel
theorem dX3_wouldBe_12 : decode cX3_wouldBe 12 = .ok (.goto 37, 3) := by decide +kernel
theorem dX3_wouldBe_15 : decode cX3_wouldBe 15 = .ok (.iload_n 1, 1) := by decide +kernel
theorem dX3_wouldBe_16 : decode cX3_wouldBe 16 = .ok (.iconst 1, 1) := by decide +kernel
theorem dX3_wouldBe_17 : decode cX3_wouldBe 17 = .ok (.if_icmp .ne 16, 3) := by decide +kernel
theorem dX3_wouldBe_20 : decode cX3_wouldBe 20 = .ok (.iconst 0, 1) := by decide +kernel
theorem dX3_wouldBe_21 : decode cX3_wouldBe 21 = .ok (.aload_n 0, 1) := by decide +kernel
theorem dX3_wouldBe_22 : decode cX3_wouldBe 22 = .ok (.getfield 79, 3) := by decide +kernel
theorem dX3_wouldBe_25 : decode cX3_wouldBe 25 = .ok (.iconst 1, 1) := by decide +kernel
theorem dX3_wouldBe_26 : decode cX3_wouldBe 26 = .ok (.isub, 1) := by decide +kernel
theorem dX3_wouldBe_27 : decode cX3_wouldBe 27 = .ok (.invokestatic 91, 3) := by decide +kernel
theorem dX3_wouldBe_30 : decode cX3_wouldBe 30 = .ok (.goto 19, 3) := by decide +kernel
theorem dX3_wouldBe_33 : decode cX3_wouldBe 33 = .ok (.iload_n 1, 1) := by decide +kernel
theorem dX3_wouldBe_34 : decode cX3_wouldBe 34 = .ok (.iconst 2, 1) := by decide +kernel
theorem dX3_wouldBe_35 : decode cX3_wouldBe 35 = .ok (.if_icmp .ne 10, 3) := by decide +kernel
theorem dX3_wouldBe_38 : decode cX3_wouldBe 38 = .ok (.aload_n 0, 1) := by decide +kernel
theorem dX3_wouldBe_39 : decode cX3_wouldBe 39 = .ok (.invokevirtual 122, 3) := by decide +kernel
theorem dX3_wouldBe_42 : decode cX3_wouldBe 42 = .ok (.goto 7, 3) := by decide +kernel
theorem dX3_wouldBe_45 : decode cX3_wouldBe 45 = .ok (.aload_n 0, 1) := by decide +kernel
theorem dX3_wouldBe_46 : decode cX3_wouldBe 46 = .ok (.invokevirtual 125, 3) := by decide +kernel
theorem dX3_wouldBe_49 : decode cX3_wouldBe 49 = .ok (.ireturn, 1) := by decide +kernel
theorem dX3_would_0 : decode cX3_would 0 = .ok (.aload_n 0, 1) := by decide +kernel
theorem dX3_would_1 : decode cX3_would 1 = .ok (.iconst 0, 1) := by decide +kernel
theorem dX3_would_2 : decode cX3_would 2 = .ok (.putfield 40, 3) := by decide +kernel
theorem dX3_would_5 : decode cX3_would 5 = .ok (.iload_n 1, 1) := by decide +kernel
theorem dX3_would_6 : decode cX3_would 6 = .ok (.iconst 0, 1) := by decide +kernel
theorem dX3_would_7 : decode cX3_would 7 = .ok (.iconst 3, 1) := by decide +kernel
theorem dX3_would_8 : decode cX3_would 8 = .ok (.invokestatic 44, 3) := by decide +kernel
theorem dX3_would_11 : decode cX3_would 11 = .ok (.ifCond .eq 11, 3) := by decide +kernel
theorem dX3_would_14 : decode cX3_would 14 = .ok (.aload_n 0, 1) := by decide +kernel
theorem dX3_would_15 : decode cX3_would 15 = .ok (.iload_n 1, 1) := by decide +kernel
theorem dX3_would_16 : decode cX3_would 16 = .ok (.invokevirtual 153, 3) := by decide +kernel
theorem dX3_would_19 : decode cX3_would 19 = .ok (.goto 8, 3) := by decide +kernel
theorem dX3_would_22 : decode cX3_would 22 = .ok (.aload_n 0, 1) := by decide +kernel
theorem dX3_would_23 : decode cX3_would 23 = .ok (.iconst 1, 1) := by decide +kernel
theorem dX3_would_24 : decode cX3_would 24 = .ok (.invokevirtual 98, 3) := by decide +kernel
theorem dX3_would_27 : decode cX3_would 27 = .ok (.ireturn, 1) := by decide +kernel
theorem dX3_advise_0 : decode cX3_advise 0 = .ok (.aload_n 0, 1) := by decide +kernel
theorem dX3_advise_1 : decode cX3_advise 1 = .ok (.iconst 0, 1) := by decide +kernel
theorem dX3_advise_2 : decode cX3_advise 2 = .ok (.putfield 40, 3) := by decide +kernel
theorem dX3_advise_5 : decode cX3_advise 5 = .ok (.iload_n 1, 1) := by decide +kernel
theorem dX3_advise_6 : decode cX3_advise 6 = .ok (.invokestatic 94, 3) := by decide +kernel
theorem dX3_advise_9 : decode cX3_advise 9 = .ok (.ifCond .ne 9, 3) := by decide +kernel
theorem dX3_advise_12 : decode cX3_advise 12 = .ok (.aload_n 0, 1) := by decide +kernel
theorem dX3_advise_13 : decode cX3_advise 13 = .ok (.iconst 1, 1) := by decide +kernel
theorem dX3_advise_14 : decode cX3_advise 14 = .ok (.invokevirtual 98, 3) := by decide +kernel
theorem dX3_advise_17 : decode cX3_advise 17 = .ok (.ireturn, 1) := by decide +kernel
theorem dX3_advise_18 : decode cX3_advise 18 = .ok (.iconst (-1), 1) := by decide +kernel
theorem dX3_advise_19 : decode cX3_advise 19 = .ok (.istore_n 2, 1) := by decide +kernel
theorem dX3_advise_20 : decode cX3_advise 20 = .ok (.iconst 0, 1) := by decide +kernel
theorem dX3_advise_21 : decode cX3_advise 21 = .ok (.istore_n 3, 1) := by decide +kernel
theorem dX3_advise_22 : decode cX3_advise 22 = .ok (.iconst 0, 1) := by decide +kernel
theorem dX3_advise_23 : decode cX3_advise 23 = .ok (.istore 4, 2) := by decide +kernel
theorem dX3_advise_25 : decode cX3_advise 25 = .ok (.iload 4, 2) := by decide +kernel
theorem dX3_advise_27 : decode cX3_advise 27 = .ok (.aload_n 0, 1) := by decide +kernel
theorem dX3_advise_28 : decode cX3_advise 28 = .ok (.getfield 9, 3) := by decide +kernel
theorem dX3_advise_31 : decode cX3_advise 31 = .ok (.iload_n 1, 1) := by decide +kernel
theorem dX3_advise_32 : decode cX3_advise 32 = .ok (.iaload, 1) := by decide +kernel
theorem dX3_advise_33 : decode cX3_advise 33 = .ok (.if_icmp .ge 50, 3) := by decide +kernel
theorem dX3_advise_36 : decode cX3_advise 36 = .ok (.aload_n 0, 1) := by decide +kernel
theorem dX3_advise_37 : decode cX3_advise 37 = .ok (.iload_n 1, 1) := by decide +kernel
theorem dX3_advise_38 : decode cX3_advise 38 = .ok (.iload 4, 2) := by decide +kernel
theorem dX3_advise_40 : decode cX3_advise 40 = .ok (.invokevirtual 156, 3) := by decide +kernel
theorem dX3_advise_43 : decode cX3_advise 43 = .ok (.iload_n 2, 1) := by decide +kernel
theorem dX3_advise_44 : decode cX3_advise 44 = .ok (.iconst (-1), 1) := by decide +kernel
theorem dX3_advise_45 : decode cX3_advise 45 = .ok (.if_icmp .eq 14, 3) := by decide +kernel
theorem dX3_advise_48 : decode cX3_advise 48 = .ok (.aload_n 0, 1) := by decide +kernel
theorem dX3_advise_49 : decode cX3_advise 49 = .ok (.invokevirtual 125, 3) := by decide +kernel
theorem dX3_advise_52 : decode cX3_advise 52 = .ok (.iload_n 3, 1) := by decide +kernel
theorem dX3_advise_53 : decode cX3_advise 53 = .ok (.if_icmp .lt 6, 3) := by decide +kernel
theorem dX3_advise_56 : decode cX3_advise 56 = .ok (.goto 21, 3) := by decide +kernel
theorem dX3_advise_59 : decode cX3_advise 59 = .ok (.aload_n 0, 1) := by decide +kernel
theorem dX3_advise_60 : decode cX3_advise 60 = .ok (.getfield 13, 3) := by decide +kernel
theorem dX3_advise_63 : decode cX3_advise 63 = .ok (.bipush 24, 2) := by decide +kernel
theorem dX3_advise_65 : decode cX3_advise 65 = .ok (.iload_n 1, 1) := by decide +kernel
theorem dX3_advise_66 : decode cX3_advise 66 = .ok (.imul, 1) := by decide +kernel
theorem dX3_advise_67 : decode cX3_advise 67 = .ok (.iload 4, 2) := by decide +kernel
theorem dX3_advise_69 : decode cX3_advise 69 = .ok (.iadd, 1) := by decide +kernel
theorem dX3_advise_70 : decode cX3_advise 70 = .ok (.iaload, 1) := by decide +kernel
theorem dX3_advise_71 : decode cX3_advise 71 = .ok (.istore_n 2, 1) := by decide +kernel
theorem dX3_advise_72 : decode cX3_advise 72 = .ok (.aload_n 0, 1) := by decide +kernel
theorem dX3_advise_73 : decode cX3_advise 73 = .ok (.invokevirtual 125, 3) := by decide +kernel
theorem dX3_advise_76 : decode cX3_advise 76 = .ok (.istore_n 3, 1) := by decide +kernel
theorem dX3_advise_77 : decode cX3_advise 77 = .ok (.iinc 4 1, 3) := by decide +kernel
theorem dX3_advise_80 : decode cX3_advise 80 = .ok (.goto (-55), 3) := by decide +kernel
theorem dX3_advise_83 : decode cX3_advise 83 = .ok (.iload_n 2, 1) := by decide +kernel
theorem dX3_advise_84 : decode cX3_advise 84 = .ok (.ireturn, 1) := by decide +kernel
theorem dX3_mean_0 : decode cX3_mean 0 = .ok (.aload_n 0, 1) := by decide +kernel
theorem dX3_mean_1 : decode cX3_mean 1 = .ok (.iload_n 1, 1) := by decide +kernel
theorem dX3_mean_2 : decode cX3_mean 2 = .ok (.invokestatic 94, 3) := by decide +kernel
theorem dX3_mean_5 : decode cX3_mean 5 = .ok (.ifCond .eq 7, 3) := by decide +kernel
theorem dX3_mean_8 : decode cX3_mean 8 = .ok (.iconst 0, 1) := by decide +kernel
theorem dX3_mean_9 : decode cX3_mean 9 = .ok (.goto 4, 3) := by decide +kernel
theorem dX3_mean_12 : decode cX3_mean 12 = .ok (.iconst 1, 1) := by decide +kernel
theorem dX3_mean_13 : decode cX3_mean 13 = .ok (.putfield 40, 3) := by decide +kernel
theorem dX3_mean_16 : decode cX3_mean 16 = .ok (.aload_n 0, 1) := by decide +kernel
theorem dX3_mean_17 : decode cX3_mean 17 = .ok (.getfield 40, 3) := by decide +kernel
theorem dX3_mean_20 : decode cX3_mean 20 = .ok (.ifCond .gt 12, 3) := by decide +kernel
theorem dX3_mean_23 : decode cX3_mean 23 = .ok (.aload_n 0, 1) := by decide +kernel
theorem dX3_mean_24 : decode cX3_mean 24 = .ok (.getfield 9, 3) := by decide +kernel
theorem dX3_mean_27 : decode cX3_mean 27 = .ok (.iload_n 1, 1) := by decide +kernel
theorem dX3_mean_28 : decode cX3_mean 28 = .ok (.iaload, 1) := by decide +kernel
theorem dX3_mean_29 : decode cX3_mean 29 = .ok (.ifCond .ne 5, 3) := by decide +kernel
theorem dX3_mean_32 : decode cX3_mean 32 = .ok (.dconst 0, 1) := by decide +kernel
theorem dX3_mean_33 : decode cX3_mean 33 = .ok (.dreturn, 1) := by decide +kernel
theorem dX3_mean_34 : decode cX3_mean 34 = .ok (.aload_n 0, 1) := by decide +kernel
theorem dX3_mean_35 : decode cX3_mean 35 = .ok (.iload_n 1, 1) := by decide +kernel
theorem dX3_mean_36 : decode cX3_mean 36 = .ok (.invokevirtual 118, 3) := by decide +kernel
theorem dX3_mean_39 : decode cX3_mean 39 = .ok (.aload_n 0, 1) := by decide +kernel
theorem dX3_mean_40 : decode cX3_mean 40 = .ok (.invokevirtual 125, 3) := by decide +kernel
theorem dX3_mean_43 : decode cX3_mean 43 = .ok (.i2d, 1) := by decide +kernel
theorem dX3_mean_44 : decode cX3_mean 44 = .ok (.aload_n 0, 1) := by decide +kernel
theorem dX3_mean_45 : decode cX3_mean 45 = .ok (.getfield 79, 3) := by decide +kernel
theorem dX3_mean_48 : decode cX3_mean 48 = .ok (.i2d, 1) := by decide +kernel
theorem dX3_mean_49 : decode cX3_mean 49 = .ok (.ddiv, 1) := by decide +kernel
theorem dX3_mean_50 : decode cX3_mean 50 = .ok (.dreturn, 1) := by decide +kernel
theorem dX3_digest_0 : decode cX3_digest 0 = .ok (.aload_n 0, 1) := by decide +kernel
theorem dX3_digest_1 : decode cX3_digest 1 = .ok (.iconst 0, 1) := by decide +kernel
theorem dX3_digest_2 : decode cX3_digest 2 = .ok (.putfield 40, 3) := by decide +kernel
theorem dX3_digest_5 : decode cX3_digest 5 = .ok (.ldc2_w 160, 3) := by decide +kernel
theorem dX3_digest_8 : decode cX3_digest 8 = .ok (.lstore_n 1, 1) := by decide +kernel
theorem dX3_digest_9 : decode cX3_digest 9 = .ok (.iconst 0, 1) := by decide +kernel
theorem dX3_digest_10 : decode cX3_digest 10 = .ok (.istore_n 3, 1) := by decide +kernel
theorem dX3_digest_11 : decode cX3_digest 11 = .ok (.iload_n 3, 1) := by decide +kernel
theorem dX3_digest_12 : decode cX3_digest 12 = .ok (.iconst 2, 1) := by decide +kernel
theorem dX3_digest_13 : decode cX3_digest 13 = .ok (.if_icmp .ge 143, 3) := by decide +kernel
theorem dX3_digest_16 : decode cX3_digest 16 = .ok (.iconst 0, 1) := by decide +kernel
theorem dX3_digest_17 : decode cX3_digest 17 = .ok (.istore 4, 2) := by decide +kernel
theorem dX3_digest_19 : decode cX3_digest 19 = .ok (.iload 4, 2) := by decide +kernel
theorem dX3_digest_21 : decode cX3_digest 21 = .ok (.bipush 6, 2) := by decide +kernel
theorem dX3_digest_23 : decode cX3_digest 23 = .ok (.if_icmp .gt 24, 3) := by decide +kernel
theorem dX3_digest_26 : decode cX3_digest 26 = .ok (.lload_n 1, 1) := by decide +kernel
theorem dX3_digest_27 : decode cX3_digest 27 = .ok (.ldc2_w 162, 3) := by decide +kernel
theorem dX3_digest_30 : decode cX3_digest 30 = .ok (.lmul, 1) := by decide +kernel
theorem dX3_digest_31 : decode cX3_digest 31 = .ok (.aload_n 0, 1) := by decide +kernel
theorem dX3_digest_32 : decode cX3_digest 32 = .ok (.iload_n 3, 1) := by decide +kernel
theorem dX3_digest_33 : decode cX3_digest 33 = .ok (.iload 4, 2) := by decide +kernel
theorem dX3_digest_35 : decode cX3_digest 35 = .ok (.invokevirtual 134, 3) := by decide +kernel
theorem dX3_digest_38 : decode cX3_digest 38 = .ok (.i2l, 1) := by decide +kernel
theorem dX3_digest_39 : decode cX3_digest 39 = .ok (.ladd, 1) := by decide +kernel
theorem dX3_digest_40 : decode cX3_digest 40 = .ok (.lstore_n 1, 1) := by decide +kernel
theorem dX3_digest_41 : decode cX3_digest 41 = .ok (.iinc 4 1, 3) := by decide +kernel
theorem dX3_digest_44 : decode cX3_digest 44 = .ok (.goto (-25), 3) := by decide +kernel
theorem dX3_digest_47 : decode cX3_digest 47 = .ok (.lload_n 1, 1) := by decide +kernel
theorem dX3_digest_48 : decode cX3_digest 48 = .ok (.ldc2_w 162, 3) := by decide +kernel
theorem dX3_digest_51 : decode cX3_digest 51 = .ok (.lmul, 1) := by decide +kernel
theorem dX3_digest_52 : decode cX3_digest 52 = .ok (.aload_n 0, 1) := by decide +kernel
theorem dX3_digest_53 : decode cX3_digest 53 = .ok (.iload_n 3, 1) := by decide +kernel
theorem dX3_digest_54 : decode cX3_digest 54 = .ok (.invokevirtual 147, 3) := by decide +kernel
theorem dX3_digest_57 : decode cX3_digest 57 = .ok (.i2l, 1) := by decide +kernel
theorem dX3_digest_58 : decode cX3_digest 58 = .ok (.ladd, 1) := by decide +kernel
theorem dX3_digest_59 : decode cX3_digest 59 = .ok (.lstore_n 1, 1) := by decide +kernel
theorem dX3_digest_60 : decode cX3_digest 60 = .ok (.iconst 0, 1) := by decide +kernel
theorem dX3_digest_61 : decode cX3_digest 61 = .ok (.istore 4, 2) := by decide +kernel
theorem dX3_digest_63 : decode cX3_digest 63 = .ok (.iload 4, 2) := by decide +kernel
theorem dX3_digest_65 : decode cX3_digest 65 = .ok (.aload_n 0, 1) := by decide +kernel
theorem dX3_digest_66 : decode cX3_digest 66 = .ok (.getfield 69, 3) := by decide +kernel
theorem dX3_digest_69 : decode cX3_digest 69 = .ok (.if_icmp .ge 41, 3) := by decide +kernel
theorem dX3_digest_72 : decode cX3_digest 72 = .ok (.iconst 0, 1) := by decide +kernel
theorem dX3_digest_73 : decode cX3_digest 73 = .ok (.istore 5, 2) := by decide +kernel
theorem dX3_digest_75 : decode cX3_digest 75 = .ok (.iload 5, 2) := by decide +kernel
theorem dX3_digest_77 : decode cX3_digest 77 = .ok (.bipush 6, 2) := by decide +kernel
theorem dX3_digest_79 : decode cX3_digest 79 = .ok (.if_icmp .gt 25, 3) := by decide +kernel
theorem dX3_digest_82 : decode cX3_digest 82 = .ok (.lload_n 1, 1) := by decide +kernel
theorem dX3_digest_83 : decode cX3_digest 83 = .ok (.ldc2_w 162, 3) := by decide +kernel
theorem dX3_digest_86 : decode cX3_digest 86 = .ok (.lmul, 1) := by decide +kernel
theorem dX3_digest_87 : decode cX3_digest 87 = .ok (.aload_n 0, 1) := by decide +kernel
theorem dX3_digest_88 : decode cX3_digest 88 = .ok (.iload 4, 2) := by decide +kernel
theorem dX3_digest_90 : decode cX3_digest 90 = .ok (.iload 5, 2) := by decide +kernel
theorem dX3_digest_92 : decode cX3_digest 92 = .ok (.invokevirtual 137, 3) := by decide +kernel
theorem dX3_digest_95 : decode cX3_digest 95 = .ok (.i2l, 1) := by decide +kernel
theorem dX3_digest_96 : decode cX3_digest 96 = .ok (.ladd, 1) := by decide +kernel
theorem dX3_digest_97 : decode cX3_digest 97 = .ok (.lstore_n 1, 1) := by decide +kernel
theorem dX3_digest_98 : decode cX3_digest 98 = .ok (.iinc 5 1, 3) := by decide +kernel
theorem dX3_digest_101 : decode cX3_digest 101 = .ok (.goto (-26), 3) := by decide +kernel
theorem dX3_digest_104 : decode cX3_digest 104 = .ok (.iinc 4 1, 3) := by decide +kernel
theorem dX3_digest_107 : decode cX3_digest 107 = .ok (.goto (-44), 3) := by decide +kernel
theorem dX3_digest_110 : decode cX3_digest 110 = .ok (.iconst 0, 1) := by decide +kernel
theorem dX3_digest_111 : decode cX3_digest 111 = .ok (.istore 4, 2) := by decide +kernel
theorem dX3_digest_113 : decode cX3_digest 113 = .ok (.iload 4, 2) := by decide +kernel
theorem dX3_digest_115 : decode cX3_digest 115 = .ok (.aload_n 0, 1) := by decide +kernel
theorem dX3_digest_116 : decode cX3_digest 116 = .ok (.getfield 9, 3) := by decide +kernel
theorem dX3_digest_119 : decode cX3_digest 119 = .ok (.iload_n 3, 1) := by decide +kernel
theorem dX3_digest_120 : decode cX3_digest 120 = .ok (.iaload, 1) := by decide +kernel
theorem dX3_digest_121 : decode cX3_digest 121 = .ok (.if_icmp .ge 29, 3) := by decide +kernel
theorem dX3_digest_124 : decode cX3_digest 124 = .ok (.lload_n 1, 1) := by decide +kernel
theorem dX3_digest_125 : decode cX3_digest 125 = .ok (.ldc2_w 162, 3) := by decide +kernel
theorem dX3_digest_128 : decode cX3_digest 128 = .ok (.lmul, 1) := by decide +kernel
theorem dX3_digest_129 : decode cX3_digest 129 = .ok (.aload_n 0, 1) := by decide +kernel
theorem dX3_digest_130 : decode cX3_digest 130 = .ok (.getfield 16, 3) := by decide +kernel
theorem dX3_digest_133 : decode cX3_digest 133 = .ok (.bipush 24, 2) := by decide +kernel
theorem dX3_digest_135 : decode cX3_digest 135 = .ok (.iload_n 3, 1) := by decide +kernel
theorem dX3_digest_136 : decode cX3_digest 136 = .ok (.imul, 1) := by decide +kernel
theorem dX3_digest_137 : decode cX3_digest 137 = .ok (.iload 4, 2) := by decide +kernel
theorem dX3_digest_139 : decode cX3_digest 139 = .ok (.iadd, 1) := by decide +kernel
theorem dX3_digest_140 : decode cX3_digest 140 = .ok (.iaload, 1) := by decide +kernel
theorem dX3_digest_141 : decode cX3_digest 141 = .ok (.i2l, 1) := by decide +kernel
theorem dX3_digest_142 : decode cX3_digest 142 = .ok (.ladd, 1) := by decide +kernel
theorem dX3_digest_143 : decode cX3_digest 143 = .ok (.lstore_n 1, 1) := by decide +kernel
theorem dX3_digest_144 : decode cX3_digest 144 = .ok (.iinc 4 1, 3) := by decide +kernel
theorem dX3_digest_147 : decode cX3_digest 147 = .ok (.goto (-34), 3) := by decide +kernel
theorem dX3_digest_150 : decode cX3_digest 150 = .ok (.iinc 3 1, 3) := by decide +kernel
theorem dX3_digest_153 : decode cX3_digest 153 = .ok (.goto (-142), 3) := by decide +kernel
theorem dX3_digest_156 : decode cX3_digest 156 = .ok (.iconst 0, 1) := by decide +kernel
theorem dX3_digest_157 : decode cX3_digest 157 = .ok (.istore_n 3, 1) := by decide +kernel
theorem dX3_digest_158 : decode cX3_digest 158 = .ok (.iload_n 3, 1) := by decide +kernel
theorem dX3_digest_159 : decode cX3_digest 159 = .ok (.iconst 3, 1) := by decide +kernel
theorem dX3_digest_160 : decode cX3_digest 160 = .ok (.if_icmp .gt 22, 3) := by decide +kernel
theorem dX3_digest_163 : decode cX3_digest 163 = .ok (.lload_n 1, 1) := by decide +kernel
theorem dX3_digest_164 : decode cX3_digest 164 = .ok (.ldc2_w 162, 3) := by decide +kernel
theorem dX3_digest_167 : decode cX3_digest 167 = .ok (.lmul, 1) := by decide +kernel
theorem dX3_digest_168 : decode cX3_digest 168 = .ok (.aload_n 0, 1) := by decide +kernel
theorem dX3_digest_169 : decode cX3_digest 169 = .ok (.iload_n 3, 1) := by decide +kernel
theorem dX3_digest_170 : decode cX3_digest 170 = .ok (.invokevirtual 153, 3) := by decide +kernel
theorem dX3_digest_173 : decode cX3_digest 173 = .ok (.i2l, 1) := by decide +kernel
theorem dX3_digest_174 : decode cX3_digest 174 = .ok (.ladd, 1) := by decide +kernel
theorem dX3_digest_175 : decode cX3_digest 175 = .ok (.lstore_n 1, 1) := by decide +kernel
theorem dX3_digest_176 : decode cX3_digest 176 = .ok (.iinc 3 1, 3) := by decide +kernel
theorem dX3_digest_179 : decode cX3_digest 179 = .ok (.goto (-21), 3) := by decide +kernel
theorem dX3_digest_182 : decode cX3_digest 182 = .ok (.lload_n 1, 1) := by decide +kernel
theorem dX3_digest_183 : decode cX3_digest 183 = .ok (.lreturn, 1) := by decide +kernel
