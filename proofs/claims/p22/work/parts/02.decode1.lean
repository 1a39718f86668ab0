theorem dX0_init_0 : decode cX0_init 0 = .ok (.aload_n 0, 1) := by decide +kernel
theorem dX0_init_1 : decode cX0_init 1 = .ok (.invokespecial 3, 3) := by decide +kernel
theorem dX0_init_4 : decode cX0_init 4 = .ok (.aload_n 0, 1) := by decide +kernel
theorem dX0_init_5 : decode cX0_init 5 = .ok (.bipush 95, 2) := by decide +kernel
theorem dX0_init_7 : decode cX0_init 7 = .ok (.newarray .int, 2) := by decide +kernel
theorem dX0_init_9 : decode cX0_init 9 = .ok (.putfield 9, 3) := by decide +kernel
theorem dX0_init_12 : decode cX0_init 12 = .ok (.aload_n 0, 1) := by decide +kernel
theorem dX0_init_13 : decode cX0_init 13 = .ok (.bipush 95, 2) := by decide +kernel
theorem dX0_init_15 : decode cX0_init 15 = .ok (.newarray .int, 2) := by decide +kernel
theorem dX0_init_17 : decode cX0_init 17 = .ok (.putfield 15, 3) := by decide +kernel
theorem dX0_init_20 : decode cX0_init 20 = .ok (.aload_n 0, 1) := by decide +kernel
theorem dX0_init_21 : decode cX0_init 21 = .ok (.bipush 95, 2) := by decide +kernel
theorem dX0_init_23 : decode cX0_init 23 = .ok (.newarray .int, 2) := by decide +kernel
theorem dX0_init_25 : decode cX0_init 25 = .ok (.putfield 18, 3) := by decide +kernel
theorem dX0_init_28 : decode cX0_init 28 = .ok (.aload_n 0, 1) := by decide +kernel
theorem dX0_init_29 : decode cX0_init 29 = .ok (.bipush 95, 2) := by decide +kernel
theorem dX0_init_31 : decode cX0_init 31 = .ok (.newarray .int, 2) := by decide +kernel
theorem dX0_init_33 : decode cX0_init 33 = .ok (.putfield 21, 3) := by decide +kernel
theorem dX0_init_36 : decode cX0_init 36 = .ok (.aload_n 0, 1) := by decide +kernel
theorem dX0_init_37 : decode cX0_init 37 = .ok (.bipush 95, 2) := by decide +kernel
theorem dX0_init_39 : decode cX0_init 39 = .ok (.newarray .int, 2) := by decide +kernel
theorem dX0_init_41 : decode cX0_init 41 = .ok (.putfield 24, 3) := by decide +kernel
theorem dX0_init_44 : decode cX0_init 44 = .ok (.aload_n 0, 1) := by decide +kernel
theorem dX0_init_45 : decode cX0_init 45 = .ok (.bipush 95, 2) := by decide +kernel
theorem dX0_init_47 : decode cX0_init 47 = .ok (.newarray .int, 2) := by decide +kernel
theorem dX0_init_49 : decode cX0_init 49 = .ok (.putfield 27, 3) := by decide +kernel
theorem dX0_init_52 : decode cX0_init 52 = .ok (.aload_n 0, 1) := by decide +kernel
theorem dX0_init_53 : decode cX0_init 53 = .ok (.bipush 95, 2) := by decide +kernel
theorem dX0_init_55 : decode cX0_init 55 = .ok (.newarray .int, 2) := by decide +kernel
theorem dX0_init_57 : decode cX0_init 57 = .ok (.putfield 30, 3) := by decide +kernel
theorem dX0_init_60 : decode cX0_init 60 = .ok (.aload_n 0, 1) := by decide +kernel
theorem dX0_init_61 : decode cX0_init 61 = .ok (.bipush 95, 2) := by decide +kernel
theorem dX0_init_63 : decode cX0_init 63 = .ok (.newarray .int, 2) := by decide +kernel
theorem dX0_init_65 : decode cX0_init 65 = .ok (.putfield 33, 3) := by decide +kernel
theorem dX0_init_68 : decode cX0_init 68 = .ok (.aload_n 0, 1) := by decide +kernel
theorem dX0_init_69 : decode cX0_init 69 = .ok (.bipush 95, 2) := by decide +kernel
theorem dX0_init_71 : decode cX0_init 71 = .ok (.newarray .int, 2) := by decide +kernel
theorem dX0_init_73 : decode cX0_init 73 = .ok (.putfield 36, 3) := by decide +kernel
theorem dX0_init_76 : decode cX0_init 76 = .ok (.return_, 1) := by decide +kernel
theorem dX0_size_0 : decode cX0_size 0 = .ok (.aload_n 0, 1) := by decide +kernel
theorem dX0_size_1 : decode cX0_size 1 = .ok (.getfield 39, 3) := by decide +kernel
theorem dX0_size_4 : decode cX0_size 4 = .ok (.ireturn, 1) := by decide +kernel
theorem dX0_fill_0 : decode cX0_fill 0 = .ok (.aload_n 1, 1) := by decide +kernel
theorem dX0_fill_1 : decode cX0_fill 1 = .ok (.invokevirtual 43, 3) := by decide +kernel
theorem dX0_fill_4 : decode cX0_fill 4 = .ok (.istore_n 2, 1) := by decide +kernel
theorem dX0_fill_5 : decode cX0_fill 5 = .ok (.aload_n 0, 1) := by decide +kernel
theorem dX0_fill_6 : decode cX0_fill 6 = .ok (.iload_n 2, 1) := by decide +kernel
theorem dX0_fill_7 : decode cX0_fill 7 = .ok (.ifCond .ne 7, 3) := by decide +kernel
theorem dX0_fill_10 : decode cX0_fill 10 = .ok (.iconst 0, 1) := by decide +kernel
theorem dX0_fill_11 : decode cX0_fill 11 = .ok (.goto 8, 3) := by decide +kernel
theorem dX0_fill_14 : decode cX0_fill 14 = .ok (.iconst 2, 1) := by decide +kernel
theorem dX0_fill_15 : decode cX0_fill 15 = .ok (.iload_n 2, 1) := by decide +kernel
theorem dX0_fill_16 : decode cX0_fill 16 = .ok (.imul, 1) := by decide +kernel
theorem dX0_fill_17 : decode cX0_fill 17 = .ok (.iconst 1, 1) := by decide +kernel
theorem dX0_fill_18 : decode cX0_fill 18 = .ok (.isub, 1) := by decide +kernel
theorem dX0_fill_19 : decode cX0_fill 19 = .ok (.putfield 39, 3) := by decide +kernel
theorem dX0_fill_22 : decode cX0_fill 22 = .ok (.aload_n 0, 1) := by decide +kernel
theorem dX0_fill_23 : decode cX0_fill 23 = .ok (.iconst 0, 1) := by decide +kernel
theorem dX0_fill_24 : decode cX0_fill 24 = .ok (.iconst 0, 1) := by decide +kernel
theorem dX0_fill_25 : decode cX0_fill 25 = .ok (.iload_n 2, 1) := by decide +kernel
theorem dX0_fill_26 : decode cX0_fill 26 = .ok (.iconst 0, 1) := by decide +kernel
theorem dX0_fill_27 : decode cX0_fill 27 = .ok (.iconst 0, 1) := by decide +kernel
theorem dX0_fill_28 : decode cX0_fill 28 = .ok (.invokevirtual 48, 3) := by decide +kernel
theorem dX0_fill_31 : decode cX0_fill 31 = .ok (.iconst 0, 1) := by decide +kernel
theorem dX0_fill_32 : decode cX0_fill 32 = .ok (.istore_n 3, 1) := by decide +kernel
theorem dX0_fill_33 : decode cX0_fill 33 = .ok (.iload_n 3, 1) := by decide +kernel
theorem dX0_fill_34 : decode cX0_fill 34 = .ok (.aload_n 0, 1) := by decide +kernel
theorem dX0_fill_35 : decode cX0_fill 35 = .ok (.getfield 39, 3) := by decide +kernel
theorem dX0_fill_38 : decode cX0_fill 38 = .ok (.if_icmp .ge 15, 3) := by decide +kernel
theorem dX0_fill_41 : decode cX0_fill 41 = .ok (.aload_n 0, 1) := by decide +kernel
theorem dX0_fill_42 : decode cX0_fill 42 = .ok (.iload_n 3, 1) := by decide +kernel
theorem dX0_fill_43 : decode cX0_fill 43 = .ok (.aload_n 1, 1) := by decide +kernel
theorem dX0_fill_44 : decode cX0_fill 44 = .ok (.invokevirtual 52, 3) := by decide +kernel
theorem dX0_fill_47 : decode cX0_fill 47 = .ok (.iinc 3 1, 3) := by decide +kernel
theorem dX0_fill_50 : decode cX0_fill 50 = .ok (.goto (-17), 3) := by decide +kernel
theorem dX0_fill_53 : decode cX0_fill 53 = .ok (.return_, 1) := by decide +kernel
theorem dX0_tell_0 : decode cX0_tell 0 = .ok (.iload_n 2, 1) := by decide +kernel
theorem dX0_tell_1 : decode cX0_tell 1 = .ok (.tableswitch 93 0 5 #[39, 48, 57, 66, 75, 84], 39) := by decide +kernel
theorem dX0_tell_40 : decode cX0_tell 40 = .ok (.aload_n 0, 1) := by decide +kernel
theorem dX0_tell_41 : decode cX0_tell 41 = .ok (.getfield 9, 3) := by decide +kernel
theorem dX0_tell_44 : decode cX0_tell 44 = .ok (.iload_n 1, 1) := by decide +kernel
theorem dX0_tell_45 : decode cX0_tell 45 = .ok (.invokestatic 56, 3) := by decide +kernel
theorem dX0_tell_48 : decode cX0_tell 48 = .ok (.ireturn, 1) := by decide +kernel
theorem dX0_tell_49 : decode cX0_tell 49 = .ok (.aload_n 0, 1) := by decide +kernel
theorem dX0_tell_50 : decode cX0_tell 50 = .ok (.getfield 18, 3) := by decide +kernel
theorem dX0_tell_53 : decode cX0_tell 53 = .ok (.iload_n 1, 1) := by decide +kernel
theorem dX0_tell_54 : decode cX0_tell 54 = .ok (.invokestatic 56, 3) := by decide +kernel
theorem dX0_tell_57 : decode cX0_tell 57 = .ok (.ireturn, 1) := by decide +kernel
theorem dX0_tell_58 : decode cX0_tell 58 = .ok (.aload_n 0, 1) := by decide +kernel
theorem dX0_tell_59 : decode cX0_tell 59 = .ok (.getfield 21, 3) := by decide +kernel
theorem dX0_tell_62 : decode cX0_tell 62 = .ok (.iload_n 1, 1) := by decide +kernel
theorem dX0_tell_63 : decode cX0_tell 63 = .ok (.invokestatic 56, 3) := by decide +kernel
theorem dX0_tell_66 : decode cX0_tell 66 = .ok (.ireturn, 1) := by decide +kernel
theorem dX0_tell_67 : decode cX0_tell 67 = .ok (.aload_n 0, 1) := by decide +kernel
theorem dX0_tell_68 : decode cX0_tell 68 = .ok (.getfield 24, 3) := by decide +kernel
theorem dX0_tell_71 : decode cX0_tell 71 = .ok (.iload_n 1, 1) := by decide +kernel
theorem dX0_tell_72 : decode cX0_tell 72 = .ok (.invokestatic 56, 3) := by decide +kernel
theorem dX0_tell_75 : decode cX0_tell 75 = .ok (.ireturn, 1) := by decide +kernel
theorem dX0_tell_76 : decode cX0_tell 76 = .ok (.aload_n 0, 1) := by decide +kernel
theorem dX0_tell_77 : decode cX0_tell 77 = .ok (.getfield 27, 3) := by decide +kernel
theorem dX0_tell_80 : decode cX0_tell 80 = .ok (.iload_n 1, 1) := by decide +kernel
theorem dX0_tell_81 : decode cX0_tell 81 = .ok (.invokestatic 56, 3) := by decide +kernel
theorem dX0_tell_84 : decode cX0_tell 84 = .ok (.ireturn, 1) := by decide +kernel
theorem dX0_tell_85 : decode cX0_tell 85 = .ok (.aload_n 0, 1) := by decide +kernel
theorem dX0_tell_86 : decode cX0_tell 86 = .ok (.getfield 30, 3) := by decide +kernel
theorem dX0_tell_89 : decode cX0_tell 89 = .ok (.iload_n 1, 1) := by decide +kernel
theorem dX0_tell_90 : decode cX0_tell 90 = .ok (.invokestatic 56, 3) := by decide +kernel
theorem dX0_tell_93 : decode cX0_tell 93 = .ok (.ireturn, 1) := by decide +kernel
theorem dX0_tell_94 : decode cX0_tell 94 = .ok (.aload_n 0, 1) := by decide +kernel
theorem dX0_tell_95 : decode cX0_tell 95 = .ok (.getfield 33, 3) := by decide +kernel
theorem dX0_tell_98 : decode cX0_tell 98 = .ok (.iload_n 1, 1) := by decide +kernel
theorem dX0_tell_99 : decode cX0_tell 99 = .ok (.invokestatic 56, 3) := by decide +kernel
theorem dX0_tell_102 : decode cX0_tell 102 = .ok (.ireturn, 1) := by decide +kernel
theorem dX0_tellWalk_0 : decode cX0_tellWalk 0 = .ok (.aload_n 0, 1) := by decide +kernel
theorem dX0_tellWalk_1 : decode cX0_tellWalk 1 = .ok (.iload_n 1, 1) := by decide +kernel
theorem dX0_tellWalk_2 : decode cX0_tellWalk 2 = .ok (.invokevirtual 60, 3) := by decide +kernel
theorem dX0_tellWalk_5 : decode cX0_tellWalk 5 = .ok (.istore_n 3, 1) := by decide +kernel
theorem dX0_tellWalk_6 : decode cX0_tellWalk 6 = .ok (.iload_n 2, 1) := by decide +kernel
theorem dX0_tellWalk_7 : decode cX0_tellWalk 7 = .ok (.lookupswitch 43 #[(0, 25), (1, 34)], 25) := by decide +kernel
theorem dX0_tellWalk_32 : decode cX0_tellWalk 32 = .ok (.aload_n 0, 1) := by decide +kernel
theorem dX0_tellWalk_33 : decode cX0_tellWalk 33 = .ok (.getfield 33, 3) := by decide +kernel
theorem dX0_tellWalk_36 : decode cX0_tellWalk 36 = .ok (.iload_n 3, 1) := by decide +kernel
theorem dX0_tellWalk_37 : decode cX0_tellWalk 37 = .ok (.invokestatic 56, 3) := by decide +kernel
theorem dX0_tellWalk_40 : decode cX0_tellWalk 40 = .ok (.ireturn, 1) := by decide +kernel
theorem dX0_tellWalk_41 : decode cX0_tellWalk 41 = .ok (.aload_n 0, 1) := by decide +kernel
theorem dX0_tellWalk_42 : decode cX0_tellWalk 42 = .ok (.getfield 21, 3) := by decide +kernel
theorem dX0_tellWalk_45 : decode cX0_tellWalk 45 = .ok (.iload_n 3, 1) := by decide +kernel
theorem dX0_tellWalk_46 : decode cX0_tellWalk 46 = .ok (.invokestatic 56, 3) := by decide +kernel
theorem dX0_tellWalk_49 : decode cX0_tellWalk 49 = .ok (.ireturn, 1) := by decide +kernel
theorem dX0_tellWalk_50 : decode cX0_tellWalk 50 = .ok (.aload_n 0, 1) := by decide +kernel
theorem dX0_tellWalk_51 : decode cX0_tellWalk 51 = .ok (.getfield 21, 3) := by decide +kernel
theorem dX0_tellWalk_54 : decode cX0_tellWalk 54 = .ok (.iload_n 3, 1) := by decide +kernel
theorem dX0_tellWalk_55 : decode cX0_tellWalk 55 = .ok (.invokestatic 56, 3) := by decide +kernel
theorem dX0_tellWalk_58 : decode cX0_tellWalk 58 = .ok (.iload_n 1, 1) := by decide +kernel
theorem dX0_tellWalk_59 : decode cX0_tellWalk 59 = .ok (.invokestatic 64, 3) := by decide +kernel
theorem dX0_tellWalk_62 : decode cX0_tellWalk 62 = .ok (.ireturn, 1) := by decide +kernel
theorem dX0_postCount_0 : decode cX0_postCount 0 = .ok (.iconst 0, 1) := by decide +kernel
theorem dX0_postCount_1 : decode cX0_postCount 1 = .ok (.istore_n 1, 1) := by decide +kernel
theorem dX0_postCount_2 : decode cX0_postCount 2 = .ok (.iconst 0, 1) := by decide +kernel
theorem dX0_postCount_3 : decode cX0_postCount 3 = .ok (.istore_n 2, 1) := by decide +kernel
theorem dX0_postCount_4 : decode cX0_postCount 4 = .ok (.iload_n 2, 1) := by decide +kernel
theorem dX0_postCount_5 : decode cX0_postCount 5 = .ok (.aload_n 0, 1) := by decide +kernel
theorem dX0_postCount_6 : decode cX0_postCount 6 = .ok (.getfield 39, 3) := by decide +kernel
theorem dX0_postCount_9 : decode cX0_postCount 9 = .ok (.if_icmp .ge 20, 3) := by decide +kernel
theorem dX0_postCount_12 : decode cX0_postCount 12 = .ok (.aload_n 0, 1) := by decide +kernel
theorem dX0_postCount_13 : decode cX0_postCount 13 = .ok (.iload_n 2, 1) := by decide +kernel
theorem dX0_postCount_14 : decode cX0_postCount 14 = .ok (.invokevirtual 68, 3) := by decide +kernel
theorem dX0_postCount_17 : decode cX0_postCount 17 = .ok (.ifCond .eq 6, 3) := by decide +kernel
theorem dX0_postCount_20 : decode cX0_postCount 20 = .ok (.iinc 1 1, 3) := by decide +kernel
theorem dX0_postCount_23 : decode cX0_postCount 23 = .ok (.iinc 2 1, 3) := by decide +kernel
theorem dX0_postCount_26 : decode cX0_postCount 26 = .ok (.goto (-22), 3) := by decide +kernel
theorem dX0_postCount_29 : decode cX0_postCount 29 = .ok (.iload_n 1, 1) := by decide +kernel
theorem dX0_postCount_30 : decode cX0_postCount 30 = .ok (.ireturn, 1) := by decide +kernel
theorem dX0_postBits_0 : decode cX0_postBits 0 = .ok (.iconst 0, 1) := by decide +kernel
theorem dX0_postBits_1 : decode cX0_postBits 1 = .ok (.istore_n 1, 1) := by decide +kernel
theorem dX0_postBits_2 : decode cX0_postBits 2 = .ok (.iconst 0, 1) := by decide +kernel
theorem dX0_postBits_3 : decode cX0_postBits 3 = .ok (.istore_n 2, 1) := by decide +kernel
theorem dX0_postBits_4 : decode cX0_postBits 4 = .ok (.iload_n 2, 1) := by decide +kernel
theorem dX0_postBits_5 : decode cX0_postBits 5 = .ok (.aload_n 0, 1) := by decide +kernel
theorem dX0_postBits_6 : decode cX0_postBits 6 = .ok (.getfield 39, 3) := by decide +kernel
theorem dX0_postBits_9 : decode cX0_postBits 9 = .ok (.if_icmp .ge 30, 3) := by decide +kernel
theorem dX0_postBits_12 : decode cX0_postBits 12 = .ok (.aload_n 0, 1) := by decide +kernel
theorem dX0_postBits_13 : decode cX0_postBits 13 = .ok (.iload_n 2, 1) := by decide +kernel
theorem dX0_postBits_14 : decode cX0_postBits 14 = .ok (.invokevirtual 68, 3) := by decide +kernel
theorem dX0_postBits_17 : decode cX0_postBits 17 = .ok (.ifCond .eq 16, 3) := by decide +kernel
theorem dX0_postBits_20 : decode cX0_postBits 20 = .ok (.iload_n 1, 1) := by decide +kernel
theorem dX0_postBits_21 : decode cX0_postBits 21 = .ok (.iconst 1, 1) := by decide +kernel
theorem dX0_postBits_22 : decode cX0_postBits 22 = .ok (.aload_n 0, 1) := by decide +kernel
theorem dX0_postBits_23 : decode cX0_postBits 23 = .ok (.getfield 9, 3) := by decide +kernel
theorem dX0_postBits_26 : decode cX0_postBits 26 = .ok (.iload_n 2, 1) := by decide +kernel
theorem dX0_postBits_27 : decode cX0_postBits 27 = .ok (.invokestatic 56, 3) := by decide +kernel
theorem dX0_postBits_30 : decode cX0_postBits 30 = .ok (.ishl, 1) := by decide +kernel
theorem dX0_postBits_31 : decode cX0_postBits 31 = .ok (.ior, 1) := by decide +kernel
theorem dX0_postBits_32 : decode cX0_postBits 32 = .ok (.istore_n 1, 1) := by decide +kernel
theorem dX0_postBits_33 : decode cX0_postBits 33 = .ok (.iinc 2 1, 3) := by decide +kernel
theorem dX0_postBits_36 : decode cX0_postBits 36 = .ok (.goto (-32), 3) := by decide +kernel
theorem dX0_postBits_39 : decode cX0_postBits 39 = .ok (.iload_n 1, 1) := by decide +kernel
theorem dX0_postBits_40 : decode cX0_postBits 40 = .ok (.ireturn, 1) := by decide +kernel
theorem dX0_longestPath_0 : decode cX0_longestPath 0 = .ok (.iconst 0, 1) := by decide +kernel
theorem dX0_longestPath_1 : decode cX0_longestPath 1 = .ok (.istore_n 1, 1) := by decide +kernel
theorem dX0_longestPath_2 : decode cX0_longestPath 2 = .ok (.iconst 0, 1) := by decide +kernel
theorem dX0_longestPath_3 : decode cX0_longestPath 3 = .ok (.istore_n 2, 1) := by decide +kernel
theorem dX0_longestPath_4 : decode cX0_longestPath 4 = .ok (.iload_n 2, 1) := by decide +kernel
theorem dX0_longestPath_5 : decode cX0_longestPath 5 = .ok (.aload_n 0, 1) := by decide +kernel
theorem dX0_longestPath_6 : decode cX0_longestPath 6 = .ok (.getfield 39, 3) := by decide +kernel
theorem dX0_longestPath_9 : decode cX0_longestPath 9 = .ok (.if_icmp .ge 22, 3) := by decide +kernel
theorem dX0_longestPath_12 : decode cX0_longestPath 12 = .ok (.iload_n 1, 1) := by decide +kernel
theorem dX0_longestPath_13 : decode cX0_longestPath 13 = .ok (.aload_n 0, 1) := by decide +kernel
theorem dX0_longestPath_14 : decode cX0_longestPath 14 = .ok (.getfield 33, 3) := by decide +kernel
theorem dX0_longestPath_17 : decode cX0_longestPath 17 = .ok (.iload_n 2, 1) := by decide +kernel
theorem dX0_longestPath_18 : decode cX0_longestPath 18 = .ok (.invokestatic 56, 3) := by decide +kernel
theorem dX0_longestPath_21 : decode cX0_longestPath 21 = .ok (.invokestatic 72, 3) := by decide +kernel
theorem dX0_longestPath_24 : decode cX0_longestPath 24 = .ok (.istore_n 1, 1) := by decide +kernel
theorem dX0_longestPath_25 : decode cX0_longestPath 25 = .ok (.iinc 2 1, 3) := by decide +kernel
theorem dX0_longestPath_28 : decode cX0_longestPath 28 = .ok (.goto (-24), 3) := by decide +kernel
theorem dX0_longestPath_31 : decode cX0_longestPath 31 = .ok (.iload_n 1, 1) := by decide +kernel
theorem dX0_longestPath_32 : decode cX0_longestPath 32 = .ok (.ireturn, 1) := by decide +kernel
theorem dX0_addedPaths_0 : decode cX0_addedPaths 0 = .ok (.iconst 0, 1) := by decide +kernel
theorem dX0_addedPaths_1 : decode cX0_addedPaths 1 = .ok (.istore_n 1, 1) := by decide +kernel
theorem dX0_addedPaths_2 : decode cX0_addedPaths 2 = .ok (.iconst 0, 1) := by decide +kernel
theorem dX0_addedPaths_3 : decode cX0_addedPaths 3 = .ok (.istore_n 2, 1) := by decide +kernel
theorem dX0_addedPaths_4 : decode cX0_addedPaths 4 = .ok (.iload_n 2, 1) := by decide +kernel
theorem dX0_addedPaths_5 : decode cX0_addedPaths 5 = .ok (.aload_n 0, 1) := by decide +kernel
theorem dX0_addedPaths_6 : decode cX0_addedPaths 6 = .ok (.getfield 39, 3) := by decide +kernel
theorem dX0_addedPaths_9 : decode cX0_addedPaths 9 = .ok (.if_icmp .ge 28, 3) := by decide +kernel
theorem dX0_addedPaths_12 : decode cX0_addedPaths 12 = .ok (.aload_n 0, 1) := by decide +kernel
theorem dX0_addedPaths_13 : decode cX0_addedPaths 13 = .ok (.iload_n 2, 1) := by decide +kernel
theorem dX0_addedPaths_14 : decode cX0_addedPaths 14 = .ok (.invokevirtual 68, 3) := by decide +kernel
theorem dX0_addedPaths_17 : decode cX0_addedPaths 17 = .ok (.ifCond .ne 14, 3) := by decide +kernel
theorem dX0_addedPaths_20 : decode cX0_addedPaths 20 = .ok (.iload_n 1, 1) := by decide +kernel
theorem dX0_addedPaths_21 : decode cX0_addedPaths 21 = .ok (.aload_n 0, 1) := by decide +kernel
theorem dX0_addedPaths_22 : decode cX0_addedPaths 22 = .ok (.getfield 33, 3) := by decide +kernel
theorem dX0_addedPaths_25 : decode cX0_addedPaths 25 = .ok (.iload_n 2, 1) := by decide +kernel
theorem dX0_addedPaths_26 : decode cX0_addedPaths 26 = .ok (.invokestatic 56, 3) := by decide +kernel
theorem dX0_addedPaths_29 : decode cX0_addedPaths 29 = .ok (.iadd, 1) := by decide +kernel
theorem dX0_addedPaths_30 : decode cX0_addedPaths 30 = .ok (.istore_n 1, 1) := by decide +kernel
theorem dX0_addedPaths_31 : decode cX0_addedPaths 31 = .ok (.iinc 2 1, 3) := by decide +kernel
theorem dX0_addedPaths_34 : decode cX0_addedPaths 34 = .ok (.goto (-30), 3) := by decide +kernel
theorem dX0_addedPaths_37 : decode cX0_addedPaths 37 = .ok (.iload_n 1, 1) := by decide +kernel
theorem dX0_addedPaths_38 : decode cX0_addedPaths 38 = .ok (.ireturn, 1) := by decide +kernel
theorem dX0_isPost_0 : decode cX0_isPost 0 = .ok (.aload_n 0, 1) := by decide +kernel
theorem dX0_isPost_1 : decode cX0_isPost 1 = .ok (.getfield 9, 3) := by decide +kernel
theorem dX0_isPost_4 : decode cX0_isPost 4 = .ok (.iload_n 1, 1) := by decide +kernel
theorem dX0_isPost_5 : decode cX0_isPost 5 = .ok (.invokestatic 56, 3) := by decide +kernel
theorem dX0_isPost_8 : decode cX0_isPost 8 = .ok (.iconst (-1), 1) := by decide +kernel
theorem dX0_isPost_9 : decode cX0_isPost 9 = .ok (.if_icmp .eq 7, 3) := by decide +kernel
theorem dX0_isPost_12 : decode cX0_isPost 12 = .ok (.iconst 1, 1) := by decide +kernel
theorem dX0_isPost_13 : decode cX0_isPost 13 = .ok (.goto 4, 3) := by decide +kernel
theorem dX0_isPost_16 : decode cX0_isPost 16 = .ok (.iconst 0, 1) := by decide +kernel
theorem dX0_isPost_17 : decode cX0_isPost 17 = .ok (.ireturn, 1) := by decide +kernel
theorem dX0_placeBy_0 : decode cX0_placeBy 0 = .ok (.iconst 0, 1) := by decide +kernel
theorem dX0_placeBy_1 : decode cX0_placeBy 1 = .ok (.istore_n 2, 1) := by decide +kernel
theorem dX0_placeBy_2 : decode cX0_placeBy 2 = .ok (.iconst 0, 1) := by decide +kernel
theorem dX0_placeBy_3 : decode cX0_placeBy 3 = .ok (.istore_n 3, 1) := by decide +kernel
theorem dX0_placeBy_4 : decode cX0_placeBy 4 = .ok (.iload_n 3, 1) := by decide +kernel
theorem dX0_placeBy_5 : decode cX0_placeBy 5 = .ok (.bipush 16, 2) := by decide +kernel
theorem dX0_placeBy_7 : decode cX0_placeBy 7 = .ok (.if_icmp .ge 56, 3) := by decide +kernel
theorem dX0_placeBy_10 : decode cX0_placeBy 10 = .ok (.aload_n 0, 1) := by decide +kernel
theorem dX0_placeBy_11 : decode cX0_placeBy 11 = .ok (.iload_n 2, 1) := by decide +kernel
theorem dX0_placeBy_12 : decode cX0_placeBy 12 = .ok (.invokevirtual 68, 3) := by decide +kernel
theorem dX0_placeBy_15 : decode cX0_placeBy 15 = .ok (.ifCond .eq 48, 3) := by decide +kernel
theorem dX0_placeBy_18 : decode cX0_placeBy 18 = .ok (.iload_n 1, 1) := by decide +kernel
theorem dX0_placeBy_19 : decode cX0_placeBy 19 = .ok (.aload_n 0, 1) := by decide +kernel
theorem dX0_placeBy_20 : decode cX0_placeBy 20 = .ok (.getfield 9, 3) := by decide +kernel
theorem dX0_placeBy_23 : decode cX0_placeBy 23 = .ok (.iload_n 2, 1) := by decide +kernel
theorem dX0_placeBy_24 : decode cX0_placeBy 24 = .ok (.invokestatic 56, 3) := by decide +kernel
theorem dX0_placeBy_27 : decode cX0_placeBy 27 = .ok (.invokestatic 77, 3) := by decide +kernel
theorem dX0_placeBy_30 : decode cX0_placeBy 30 = .ok (.istore 4, 2) := by decide +kernel
theorem dX0_placeBy_32 : decode cX0_placeBy 32 = .ok (.iload 4, 2) := by decide +kernel
theorem dX0_placeBy_34 : decode cX0_placeBy 34 = .ok (.ifCond .eq 14, 3) := by decide +kernel
theorem dX0_placeBy_37 : decode cX0_placeBy 37 = .ok (.aload_n 0, 1) := by decide +kernel
theorem dX0_placeBy_38 : decode cX0_placeBy 38 = .ok (.getfield 30, 3) := by decide +kernel
theorem dX0_placeBy_41 : decode cX0_placeBy 41 = .ok (.iload_n 2, 1) := by decide +kernel
theorem dX0_placeBy_42 : decode cX0_placeBy 42 = .ok (.invokestatic 56, 3) := by decide +kernel
theorem dX0_placeBy_45 : decode cX0_placeBy 45 = .ok (.goto 11, 3) := by decide +kernel
theorem dX0_placeBy_48 : decode cX0_placeBy 48 = .ok (.aload_n 0, 1) := by decide +kernel
theorem dX0_placeBy_49 : decode cX0_placeBy 49 = .ok (.getfield 27, 3) := by decide +kernel
theorem dX0_placeBy_52 : decode cX0_placeBy 52 = .ok (.iload_n 2, 1) := by decide +kernel
theorem dX0_placeBy_53 : decode cX0_placeBy 53 = .ok (.invokestatic 56, 3) := by decide +kernel
theorem dX0_placeBy_56 : decode cX0_placeBy 56 = .ok (.istore_n 2, 1) := by decide +kernel
theorem dX0_placeBy_57 : decode cX0_placeBy 57 = .ok (.iinc 3 1, 3) := by decide +kernel
theorem dX0_placeBy_60 : decode cX0_placeBy 60 = .ok (.goto (-56), 3) := by decide +kernel
theorem dX0_placeBy_63 : decode cX0_placeBy 63 = .ok (.iload_n 2, 1) := by decide +kernel
theorem dX0_placeBy_64 : decode cX0_placeBy 64 = .ok (.ireturn, 1) := by decide +kernel
theorem dX0_begin_0 : decode cX0_begin 0 = .ok (.aload_n 0, 1) := by decide +kernel
theorem dX0_begin_1 : decode cX0_begin 1 = .ok (.getfield 15, 3) := by decide +kernel
theorem dX0_begin_4 : decode cX0_begin 4 = .ok (.iload_n 1, 1) := by decide +kernel
theorem dX0_begin_5 : decode cX0_begin 5 = .ok (.iload_n 2, 1) := by decide +kernel
theorem dX0_begin_6 : decode cX0_begin 6 = .ok (.invokestatic 81, 3) := by decide +kernel
theorem dX0_begin_9 : decode cX0_begin 9 = .ok (.aload_n 0, 1) := by decide +kernel
theorem dX0_begin_10 : decode cX0_begin 10 = .ok (.getfield 18, 3) := by decide +kernel
theorem dX0_begin_13 : decode cX0_begin 13 = .ok (.iload_n 1, 1) := by decide +kernel
theorem dX0_begin_14 : decode cX0_begin 14 = .ok (.iload_n 3, 1) := by decide +kernel
theorem dX0_begin_15 : decode cX0_begin 15 = .ok (.invokestatic 81, 3) := by decide +kernel
theorem dX0_begin_18 : decode cX0_begin 18 = .ok (.aload_n 0, 1) := by decide +kernel
theorem dX0_begin_19 : decode cX0_begin 19 = .ok (.getfield 33, 3) := by decide +kernel
theorem dX0_begin_22 : decode cX0_begin 22 = .ok (.iload_n 1, 1) := by decide +kernel
theorem dX0_begin_23 : decode cX0_begin 23 = .ok (.iload 4, 2) := by decide +kernel
theorem dX0_begin_25 : decode cX0_begin 25 = .ok (.invokestatic 81, 3) := by decide +kernel
theorem dX0_begin_28 : decode cX0_begin 28 = .ok (.aload_n 0, 1) := by decide +kernel
theorem dX0_begin_29 : decode cX0_begin 29 = .ok (.getfield 36, 3) := by decide +kernel
theorem dX0_begin_32 : decode cX0_begin 32 = .ok (.iload_n 1, 1) := by decide +kernel
theorem dX0_begin_33 : decode cX0_begin 33 = .ok (.iload 5, 2) := by decide +kernel
theorem dX0_begin_35 : decode cX0_begin 35 = .ok (.invokestatic 81, 3) := by decide +kernel
theorem dX0_begin_38 : decode cX0_begin 38 = .ok (.return_, 1) := by decide +kernel
theorem dX0_fillAt_0 : decode cX0_fillAt 0 = .ok (.aload_n 0, 1) := by decide +kernel
theorem dX0_fillAt_1 : decode cX0_fillAt 1 = .ok (.getfield 15, 3) := by decide +kernel
theorem dX0_fillAt_4 : decode cX0_fillAt 4 = .ok (.iload_n 1, 1) := by decide +kernel
theorem dX0_fillAt_5 : decode cX0_fillAt 5 = .ok (.invokestatic 56, 3) := by decide +kernel
theorem dX0_fillAt_8 : decode cX0_fillAt 8 = .ok (.istore_n 3, 1) := by decide +kernel
theorem dX0_fillAt_9 : decode cX0_fillAt 9 = .ok (.iload_n 3, 1) := by decide +kernel
theorem dX0_fillAt_10 : decode cX0_fillAt 10 = .ok (.aload_n 0, 1) := by decide +kernel
theorem dX0_fillAt_11 : decode cX0_fillAt 11 = .ok (.getfield 18, 3) := by decide +kernel
theorem dX0_fillAt_14 : decode cX0_fillAt 14 = .ok (.iload_n 1, 1) := by decide +kernel
theorem dX0_fillAt_15 : decode cX0_fillAt 15 = .ok (.invokestatic 56, 3) := by decide +kernel
theorem dX0_fillAt_18 : decode cX0_fillAt 18 = .ok (.iadd, 1) := by decide +kernel
theorem dX0_fillAt_19 : decode cX0_fillAt 19 = .ok (.iconst 1, 1) := by decide +kernel
theorem dX0_fillAt_20 : decode cX0_fillAt 20 = .ok (.isub, 1) := by decide +kernel
theorem dX0_fillAt_21 : decode cX0_fillAt 21 = .ok (.istore 4, 2) := by decide +kernel
theorem dX0_fillAt_23 : decode cX0_fillAt 23 = .ok (.aload_n 2, 1) := by decide +kernel
theorem dX0_fillAt_24 : decode cX0_fillAt 24 = .ok (.iload_n 3, 1) := by decide +kernel
theorem dX0_fillAt_25 : decode cX0_fillAt 25 = .ok (.invokevirtual 85, 3) := by decide +kernel
theorem dX0_fillAt_28 : decode cX0_fillAt 28 = .ok (.istore 5, 2) := by decide +kernel
theorem dX0_fillAt_30 : decode cX0_fillAt 30 = .ok (.aload_n 2, 1) := by decide +kernel
theorem dX0_fillAt_31 : decode cX0_fillAt 31 = .ok (.iload 4, 2) := by decide +kernel
theorem dX0_fillAt_33 : decode cX0_fillAt 33 = .ok (.invokevirtual 85, 3) := by decide +kernel
theorem dX0_fillAt_36 : decode cX0_fillAt 36 = .ok (.istore 6, 2) := by decide +kernel
theorem dX0_fillAt_38 : decode cX0_fillAt 38 = .ok (.aload_n 0, 1) := by decide +kernel
theorem dX0_fillAt_39 : decode cX0_fillAt 39 = .ok (.getfield 21, 3) := by decide +kernel
theorem dX0_fillAt_42 : decode cX0_fillAt 42 = .ok (.iload_n 1, 1) := by decide +kernel
theorem dX0_fillAt_43 : decode cX0_fillAt 43 = .ok (.iload 5, 2) := by decide +kernel
theorem dX0_fillAt_45 : decode cX0_fillAt 45 = .ok (.invokestatic 81, 3) := by decide +kernel
theorem dX0_fillAt_48 : decode cX0_fillAt 48 = .ok (.aload_n 0, 1) := by decide +kernel
theorem dX0_fillAt_49 : decode cX0_fillAt 49 = .ok (.getfield 24, 3) := by decide +kernel
theorem dX0_fillAt_52 : decode cX0_fillAt 52 = .ok (.iload_n 1, 1) := by decide +kernel
theorem dX0_fillAt_53 : decode cX0_fillAt 53 = .ok (.iload 6, 2) := by decide +kernel
theorem dX0_fillAt_55 : decode cX0_fillAt 55 = .ok (.invokestatic 81, 3) := by decide +kernel
theorem dX0_fillAt_58 : decode cX0_fillAt 58 = .ok (.aload_n 0, 1) := by decide +kernel
theorem dX0_fillAt_59 : decode cX0_fillAt 59 = .ok (.getfield 9, 3) := by decide +kernel
theorem dX0_fillAt_62 : decode cX0_fillAt 62 = .ok (.iload_n 1, 1) := by decide +kernel
theorem dX0_fillAt_63 : decode cX0_fillAt 63 = .ok (.iload 5, 2) := by decide +kernel
theorem dX0_fillAt_65 : decode cX0_fillAt 65 = .ok (.iload 6, 2) := by decide +kernel
theorem dX0_fillAt_67 : decode cX0_fillAt 67 = .ok (.invokestatic 64, 3) := by decide +kernel
theorem dX0_fillAt_70 : decode cX0_fillAt 70 = .ok (.invokestatic 81, 3) := by decide +kernel
theorem dX0_fillAt_73 : decode cX0_fillAt 73 = .ok (.aload_n 0, 1) := by decide +kernel
theorem dX0_fillAt_74 : decode cX0_fillAt 74 = .ok (.getfield 27, 3) := by decide +kernel
theorem dX0_fillAt_77 : decode cX0_fillAt 77 = .ok (.iload_n 1, 1) := by decide +kernel
theorem dX0_fillAt_78 : decode cX0_fillAt 78 = .ok (.iconst (-1), 1) := by decide +kernel
theorem dX0_fillAt_79 : decode cX0_fillAt 79 = .ok (.invokestatic 81, 3) := by decide +kernel
theorem dX0_fillAt_82 : decode cX0_fillAt 82 = .ok (.aload_n 0, 1) := by decide +kernel
theorem dX0_fillAt_83 : decode cX0_fillAt 83 = .ok (.getfield 30, 3) := by decide +kernel
theorem dX0_fillAt_86 : decode cX0_fillAt 86 = .ok (.iload_n 1, 1) := by decide +kernel
theorem dX0_fillAt_87 : decode cX0_fillAt 87 = .ok (.iconst (-1), 1) := by decide +kernel
theorem dX0_fillAt_88 : decode cX0_fillAt 88 = .ok (.invokestatic 81, 3) := by decide +kernel
theorem dX0_fillAt_91 : decode cX0_fillAt 91 = .ok (.iload_n 3, 1) := by decide +kernel
theorem dX0_fillAt_92 : decode cX0_fillAt 92 = .ok (.iload 4, 2) := by decide +kernel
theorem dX0_fillAt_94 : decode cX0_fillAt 94 = .ok (.if_icmp .ge 9, 3) := by decide +kernel
theorem dX0_fillAt_97 : decode cX0_fillAt 97 = .ok (.aload_n 0, 1) := by decide +kernel
theorem dX0_fillAt_98 : decode cX0_fillAt 98 = .ok (.iload_n 1, 1) := by decide +kernel
theorem dX0_fillAt_99 : decode cX0_fillAt 99 = .ok (.aload_n 2, 1) := by decide +kernel
theorem dX0_fillAt_100 : decode cX0_fillAt 100 = .ok (.invokevirtual 88, 3) := by decide +kernel
theorem dX0_fillAt_103 : decode cX0_fillAt 103 = .ok (.return_, 1) := by decide +kernel
theorem dX0_fillSides_0 : decode cX0_fillSides 0 = .ok (.aload_n 0, 1) := by decide +kernel
theorem dX0_fillSides_1 : decode cX0_fillSides 1 = .ok (.getfield 15, 3) := by decide +kernel
theorem dX0_fillSides_4 : decode cX0_fillSides 4 = .ok (.iload_n 1, 1) := by decide +kernel
theorem dX0_fillSides_5 : decode cX0_fillSides 5 = .ok (.invokestatic 56, 3) := by decide +kernel
theorem dX0_fillSides_8 : decode cX0_fillSides 8 = .ok (.istore_n 3, 1) := by decide +kernel
theorem dX0_fillSides_9 : decode cX0_fillSides 9 = .ok (.iload_n 3, 1) := by decide +kernel
theorem dX0_fillSides_10 : decode cX0_fillSides 10 = .ok (.aload_n 0, 1) := by decide +kernel
theorem dX0_fillSides_11 : decode cX0_fillSides 11 = .ok (.getfield 18, 3) := by decide +kernel
theorem dX0_fillSides_14 : decode cX0_fillSides 14 = .ok (.iload_n 1, 1) := by decide +kernel
theorem dX0_fillSides_15 : decode cX0_fillSides 15 = .ok (.invokestatic 56, 3) := by decide +kernel
theorem dX0_fillSides_18 : decode cX0_fillSides 18 = .ok (.iadd, 1) := by decide +kernel
theorem dX0_fillSides_19 : decode cX0_fillSides 19 = .ok (.istore 4, 2) := by decide +kernel
theorem dX0_fillSides_21 : decode cX0_fillSides 21 = .ok (.iload_n 3, 1) := by decide +kernel
theorem dX0_fillSides_22 : decode cX0_fillSides 22 = .ok (.istore 5, 2) := by decide +kernel
theorem dX0_fillSides_24 : decode cX0_fillSides 24 = .ok (.iload 5, 2) := by decide +kernel
theorem dX0_fillSides_26 : decode cX0_fillSides 26 = .ok (.iload 4, 2) := by decide +kernel
theorem dX0_fillSides_28 : decode cX0_fillSides 28 = .ok (.if_icmp .ge 29, 3) := by decide +kernel
theorem dX0_fillSides_31 : decode cX0_fillSides 31 = .ok (.aload_n 2, 1) := by decide +kernel
theorem dX0_fillSides_32 : decode cX0_fillSides 32 = .ok (.iload 5, 2) := by decide +kernel
theorem dX0_fillSides_34 : decode cX0_fillSides 34 = .ok (.invokevirtual 85, 3) := by decide +kernel
theorem dX0_fillSides_37 : decode cX0_fillSides 37 = .ok (.aload_n 0, 1) := by decide +kernel
theorem dX0_fillSides_38 : decode cX0_fillSides 38 = .ok (.getfield 9, 3) := by decide +kernel
theorem dX0_fillSides_41 : decode cX0_fillSides 41 = .ok (.iload_n 1, 1) := by decide +kernel
theorem dX0_fillSides_42 : decode cX0_fillSides 42 = .ok (.invokestatic 56, 3) := by decide +kernel
theorem dX0_fillSides_45 : decode cX0_fillSides 45 = .ok (.invokestatic 77, 3) := by decide +kernel
theorem dX0_fillSides_48 : decode cX0_fillSides 48 = .ok (.ifCond .ne 9, 3) := by decide +kernel
theorem dX0_fillSides_51 : decode cX0_fillSides 51 = .ok (.iinc 5 1, 3) := by decide +kernel
theorem dX0_fillSides_54 : decode cX0_fillSides 54 = .ok (.goto (-30), 3) := by decide +kernel
theorem dX0_fillSides_57 : decode cX0_fillSides 57 = .ok (.aload_n 0, 1) := by decide +kernel
theorem dX0_fillSides_58 : decode cX0_fillSides 58 = .ok (.getfield 33, 3) := by decide +kernel
theorem dX0_fillSides_61 : decode cX0_fillSides 61 = .ok (.iload_n 1, 1) := by decide +kernel
theorem dX0_fillSides_62 : decode cX0_fillSides 62 = .ok (.invokestatic 56, 3) := by decide +kernel
theorem dX0_fillSides_65 : decode cX0_fillSides 65 = .ok (.iconst 1, 1) := by decide +kernel
theorem dX0_fillSides_66 : decode cX0_fillSides 66 = .ok (.iadd, 1) := by decide +kernel
theorem dX0_fillSides_67 : decode cX0_fillSides 67 = .ok (.istore 6, 2) := by decide +kernel
theorem dX0_fillSides_69 : decode cX0_fillSides 69 = .ok (.iload_n 1, 1) := by decide +kernel
theorem dX0_fillSides_70 : decode cX0_fillSides 70 = .ok (.iconst 2, 1) := by decide +kernel
theorem dX0_fillSides_71 : decode cX0_fillSides 71 = .ok (.iload 5, 2) := by decide +kernel
theorem dX0_fillSides_73 : decode cX0_fillSides 73 = .ok (.iload_n 3, 1) := by decide +kernel
theorem dX0_fillSides_74 : decode cX0_fillSides 74 = .ok (.isub, 1) := by decide +kernel
theorem dX0_fillSides_75 : decode cX0_fillSides 75 = .ok (.imul, 1) := by decide +kernel
theorem dX0_fillSides_76 : decode cX0_fillSides 76 = .ok (.iadd, 1) := by decide +kernel
theorem dX0_fillSides_77 : decode cX0_fillSides 77 = .ok (.istore 7, 2) := by decide +kernel
theorem dX0_fillSides_79 : decode cX0_fillSides 79 = .ok (.aload_n 0, 1) := by decide +kernel
theorem dX0_fillSides_80 : decode cX0_fillSides 80 = .ok (.getfield 27, 3) := by decide +kernel
theorem dX0_fillSides_83 : decode cX0_fillSides 83 = .ok (.iload_n 1, 1) := by decide +kernel
theorem dX0_fillSides_84 : decode cX0_fillSides 84 = .ok (.iload_n 1, 1) := by decide +kernel
theorem dX0_fillSides_85 : decode cX0_fillSides 85 = .ok (.iconst 1, 1) := by decide +kernel
theorem dX0_fillSides_86 : decode cX0_fillSides 86 = .ok (.iadd, 1) := by decide +kernel
theorem dX0_fillSides_87 : decode cX0_fillSides 87 = .ok (.invokestatic 81, 3) := by decide +kernel
theorem dX0_fillSides_90 : decode cX0_fillSides 90 = .ok (.aload_n 0, 1) := by decide +kernel
theorem dX0_fillSides_91 : decode cX0_fillSides 91 = .ok (.getfield 30, 3) := by decide +kernel
theorem dX0_fillSides_94 : decode cX0_fillSides 94 = .ok (.iload_n 1, 1) := by decide +kernel
theorem dX0_fillSides_95 : decode cX0_fillSides 95 = .ok (.iload 7, 2) := by decide +kernel
theorem dX0_fillSides_97 : decode cX0_fillSides 97 = .ok (.invokestatic 81, 3) := by decide +kernel
theorem dX0_fillSides_100 : decode cX0_fillSides 100 = .ok (.aload_n 0, 1) := by decide +kernel
theorem dX0_fillSides_101 : decode cX0_fillSides 101 = .ok (.iload_n 1, 1) := by decide +kernel
theorem dX0_fillSides_102 : decode cX0_fillSides 102 = .ok (.iconst 1, 1) := by decide +kernel
theorem dX0_fillSides_103 : decode cX0_fillSides 103 = .ok (.iadd, 1) := by decide +kernel
theorem dX0_fillSides_104 : decode cX0_fillSides 104 = .ok (.iload_n 3, 1) := by decide +kernel
theorem dX0_fillSides_105 : decode cX0_fillSides 105 = .ok (.iload 5, 2) := by decide +kernel
theorem dX0_fillSides_107 : decode cX0_fillSides 107 = .ok (.iload_n 3, 1) := by decide +kernel
theorem dX0_fillSides_108 : decode cX0_fillSides 108 = .ok (.isub, 1) := by decide +kernel
theorem dX0_fillSides_109 : decode cX0_fillSides 109 = .ok (.iload 6, 2) := by decide +kernel
theorem dX0_fillSides_111 : decode cX0_fillSides 111 = .ok (.iload 4, 2) := by decide +kernel
theorem dX0_fillSides_113 : decode cX0_fillSides 113 = .ok (.iload 5, 2) := by decide +kernel
theorem dX0_fillSides_115 : decode cX0_fillSides 115 = .ok (.isub, 1) := by decide +kernel
theorem dX0_fillSides_116 : decode cX0_fillSides 116 = .ok (.invokevirtual 48, 3) := by decide +kernel
theorem dX0_fillSides_119 : decode cX0_fillSides 119 = .ok (.aload_n 0, 1) := by decide +kernel
theorem dX0_fillSides_120 : decode cX0_fillSides 120 = .ok (.iload 7, 2) := by decide +kernel
theorem dX0_fillSides_122 : decode cX0_fillSides 122 = .ok (.iload 5, 2) := by decide +kernel
theorem dX0_fillSides_124 : decode cX0_fillSides 124 = .ok (.iload 4, 2) := by decide +kernel
theorem dX0_fillSides_126 : decode cX0_fillSides 126 = .ok (.iload 5, 2) := by decide +kernel
theorem dX0_fillSides_128 : decode cX0_fillSides 128 = .ok (.isub, 1) := by decide +kernel
theorem dX0_fillSides_129 : decode cX0_fillSides 129 = .ok (.iload 6, 2) := by decide +kernel
theorem dX0_fillSides_131 : decode cX0_fillSides 131 = .ok (.iload 5, 2) := by decide +kernel
theorem dX0_fillSides_133 : decode cX0_fillSides 133 = .ok (.iload_n 3, 1) := by decide +kernel
theorem dX0_fillSides_134 : decode cX0_fillSides 134 = .ok (.isub, 1) := by decide +kernel
theorem dX0_fillSides_135 : decode cX0_fillSides 135 = .ok (.invokevirtual 48, 3) := by decide +kernel
theorem dX0_fillSides_138 : decode cX0_fillSides 138 = .ok (.return_, 1) := by decide +kernel
theorem dX1_init_0 : decode cX1_init 0 = .ok (.aload_n 0, 1) := by decide +kernel
theorem dX1_init_1 : decode cX1_init 1 = .ok (.invokespecial 3, 3) := by decide +kernel
theorem dX1_init_4 : decode cX1_init 4 = .ok (.aload_n 0, 1) := by decide +kernel
theorem dX1_init_5 : decode cX1_init 5 = .ok (.bipush 48, 2) := by decide +kernel
theorem dX1_init_7 : decode cX1_init 7 = .ok (.newarray .int, 2) := by decide +kernel
theorem dX1_init_9 : decode cX1_init 9 = .ok (.putfield 9, 3) := by decide +kernel
theorem dX1_init_12 : decode cX1_init 12 = .ok (.aload_n 0, 1) := by decide +kernel
theorem dX1_init_13 : decode cX1_init 13 = .ok (.bipush 48, 2) := by decide +kernel
theorem dX1_init_15 : decode cX1_init 15 = .ok (.newarray .int, 2) := by decide +kernel
theorem dX1_init_17 : decode cX1_init 17 = .ok (.putfield 15, 3) := by decide +kernel
theorem dX1_init_20 : decode cX1_init 20 = .ok (.return_, 1) := by decide +kernel
theorem dX1_size_0 : decode cX1_size 0 = .ok (.aload_n 0, 1) := by decide +kernel
theorem dX1_size_1 : decode cX1_size 1 = .ok (.getfield 18, 3) := by decide +kernel
theorem dX1_size_4 : decode cX1_size 4 = .ok (.ireturn, 1) := by decide +kernel
theorem dX1_nameAt_0 : decode cX1_nameAt 0 = .ok (.iload_n 1, 1) := by decide +kernel
theorem dX1_nameAt_1 : decode cX1_nameAt 1 = .ok (.aload_n 0, 1) := by decide +kernel
theorem dX1_nameAt_2 : decode cX1_nameAt 2 = .ok (.getfield 18, 3) := by decide +kernel
theorem dX1_nameAt_5 : decode cX1_nameAt 5 = .ok (.if_icmp .ge 14, 3) := by decide +kernel
theorem dX1_nameAt_8 : decode cX1_nameAt 8 = .ok (.aload_n 0, 1) := by decide +kernel
theorem dX1_nameAt_9 : decode cX1_nameAt 9 = .ok (.getfield 9, 3) := by decide +kernel
theorem dX1_nameAt_12 : decode cX1_nameAt 12 = .ok (.iload_n 1, 1) := by decide +kernel
theorem dX1_nameAt_13 : decode cX1_nameAt 13 = .ok (.invokestatic 22, 3) := by decide +kernel
theorem dX1_nameAt_16 : decode cX1_nameAt 16 = .ok (.goto 4, 3) := by decide +kernel
theorem dX1_nameAt_19 : decode cX1_nameAt 19 = .ok (.iconst (-1), 1) := by decide +kernel
theorem dX1_nameAt_20 : decode cX1_nameAt 20 = .ok (.ireturn, 1) := by decide +kernel
theorem dX1_milesAt_0 : decode cX1_milesAt 0 = .ok (.iload_n 1, 1) := by decide +kernel
theorem dX1_milesAt_1 : decode cX1_milesAt 1 = .ok (.aload_n 0, 1) := by decide +kernel
theorem dX1_milesAt_2 : decode cX1_milesAt 2 = .ok (.getfield 18, 3) := by decide +kernel
theorem dX1_milesAt_5 : decode cX1_milesAt 5 = .ok (.if_icmp .ge 14, 3) := by decide +kernel
theorem dX1_milesAt_8 : decode cX1_milesAt 8 = .ok (.aload_n 0, 1) := by decide +kernel
theorem dX1_milesAt_9 : decode cX1_milesAt 9 = .ok (.getfield 15, 3) := by decide +kernel
theorem dX1_milesAt_12 : decode cX1_milesAt 12 = .ok (.iload_n 1, 1) := by decide +kernel
theorem dX1_milesAt_13 : decode cX1_milesAt 13 = .ok (.invokestatic 22, 3) := by decide +kernel
theorem dX1_milesAt_16 : decode cX1_milesAt 16 = .ok (.goto 4, 3) := by decide +kernel
theorem dX1_milesAt_19 : decode cX1_milesAt 19 = .ok (.iconst (-1), 1) := by decide +kernel
theorem dX1_milesAt_20 : decode cX1_milesAt 20 = .ok (.ireturn, 1) := by decide +kernel
theorem dX1_milesOf_0 : decode cX1_milesOf 0 = .ok (.aload_n 0, 1) := by decide +kernel
theorem dX1_milesOf_1 : decode cX1_milesOf 1 = .ok (.iload_n 1, 1) := by decide +kernel
theorem dX1_milesOf_2 : decode cX1_milesOf 2 = .ok (.invokevirtual 26, 3) := by decide +kernel
theorem dX1_milesOf_5 : decode cX1_milesOf 5 = .ok (.istore_n 2, 1) := by decide +kernel
theorem dX1_milesOf_6 : decode cX1_milesOf 6 = .ok (.aload_n 0, 1) := by decide +kernel
theorem dX1_milesOf_7 : decode cX1_milesOf 7 = .ok (.iload_n 2, 1) := by decide +kernel
theorem dX1_milesOf_8 : decode cX1_milesOf 8 = .ok (.invokevirtual 30, 3) := by decide +kernel
theorem dX1_milesOf_11 : decode cX1_milesOf 11 = .ok (.iload_n 1, 1) := by decide +kernel
theorem dX1_milesOf_12 : decode cX1_milesOf 12 = .ok (.if_icmp .ne 11, 3) := by decide +kernel
theorem dX1_milesOf_15 : decode cX1_milesOf 15 = .ok (.aload_n 0, 1) := by decide +kernel
theorem dX1_milesOf_16 : decode cX1_milesOf 16 = .ok (.iload_n 2, 1) := by decide +kernel
theorem dX1_milesOf_17 : decode cX1_milesOf 17 = .ok (.invokevirtual 33, 3) := by decide +kernel
theorem dX1_milesOf_20 : decode cX1_milesOf 20 = .ok (.goto 4, 3) := by decide +kernel
theorem dX1_milesOf_23 : decode cX1_milesOf 23 = .ok (.iconst (-1), 1) := by decide +kernel
theorem dX1_milesOf_24 : decode cX1_milesOf 24 = .ok (.ireturn, 1) := by decide +kernel
theorem dX1_smallerThan_0 : decode cX1_smallerThan 0 = .ok (.iconst 0, 1) := by decide +kernel
theorem dX1_smallerThan_1 : decode cX1_smallerThan 1 = .ok (.istore_n 2, 1) := by decide +kernel
theorem dX1_smallerThan_2 : decode cX1_smallerThan 2 = .ok (.iload_n 2, 1) := by decide +kernel
theorem dX1_smallerThan_3 : decode cX1_smallerThan 3 = .ok (.aload_n 0, 1) := by decide +kernel
theorem dX1_smallerThan_4 : decode cX1_smallerThan 4 = .ok (.getfield 18, 3) := by decide +kernel
theorem dX1_smallerThan_7 : decode cX1_smallerThan 7 = .ok (.if_icmp .ge 21, 3) := by decide +kernel
theorem dX1_smallerThan_10 : decode cX1_smallerThan 10 = .ok (.aload_n 0, 1) := by decide +kernel
theorem dX1_smallerThan_11 : decode cX1_smallerThan 11 = .ok (.getfield 9, 3) := by decide +kernel
theorem dX1_smallerThan_14 : decode cX1_smallerThan 14 = .ok (.iload_n 2, 1) := by decide +kernel
theorem dX1_smallerThan_15 : decode cX1_smallerThan 15 = .ok (.invokestatic 22, 3) := by decide +kernel
theorem dX1_smallerThan_18 : decode cX1_smallerThan 18 = .ok (.iload_n 1, 1) := by decide +kernel
theorem dX1_smallerThan_19 : decode cX1_smallerThan 19 = .ok (.if_icmp .ge 9, 3) := by decide +kernel
theorem dX1_smallerThan_22 : decode cX1_smallerThan 22 = .ok (.iinc 2 1, 3) := by decide +kernel
theorem dX1_smallerThan_25 : decode cX1_smallerThan 25 = .ok (.goto (-23), 3) := by decide +kernel
theorem dX1_smallerThan_28 : decode cX1_smallerThan 28 = .ok (.iload_n 2, 1) := by decide +kernel
theorem dX1_smallerThan_29 : decode cX1_smallerThan 29 = .ok (.ireturn, 1) := by decide +kernel
theorem dX1_namesAlsoIn_0 : decode cX1_namesAlsoIn 0 = .ok (.iconst 0, 1) := by decide +kernel
theorem dX1_namesAlsoIn_1 : decode cX1_namesAlsoIn 1 = .ok (.istore_n 2, 1) := by decide +kernel
theorem dX1_namesAlsoIn_2 : decode cX1_namesAlsoIn 2 = .ok (.iconst 0, 1) := by decide +kernel
theorem dX1_namesAlsoIn_3 : decode cX1_namesAlsoIn 3 = .ok (.istore_n 3, 1) := by decide +kernel
theorem dX1_namesAlsoIn_4 : decode cX1_namesAlsoIn 4 = .ok (.iload_n 3, 1) := by decide +kernel
theorem dX1_namesAlsoIn_5 : decode cX1_namesAlsoIn 5 = .ok (.aload_n 0, 1) := by decide +kernel
theorem dX1_namesAlsoIn_6 : decode cX1_namesAlsoIn 6 = .ok (.getfield 18, 3) := by decide +kernel
theorem dX1_namesAlsoIn_9 : decode cX1_namesAlsoIn 9 = .ok (.if_icmp .ge 25, 3) := by decide +kernel
theorem dX1_namesAlsoIn_12 : decode cX1_namesAlsoIn 12 = .ok (.aload_n 1, 1) := by decide +kernel
theorem dX1_namesAlsoIn_13 : decode cX1_namesAlsoIn 13 = .ok (.aload_n 0, 1) := by decide +kernel
theorem dX1_namesAlsoIn_14 : decode cX1_namesAlsoIn 14 = .ok (.iload_n 3, 1) := by decide +kernel
theorem dX1_namesAlsoIn_15 : decode cX1_namesAlsoIn 15 = .ok (.invokevirtual 30, 3) := by decide +kernel
theorem dX1_namesAlsoIn_18 : decode cX1_namesAlsoIn 18 = .ok (.invokevirtual 36, 3) := by decide +kernel
theorem dX1_namesAlsoIn_21 : decode cX1_namesAlsoIn 21 = .ok (.iconst (-1), 1) := by decide +kernel
theorem dX1_namesAlsoIn_22 : decode cX1_namesAlsoIn 22 = .ok (.if_icmp .eq 6, 3) := by decide +kernel
theorem dX1_namesAlsoIn_25 : decode cX1_namesAlsoIn 25 = .ok (.iinc 2 1, 3) := by decide +kernel
theorem dX1_namesAlsoIn_28 : decode cX1_namesAlsoIn 28 = .ok (.iinc 3 1, 3) := by decide +kernel
theorem dX1_namesAlsoIn_31 : decode cX1_namesAlsoIn 31 = .ok (.goto (-27), 3) := by decide +kernel
theorem dX1_namesAlsoIn_34 : decode cX1_namesAlsoIn 34 = .ok (.iload_n 2, 1) := by decide +kernel
theorem dX1_namesAlsoIn_35 : decode cX1_namesAlsoIn 35 = .ok (.ireturn, 1) := by decide +kernel
theorem dX1_set_0 : decode cX1_set 0 = .ok (.aload_n 0, 1) := by decide +kernel
theorem dX1_set_1 : decode cX1_set 1 = .ok (.iload_n 1, 1) := by decide +kernel
theorem dX1_set_2 : decode cX1_set 2 = .ok (.invokevirtual 26, 3) := by decide +kernel
theorem dX1_set_5 : decode cX1_set 5 = .ok (.istore_n 3, 1) := by decide +kernel
theorem dX1_set_6 : decode cX1_set 6 = .ok (.aload_n 0, 1) := by decide +kernel
theorem dX1_set_7 : decode cX1_set 7 = .ok (.iload_n 3, 1) := by decide +kernel
theorem dX1_set_8 : decode cX1_set 8 = .ok (.invokevirtual 30, 3) := by decide +kernel
theorem dX1_set_11 : decode cX1_set 11 = .ok (.iload_n 1, 1) := by decide +kernel
theorem dX1_set_12 : decode cX1_set 12 = .ok (.if_icmp .eq 8, 3) := by decide +kernel
theorem dX1_set_15 : decode cX1_set 15 = .ok (.aload_n 0, 1) := by decide +kernel
theorem dX1_set_16 : decode cX1_set 16 = .ok (.iload_n 3, 1) := by decide +kernel
theorem dX1_set_17 : decode cX1_set 17 = .ok (.invokevirtual 39, 3) := by decide +kernel
theorem dX1_set_20 : decode cX1_set 20 = .ok (.aload_n 0, 1) := by decide +kernel
theorem dX1_set_21 : decode cX1_set 21 = .ok (.getfield 9, 3) := by decide +kernel
theorem dX1_set_24 : decode cX1_set 24 = .ok (.iload_n 3, 1) := by decide +kernel
theorem dX1_set_25 : decode cX1_set 25 = .ok (.iload_n 1, 1) := by decide +kernel
theorem dX1_set_26 : decode cX1_set 26 = .ok (.invokestatic 43, 3) := by decide +kernel
theorem dX1_set_29 : decode cX1_set 29 = .ok (.aload_n 0, 1) := by decide +kernel
theorem dX1_set_30 : decode cX1_set 30 = .ok (.getfield 15, 3) := by decide +kernel
theorem dX1_set_33 : decode cX1_set 33 = .ok (.iload_n 3, 1) := by decide +kernel
theorem dX1_set_34 : decode cX1_set 34 = .ok (.iload_n 2, 1) := by decide +kernel
theorem dX1_set_35 : decode cX1_set 35 = .ok (.invokestatic 43, 3) := by decide +kernel
theorem dX1_set_38 : decode cX1_set 38 = .ok (.return_, 1) := by decide +kernel
theorem dX1_setAll_0 : decode cX1_setAll 0 = .ok (.iconst 0, 1) := by decide +kernel
theorem dX1_setAll_1 : decode cX1_setAll 1 = .ok (.istore_n 2, 1) := by decide +kernel
theorem dX1_setAll_2 : decode cX1_setAll 2 = .ok (.iload_n 2, 1) := by decide +kernel
theorem dX1_setAll_3 : decode cX1_setAll 3 = .ok (.aload_n 1, 1) := by decide +kernel
theorem dX1_setAll_4 : decode cX1_setAll 4 = .ok (.invokevirtual 47, 3) := by decide +kernel
theorem dX1_setAll_7 : decode cX1_setAll 7 = .ok (.if_icmp .ge 23, 3) := by decide +kernel
theorem dX1_setAll_10 : decode cX1_setAll 10 = .ok (.aload_n 0, 1) := by decide +kernel
theorem dX1_setAll_11 : decode cX1_setAll 11 = .ok (.aload_n 1, 1) := by decide +kernel
theorem dX1_setAll_12 : decode cX1_setAll 12 = .ok (.iload_n 2, 1) := by decide +kernel
theorem dX1_setAll_13 : decode cX1_setAll 13 = .ok (.invokevirtual 30, 3) := by decide +kernel
theorem dX1_setAll_16 : decode cX1_setAll 16 = .ok (.aload_n 1, 1) := by decide +kernel
theorem dX1_setAll_17 : decode cX1_setAll 17 = .ok (.iload_n 2, 1) := by decide +kernel
theorem dX1_setAll_18 : decode cX1_setAll 18 = .ok (.invokevirtual 33, 3) := by decide +kernel
theorem dX1_setAll_21 : decode cX1_setAll 21 = .ok (.invokevirtual 50, 3) := by decide +kernel
theorem dX1_setAll_24 : decode cX1_setAll 24 = .ok (.iinc 2 1, 3) := by decide +kernel
theorem dX1_setAll_27 : decode cX1_setAll 27 = .ok (.goto (-25), 3) := by decide +kernel
theorem dX1_setAll_30 : decode cX1_setAll 30 = .ok (.return_, 1) := by decide +kernel
theorem dX1_removeName_0 : decode cX1_removeName 0 = .ok (.aload_n 0, 1) := by decide +kernel
theorem dX1_removeName_1 : decode cX1_removeName 1 = .ok (.iload_n 1, 1) := by decide +kernel
theorem dX1_removeName_2 : decode cX1_removeName 2 = .ok (.invokevirtual 26, 3) := by decide +kernel
theorem dX1_removeName_5 : decode cX1_removeName 5 = .ok (.istore_n 2, 1) := by decide +kernel
theorem dX1_removeName_6 : decode cX1_removeName 6 = .ok (.iload_n 2, 1) := by decide +kernel
theorem dX1_removeName_7 : decode cX1_removeName 7 = .ok (.aload_n 0, 1) := by decide +kernel
theorem dX1_removeName_8 : decode cX1_removeName 8 = .ok (.getfield 18, 3) := by decide +kernel
theorem dX1_removeName_11 : decode cX1_removeName 11 = .ok (.iconst 1, 1) := by decide +kernel
theorem dX1_removeName_12 : decode cX1_removeName 12 = .ok (.isub, 1) := by decide +kernel
theorem dX1_removeName_13 : decode cX1_removeName 13 = .ok (.if_icmp .ge 45, 3) := by decide +kernel
theorem dX1_removeName_16 : decode cX1_removeName 16 = .ok (.aload_n 0, 1) := by decide +kernel
theorem dX1_removeName_17 : decode cX1_removeName 17 = .ok (.getfield 9, 3) := by decide +kernel
theorem dX1_removeName_20 : decode cX1_removeName 20 = .ok (.iload_n 2, 1) := by decide +kernel
theorem dX1_removeName_21 : decode cX1_removeName 21 = .ok (.aload_n 0, 1) := by decide +kernel
theorem dX1_removeName_22 : decode cX1_removeName 22 = .ok (.getfield 9, 3) := by decide +kernel
theorem dX1_removeName_25 : decode cX1_removeName 25 = .ok (.iload_n 2, 1) := by decide +kernel
theorem dX1_removeName_26 : decode cX1_removeName 26 = .ok (.iconst 1, 1) := by decide +kernel
theorem dX1_removeName_27 : decode cX1_removeName 27 = .ok (.iadd, 1) := by decide +kernel
theorem dX1_removeName_28 : decode cX1_removeName 28 = .ok (.invokestatic 22, 3) := by decide +kernel
theorem dX1_removeName_31 : decode cX1_removeName 31 = .ok (.invokestatic 43, 3) := by decide +kernel
theorem dX1_removeName_34 : decode cX1_removeName 34 = .ok (.aload_n 0, 1) := by decide +kernel
theorem dX1_removeName_35 : decode cX1_removeName 35 = .ok (.getfield 15, 3) := by decide +kernel
theorem dX1_removeName_38 : decode cX1_removeName 38 = .ok (.iload_n 2, 1) := by decide +kernel
theorem dX1_removeName_39 : decode cX1_removeName 39 = .ok (.aload_n 0, 1) := by decide +kernel
theorem dX1_removeName_40 : decode cX1_removeName 40 = .ok (.getfield 15, 3) := by decide +kernel
theorem dX1_removeName_43 : decode cX1_removeName 43 = .ok (.iload_n 2, 1) := by decide +kernel
theorem dX1_removeName_44 : decode cX1_removeName 44 = .ok (.iconst 1, 1) := by decide +kernel
theorem dX1_removeName_45 : decode cX1_removeName 45 = .ok (.iadd, 1) := by decide +kernel
theorem dX1_removeName_46 : decode cX1_removeName 46 = .ok (.invokestatic 22, 3) := by decide +kernel
theorem dX1_removeName_49 : decode cX1_removeName 49 = .ok (.invokestatic 43, 3) := by decide +kernel
theorem dX1_removeName_52 : decode cX1_removeName 52 = .ok (.iinc 2 1, 3) := by decide +kernel
theorem dX1_removeName_55 : decode cX1_removeName 55 = .ok (.goto (-49), 3) := by decide +kernel
theorem dX1_removeName_58 : decode cX1_removeName 58 = .ok (.aload_n 0, 1) := by decide +kernel
theorem dX1_removeName_59 : decode cX1_removeName 59 = .ok (.dup, 1) := by decide +kernel
theorem dX1_removeName_60 : decode cX1_removeName 60 = .ok (.getfield 18, 3) := by decide +kernel
theorem dX1_removeName_63 : decode cX1_removeName 63 = .ok (.iconst 1, 1) := by decide +kernel
theorem dX1_removeName_64 : decode cX1_removeName 64 = .ok (.isub, 1) := by decide +kernel
theorem dX1_removeName_65 : decode cX1_removeName 65 = .ok (.putfield 18, 3) := by decide +kernel
theorem dX1_removeName_68 : decode cX1_removeName 68 = .ok (.return_, 1) := by decide +kernel
theorem dX1_keepFirst_0 : decode cX1_keepFirst 0 = .ok (.aload_n 0, 1) := by decide +kernel
theorem dX1_keepFirst_1 : decode cX1_keepFirst 1 = .ok (.iload_n 1, 1) := by decide +kernel
theorem dX1_keepFirst_2 : decode cX1_keepFirst 2 = .ok (.putfield 18, 3) := by decide +kernel
theorem dX1_keepFirst_5 : decode cX1_keepFirst 5 = .ok (.return_, 1) := by decide +kernel
theorem dX1_changeBits_0 : decode cX1_changeBits 0 = .ok (.aload_n 0, 1) := by decide +kernel
theorem dX1_changeBits_1 : decode cX1_changeBits 1 = .ok (.getfield 18, 3) := by decide +kernel
theorem dX1_changeBits_4 : decode cX1_changeBits 4 = .ok (.istore_n 2, 1) := by decide +kernel
theorem dX1_changeBits_5 : decode cX1_changeBits 5 = .ok (.aload_n 0, 1) := by decide +kernel
theorem dX1_changeBits_6 : decode cX1_changeBits 6 = .ok (.iconst 0, 1) := by decide +kernel
theorem dX1_changeBits_7 : decode cX1_changeBits 7 = .ok (.invokevirtual 54, 3) := by decide +kernel
theorem dX1_changeBits_10 : decode cX1_changeBits 10 = .ok (.iconst 0, 1) := by decide +kernel
theorem dX1_changeBits_11 : decode cX1_changeBits 11 = .ok (.istore_n 3, 1) := by decide +kernel
theorem dX1_changeBits_12 : decode cX1_changeBits 12 = .ok (.iload_n 3, 1) := by decide +kernel
theorem dX1_changeBits_13 : decode cX1_changeBits 13 = .ok (.iload_n 2, 1) := by decide +kernel
theorem dX1_changeBits_14 : decode cX1_changeBits 14 = .ok (.if_icmp .ge 31, 3) := by decide +kernel
theorem dX1_changeBits_17 : decode cX1_changeBits 17 = .ok (.aload_n 0, 1) := by decide +kernel
theorem dX1_changeBits_18 : decode cX1_changeBits 18 = .ok (.aload_n 0, 1) := by decide +kernel
theorem dX1_changeBits_19 : decode cX1_changeBits 19 = .ok (.getfield 9, 3) := by decide +kernel
theorem dX1_changeBits_22 : decode cX1_changeBits 22 = .ok (.iload_n 3, 1) := by decide +kernel
theorem dX1_changeBits_23 : decode cX1_changeBits 23 = .ok (.invokestatic 22, 3) := by decide +kernel
theorem dX1_changeBits_26 : decode cX1_changeBits 26 = .ok (.iload_n 1, 1) := by decide +kernel
theorem dX1_changeBits_27 : decode cX1_changeBits 27 = .ok (.ixor, 1) := by decide +kernel
theorem dX1_changeBits_28 : decode cX1_changeBits 28 = .ok (.aload_n 0, 1) := by decide +kernel
theorem dX1_changeBits_29 : decode cX1_changeBits 29 = .ok (.getfield 15, 3) := by decide +kernel
theorem dX1_changeBits_32 : decode cX1_changeBits 32 = .ok (.iload_n 3, 1) := by decide +kernel
theorem dX1_changeBits_33 : decode cX1_changeBits 33 = .ok (.invokestatic 22, 3) := by decide +kernel
theorem dX1_changeBits_36 : decode cX1_changeBits 36 = .ok (.invokevirtual 50, 3) := by decide +kernel
theorem dX1_changeBits_39 : decode cX1_changeBits 39 = .ok (.iinc 3 1, 3) := by decide +kernel
theorem dX1_changeBits_42 : decode cX1_changeBits 42 = .ok (.goto (-30), 3) := by decide +kernel
theorem dX1_changeBits_45 : decode cX1_changeBits 45 = .ok (.return_, 1) := by decide +kernel
theorem dX1_addedMiles_0 : decode cX1_addedMiles 0 = .ok (.iconst 0, 1) := by decide +kernel
theorem dX1_addedMiles_1 : decode cX1_addedMiles 1 = .ok (.istore_n 3, 1) := by decide +kernel
theorem dX1_addedMiles_2 : decode cX1_addedMiles 2 = .ok (.iload_n 1, 1) := by decide +kernel
theorem dX1_addedMiles_3 : decode cX1_addedMiles 3 = .ok (.istore 4, 2) := by decide +kernel
theorem dX1_addedMiles_5 : decode cX1_addedMiles 5 = .ok (.iload 4, 2) := by decide +kernel
theorem dX1_addedMiles_7 : decode cX1_addedMiles 7 = .ok (.iload_n 2, 1) := by decide +kernel
theorem dX1_addedMiles_8 : decode cX1_addedMiles 8 = .ok (.if_icmp .ge 18, 3) := by decide +kernel
theorem dX1_addedMiles_11 : decode cX1_addedMiles 11 = .ok (.iload_n 3, 1) := by decide +kernel
theorem dX1_addedMiles_12 : decode cX1_addedMiles 12 = .ok (.aload_n 0, 1) := by decide +kernel
theorem dX1_addedMiles_13 : decode cX1_addedMiles 13 = .ok (.iload 4, 2) := by decide +kernel
theorem dX1_addedMiles_15 : decode cX1_addedMiles 15 = .ok (.invokevirtual 33, 3) := by decide +kernel
theorem dX1_addedMiles_18 : decode cX1_addedMiles 18 = .ok (.iadd, 1) := by decide +kernel
theorem dX1_addedMiles_19 : decode cX1_addedMiles 19 = .ok (.istore_n 3, 1) := by decide +kernel
theorem dX1_addedMiles_20 : decode cX1_addedMiles 20 = .ok (.iinc 4 1, 3) := by decide +kernel
theorem dX1_addedMiles_23 : decode cX1_addedMiles 23 = .ok (.goto (-18), 3) := by decide +kernel
theorem dX1_addedMiles_26 : decode cX1_addedMiles 26 = .ok (.iload_n 3, 1) := by decide +kernel
theorem dX1_addedMiles_27 : decode cX1_addedMiles 27 = .ok (.ireturn, 1) := by decide +kernel
theorem dX1_sharedBits_0 : decode cX1_sharedBits 0 = .ok (.iload_n 1, 1) := by decide +kernel
theorem dX1_sharedBits_1 : decode cX1_sharedBits 1 = .ok (.iload_n 2, 1) := by decide +kernel
theorem dX1_sharedBits_2 : decode cX1_sharedBits 2 = .ok (.if_icmp .lt 5, 3) := by decide +kernel
theorem dX1_sharedBits_5 : decode cX1_sharedBits 5 = .ok (.iconst 0, 1) := by decide +kernel
theorem dX1_sharedBits_6 : decode cX1_sharedBits 6 = .ok (.ireturn, 1) := by decide +kernel
theorem dX1_sharedBits_7 : decode cX1_sharedBits 7 = .ok (.bipush 15, 2) := by decide +kernel
theorem dX1_sharedBits_9 : decode cX1_sharedBits 9 = .ok (.aload_n 0, 1) := by decide +kernel
theorem dX1_sharedBits_10 : decode cX1_sharedBits 10 = .ok (.iload_n 1, 1) := by decide +kernel
theorem dX1_sharedBits_11 : decode cX1_sharedBits 11 = .ok (.invokevirtual 30, 3) := by decide +kernel
theorem dX1_sharedBits_14 : decode cX1_sharedBits 14 = .ok (.aload_n 0, 1) := by decide +kernel
theorem dX1_sharedBits_15 : decode cX1_sharedBits 15 = .ok (.iload_n 2, 1) := by decide +kernel
theorem dX1_sharedBits_16 : decode cX1_sharedBits 16 = .ok (.iconst 1, 1) := by decide +kernel
theorem dX1_sharedBits_17 : decode cX1_sharedBits 17 = .ok (.isub, 1) := by decide +kernel
theorem dX1_sharedBits_18 : decode cX1_sharedBits 18 = .ok (.invokevirtual 30, 3) := by decide +kernel
theorem dX1_sharedBits_21 : decode cX1_sharedBits 21 = .ok (.invokestatic 63, 3) := by decide +kernel
theorem dX1_sharedBits_24 : decode cX1_sharedBits 24 = .ok (.isub, 1) := by decide +kernel
theorem dX1_sharedBits_25 : decode cX1_sharedBits 25 = .ok (.ireturn, 1) := by decide +kernel
theorem dX1_nearest_0 : decode cX1_nearest 0 = .ok (.iconst (-1), 1) := by decide +kernel
theorem dX1_nearest_1 : decode cX1_nearest 1 = .ok (.istore_n 2, 1) := by decide +kernel
theorem dX1_nearest_2 : decode cX1_nearest 2 = .ok (.iconst 0, 1) := by decide +kernel
theorem dX1_nearest_3 : decode cX1_nearest 3 = .ok (.istore_n 3, 1) := by decide +kernel
theorem dX1_nearest_4 : decode cX1_nearest 4 = .ok (.iload_n 3, 1) := by decide +kernel
theorem dX1_nearest_5 : decode cX1_nearest 5 = .ok (.aload_n 0, 1) := by decide +kernel
theorem dX1_nearest_6 : decode cX1_nearest 6 = .ok (.getfield 18, 3) := by decide +kernel
theorem dX1_nearest_9 : decode cX1_nearest 9 = .ok (.if_icmp .ge 33, 3) := by decide +kernel
theorem dX1_nearest_12 : decode cX1_nearest 12 = .ok (.iload_n 2, 1) := by decide +kernel
theorem dX1_nearest_13 : decode cX1_nearest 13 = .ok (.iconst (-1), 1) := by decide +kernel
theorem dX1_nearest_14 : decode cX1_nearest 14 = .ok (.if_icmp .eq 16, 3) := by decide +kernel
theorem dX1_nearest_17 : decode cX1_nearest 17 = .ok (.aload_n 0, 1) := by decide +kernel
theorem dX1_nearest_18 : decode cX1_nearest 18 = .ok (.iload_n 3, 1) := by decide +kernel
theorem dX1_nearest_19 : decode cX1_nearest 19 = .ok (.invokevirtual 30, 3) := by decide +kernel
theorem dX1_nearest_22 : decode cX1_nearest 22 = .ok (.iload_n 1, 1) := by decide +kernel
theorem dX1_nearest_23 : decode cX1_nearest 23 = .ok (.ixor, 1) := by decide +kernel
theorem dX1_nearest_24 : decode cX1_nearest 24 = .ok (.iload_n 2, 1) := by decide +kernel
theorem dX1_nearest_25 : decode cX1_nearest 25 = .ok (.iload_n 1, 1) := by decide +kernel
theorem dX1_nearest_26 : decode cX1_nearest 26 = .ok (.ixor, 1) := by decide +kernel
theorem dX1_nearest_27 : decode cX1_nearest 27 = .ok (.if_icmp .ge 9, 3) := by decide +kernel
theorem dX1_nearest_30 : decode cX1_nearest 30 = .ok (.aload_n 0, 1) := by decide +kernel
theorem dX1_nearest_31 : decode cX1_nearest 31 = .ok (.iload_n 3, 1) := by decide +kernel
theorem dX1_nearest_32 : decode cX1_nearest 32 = .ok (.invokevirtual 30, 3) := by decide +kernel
theorem dX1_nearest_35 : decode cX1_nearest 35 = .ok (.istore_n 2, 1) := by decide +kernel
theorem dX1_nearest_36 : decode cX1_nearest 36 = .ok (.iinc 3 1, 3) := by decide +kernel
theorem dX1_nearest_39 : decode cX1_nearest 39 = .ok (.goto (-35), 3) := by decide +kernel
theorem dX1_nearest_42 : decode cX1_nearest 42 = .ok (.iload_n 2, 1) := by decide +kernel
theorem dX1_nearest_43 : decode cX1_nearest 43 = .ok (.ireturn, 1) := by decide +kernel
theorem dX1_farthest_0 : decode cX1_farthest 0 = .ok (.iconst (-1), 1) := by decide +kernel
theorem dX1_farthest_1 : decode cX1_farthest 1 = .ok (.istore_n 1, 1) := by decide +kernel
theorem dX1_farthest_2 : decode cX1_farthest 2 = .ok (.iconst 0, 1) := by decide +kernel
theorem dX1_farthest_3 : decode cX1_farthest 3 = .ok (.istore_n 2, 1) := by decide +kernel
theorem dX1_farthest_4 : decode cX1_farthest 4 = .ok (.iload_n 2, 1) := by decide +kernel
theorem dX1_farthest_5 : decode cX1_farthest 5 = .ok (.aload_n 0, 1) := by decide +kernel
theorem dX1_farthest_6 : decode cX1_farthest 6 = .ok (.getfield 18, 3) := by decide +kernel
theorem dX1_farthest_9 : decode cX1_farthest 9 = .ok (.if_icmp .ge 43, 3) := by decide +kernel
theorem dX1_farthest_12 : decode cX1_farthest 12 = .ok (.iload_n 2, 1) := by decide +kernel
theorem dX1_farthest_13 : decode cX1_farthest 13 = .ok (.iconst 1, 1) := by decide +kernel
theorem dX1_farthest_14 : decode cX1_farthest 14 = .ok (.iadd, 1) := by decide +kernel
theorem dX1_farthest_15 : decode cX1_farthest 15 = .ok (.istore_n 3, 1) := by decide +kernel
theorem dX1_farthest_16 : decode cX1_farthest 16 = .ok (.iload_n 3, 1) := by decide +kernel
theorem dX1_farthest_17 : decode cX1_farthest 17 = .ok (.aload_n 0, 1) := by decide +kernel
theorem dX1_farthest_18 : decode cX1_farthest 18 = .ok (.getfield 18, 3) := by decide +kernel
theorem dX1_farthest_21 : decode cX1_farthest 21 = .ok (.if_icmp .ge 25, 3) := by decide +kernel
theorem dX1_farthest_24 : decode cX1_farthest 24 = .ok (.iload_n 1, 1) := by decide +kernel
theorem dX1_farthest_25 : decode cX1_farthest 25 = .ok (.aload_n 0, 1) := by decide +kernel
theorem dX1_farthest_26 : decode cX1_farthest 26 = .ok (.iload_n 2, 1) := by decide +kernel
theorem dX1_farthest_27 : decode cX1_farthest 27 = .ok (.invokevirtual 30, 3) := by decide +kernel
theorem dX1_farthest_30 : decode cX1_farthest 30 = .ok (.aload_n 0, 1) := by decide +kernel
theorem dX1_farthest_31 : decode cX1_farthest 31 = .ok (.iload_n 3, 1) := by decide +kernel
theorem dX1_farthest_32 : decode cX1_farthest 32 = .ok (.invokevirtual 30, 3) := by decide +kernel
theorem dX1_farthest_35 : decode cX1_farthest 35 = .ok (.ixor, 1) := by decide +kernel
theorem dX1_farthest_36 : decode cX1_farthest 36 = .ok (.invokestatic 57, 3) := by decide +kernel
theorem dX1_farthest_39 : decode cX1_farthest 39 = .ok (.istore_n 1, 1) := by decide +kernel
theorem dX1_farthest_40 : decode cX1_farthest 40 = .ok (.iinc 3 1, 3) := by decide +kernel
theorem dX1_farthest_43 : decode cX1_farthest 43 = .ok (.goto (-27), 3) := by decide +kernel
theorem dX1_farthest_46 : decode cX1_farthest 46 = .ok (.iinc 2 1, 3) := by decide +kernel
theorem dX1_farthest_49 : decode cX1_farthest 49 = .ok (.goto (-45), 3) := by decide +kernel
theorem dX1_farthest_52 : decode cX1_farthest 52 = .ok (.iload_n 1, 1) := by decide +kernel
theorem dX1_farthest_53 : decode cX1_farthest 53 = .ok (.ireturn, 1) := by decide +kernel
theorem dX1_makeRoomAt_0 : decode cX1_makeRoomAt 0 = .ok (.aload_n 0, 1) := by decide +kernel
theorem dX1_makeRoomAt_1 : decode cX1_makeRoomAt 1 = .ok (.getfield 18, 3) := by decide +kernel
theorem dX1_makeRoomAt_4 : decode cX1_makeRoomAt 4 = .ok (.istore_n 2, 1) := by decide +kernel
theorem dX1_makeRoomAt_5 : decode cX1_makeRoomAt 5 = .ok (.iload_n 2, 1) := by decide +kernel
theorem dX1_makeRoomAt_6 : decode cX1_makeRoomAt 6 = .ok (.iload_n 1, 1) := by decide +kernel
theorem dX1_makeRoomAt_7 : decode cX1_makeRoomAt 7 = .ok (.if_icmp .le 45, 3) := by decide +kernel
theorem dX1_makeRoomAt_10 : decode cX1_makeRoomAt 10 = .ok (.aload_n 0, 1) := by decide +kernel
theorem dX1_makeRoomAt_11 : decode cX1_makeRoomAt 11 = .ok (.getfield 9, 3) := by decide +kernel
theorem dX1_makeRoomAt_14 : decode cX1_makeRoomAt 14 = .ok (.iload_n 2, 1) := by decide +kernel
theorem dX1_makeRoomAt_15 : decode cX1_makeRoomAt 15 = .ok (.aload_n 0, 1) := by decide +kernel
theorem dX1_makeRoomAt_16 : decode cX1_makeRoomAt 16 = .ok (.getfield 9, 3) := by decide +kernel
theorem dX1_makeRoomAt_19 : decode cX1_makeRoomAt 19 = .ok (.iload_n 2, 1) := by decide +kernel
theorem dX1_makeRoomAt_20 : decode cX1_makeRoomAt 20 = .ok (.iconst 1, 1) := by decide +kernel
theorem dX1_makeRoomAt_21 : decode cX1_makeRoomAt 21 = .ok (.isub, 1) := by decide +kernel
theorem dX1_makeRoomAt_22 : decode cX1_makeRoomAt 22 = .ok (.invokestatic 22, 3) := by decide +kernel
theorem dX1_makeRoomAt_25 : decode cX1_makeRoomAt 25 = .ok (.invokestatic 43, 3) := by decide +kernel
theorem dX1_makeRoomAt_28 : decode cX1_makeRoomAt 28 = .ok (.aload_n 0, 1) := by decide +kernel
theorem dX1_makeRoomAt_29 : decode cX1_makeRoomAt 29 = .ok (.getfield 15, 3) := by decide +kernel
theorem dX1_makeRoomAt_32 : decode cX1_makeRoomAt 32 = .ok (.iload_n 2, 1) := by decide +kernel
theorem dX1_makeRoomAt_33 : decode cX1_makeRoomAt 33 = .ok (.aload_n 0, 1) := by decide +kernel
theorem dX1_makeRoomAt_34 : decode cX1_makeRoomAt 34 = .ok (.getfield 15, 3) := by decide +kernel
theorem dX1_makeRoomAt_37 : decode cX1_makeRoomAt 37 = .ok (.iload_n 2, 1) := by decide +kernel
theorem dX1_makeRoomAt_38 : decode cX1_makeRoomAt 38 = .ok (.iconst 1, 1) := by decide +kernel
theorem dX1_makeRoomAt_39 : decode cX1_makeRoomAt 39 = .ok (.isub, 1) := by decide +kernel
theorem dX1_makeRoomAt_40 : decode cX1_makeRoomAt 40 = .ok (.invokestatic 22, 3) := by decide +kernel
theorem dX1_makeRoomAt_43 : decode cX1_makeRoomAt 43 = .ok (.invokestatic 43, 3) := by decide +kernel
theorem dX1_makeRoomAt_46 : decode cX1_makeRoomAt 46 = .ok (.iinc 2 (-1), 3) := by decide +kernel
theorem dX1_makeRoomAt_49 : decode cX1_makeRoomAt 49 = .ok (.goto (-44), 3) := by decide +kernel
theorem dX1_makeRoomAt_52 : decode cX1_makeRoomAt 52 = .ok (.aload_n 0, 1) := by decide +kernel
theorem dX1_makeRoomAt_53 : decode cX1_makeRoomAt 53 = .ok (.dup, 1) := by decide +kernel
theorem dX1_makeRoomAt_54 : decode cX1_makeRoomAt 54 = .ok (.getfield 18, 3) := by decide +kernel
theorem dX1_makeRoomAt_57 : decode cX1_makeRoomAt 57 = .ok (.iconst 1, 1) := by decide +kernel
theorem dX1_makeRoomAt_58 : decode cX1_makeRoomAt 58 = .ok (.iadd, 1) := by decide +kernel
theorem dX1_makeRoomAt_59 : decode cX1_makeRoomAt 59 = .ok (.putfield 18, 3) := by decide +kernel
theorem dX1_makeRoomAt_62 : decode cX1_makeRoomAt 62 = .ok (.return_, 1) := by decide +kernel
theorem dX2_init_0 : decode cX2_init 0 = .ok (.aload_n 0, 1) := by decide +kernel
theorem dX2_init_1 : decode cX2_init 1 = .ok (.invokespecial 3, 3) := by decide +kernel
theorem dX2_init_4 : decode cX2_init 4 = .ok (.aload_n 0, 1) := by decide +kernel
theorem dX2_init_5 : decode cX2_init 5 = .ok (.new 9, 3) := by decide +kernel
theorem dX2_init_8 : decode cX2_init 8 = .ok (.dup, 1) := by decide +kernel
theorem dX2_init_9 : decode cX2_init 9 = .ok (.invokespecial 11, 3) := by decide +kernel
theorem dX2_init_12 : decode cX2_init 12 = .ok (.putfield 12, 3) := by decide +kernel
theorem dX2_init_15 : decode cX2_init 15 = .ok (.aload_n 0, 1) := by decide +kernel
theorem dX2_init_16 : decode cX2_init 16 = .ok (.new 9, 3) := by decide +kernel
theorem dX2_init_19 : decode cX2_init 19 = .ok (.dup, 1) := by decide +kernel
theorem dX2_init_20 : decode cX2_init 20 = .ok (.invokespecial 11, 3) := by decide +kernel
theorem dX2_init_23 : decode cX2_init 23 = .ok (.putfield 16, 3) := by decide +kernel
theorem dX2_init_26 : decode cX2_init 26 = .ok (.aload_n 0, 1) := by decide +kernel
theorem dX2_init_27 : decode cX2_init 27 = .ok (.new 9, 3) := by decide +kernel
theorem dX2_init_30 : decode cX2_init 30 = .ok (.dup, 1) := by decide +kernel
theorem dX2_init_31 : decode cX2_init 31 = .ok (.invokespecial 11, 3) := by decide +kernel
theorem dX2_init_34 : decode cX2_init 34 = .ok (.putfield 19, 3) := by decide +kernel
theorem dX2_init_37 : decode cX2_init 37 = .ok (.aload_n 0, 1) := by decide +kernel
theorem dX2_init_38 : decode cX2_init 38 = .ok (.new 22, 3) := by decide +kernel
theorem dX2_init_41 : decode cX2_init 41 = .ok (.dup, 1) := by decide +kernel
theorem dX2_init_42 : decode cX2_init 42 = .ok (.invokespecial 24, 3) := by decide +kernel
theorem dX2_init_45 : decode cX2_init 45 = .ok (.putfield 25, 3) := by decide +kernel
theorem dX2_init_48 : decode cX2_init 48 = .ok (.return_, 1) := by decide +kernel
theorem dX2_put_0 : decode cX2_put 0 = .ok (.iload_n 1, 1) := by decide +kernel
theorem dX2_put_1 : decode cX2_put 1 = .ok (.invokestatic 29, 3) := by decide +kernel
theorem dX2_put_4 : decode cX2_put 4 = .ok (.iload_n 2, 1) := by decide +kernel
theorem dX2_put_5 : decode cX2_put 5 = .ok (.invokestatic 33, 3) := by decide +kernel
theorem dX2_put_8 : decode cX2_put 8 = .ok (.iload_n 3, 1) := by decide +kernel
theorem dX2_put_9 : decode cX2_put 9 = .ok (.invokestatic 36, 3) := by decide +kernel
theorem dX2_put_12 : decode cX2_put 12 = .ok (.aload_n 0, 1) := by decide +kernel
theorem dX2_put_13 : decode cX2_put 13 = .ok (.iload_n 1, 1) := by decide +kernel
theorem dX2_put_14 : decode cX2_put 14 = .ok (.invokevirtual 39, 3) := by decide +kernel
theorem dX2_put_17 : decode cX2_put 17 = .ok (.astore 4, 2) := by decide +kernel
theorem dX2_put_19 : decode cX2_put 19 = .ok (.aload 4, 2) := by decide +kernel
theorem dX2_put_21 : decode cX2_put 21 = .ok (.iload_n 2, 1) := by decide +kernel
theorem dX2_put_22 : decode cX2_put 22 = .ok (.invokevirtual 43, 3) := by decide +kernel
theorem dX2_put_25 : decode cX2_put 25 = .ok (.istore 5, 2) := by decide +kernel
theorem dX2_put_27 : decode cX2_put 27 = .ok (.iload 5, 2) := by decide +kernel
theorem dX2_put_29 : decode cX2_put 29 = .ok (.iconst (-1), 1) := by decide +kernel
theorem dX2_put_30 : decode cX2_put 30 = .ok (.if_icmp .ne 23, 3) := by decide +kernel
theorem dX2_put_33 : decode cX2_put 33 = .ok (.aload 4, 2) := by decide +kernel
theorem dX2_put_35 : decode cX2_put 35 = .ok (.invokevirtual 47, 3) := by decide +kernel
theorem dX2_put_38 : decode cX2_put 38 = .ok (.bipush 24, 2) := by decide +kernel
theorem dX2_put_40 : decode cX2_put 40 = .ok (.if_icmp .lt 13, 3) := by decide +kernel
theorem dX2_put_43 : decode cX2_put 43 = .ok (.new 51, 3) := by decide +kernel
theorem dX2_put_46 : decode cX2_put 46 = .ok (.dup, 1) := by decide +kernel
theorem dX2_put_47 : decode cX2_put 47 = .ok (.ldc 53, 2) := by decide +kernel
theorem dX2_put_49 : decode cX2_put 49 = .ok (.invokespecial 55, 3) := by decide +kernel
theorem dX2_put_52 : decode cX2_put 52 = .ok (.athrow, 1) := by decide +kernel
theorem dX2_put_53 : decode cX2_put 53 = .ok (.aload 4, 2) := by decide +kernel
theorem dX2_put_55 : decode cX2_put 55 = .ok (.iload_n 2, 1) := by decide +kernel
theorem dX2_put_56 : decode cX2_put 56 = .ok (.iload_n 3, 1) := by decide +kernel
theorem dX2_put_57 : decode cX2_put 57 = .ok (.invokevirtual 58, 3) := by decide +kernel
theorem dX2_put_60 : decode cX2_put 60 = .ok (.iload 5, 2) := by decide +kernel
theorem dX2_put_62 : decode cX2_put 62 = .ok (.ireturn, 1) := by decide +kernel
theorem dX2_take_0 : decode cX2_take 0 = .ok (.iload_n 1, 1) := by decide +kernel
theorem dX2_take_1 : decode cX2_take 1 = .ok (.invokestatic 29, 3) := by decide +kernel
theorem dX2_take_4 : decode cX2_take 4 = .ok (.iload_n 2, 1) := by decide +kernel
theorem dX2_take_5 : decode cX2_take 5 = .ok (.invokestatic 33, 3) := by decide +kernel
theorem dX2_take_8 : decode cX2_take 8 = .ok (.aload_n 0, 1) := by decide +kernel
theorem dX2_take_9 : decode cX2_take 9 = .ok (.iload_n 1, 1) := by decide +kernel
theorem dX2_take_10 : decode cX2_take 10 = .ok (.invokevirtual 39, 3) := by decide +kernel
theorem dX2_take_13 : decode cX2_take 13 = .ok (.astore_n 3, 1) := by decide +kernel
theorem dX2_take_14 : decode cX2_take 14 = .ok (.aload_n 3, 1) := by decide +kernel
theorem dX2_take_15 : decode cX2_take 15 = .ok (.iload_n 2, 1) := by decide +kernel
theorem dX2_take_16 : decode cX2_take 16 = .ok (.invokevirtual 43, 3) := by decide +kernel
theorem dX2_take_19 : decode cX2_take 19 = .ok (.istore 4, 2) := by decide +kernel
theorem dX2_take_21 : decode cX2_take 21 = .ok (.iload 4, 2) := by decide +kernel
theorem dX2_take_23 : decode cX2_take 23 = .ok (.iconst (-1), 1) := by decide +kernel
theorem dX2_take_24 : decode cX2_take 24 = .ok (.if_icmp .ne 13, 3) := by decide +kernel
theorem dX2_take_27 : decode cX2_take 27 = .ok (.new 51, 3) := by decide +kernel
theorem dX2_take_30 : decode cX2_take 30 = .ok (.dup, 1) := by decide +kernel
theorem dX2_take_31 : decode cX2_take 31 = .ok (.ldc 62, 2) := by decide +kernel
theorem dX2_take_33 : decode cX2_take 33 = .ok (.invokespecial 55, 3) := by decide +kernel
theorem dX2_take_36 : decode cX2_take 36 = .ok (.athrow, 1) := by decide +kernel
theorem dX2_take_37 : decode cX2_take 37 = .ok (.aload_n 3, 1) := by decide +kernel
theorem dX2_take_38 : decode cX2_take 38 = .ok (.iload_n 2, 1) := by decide +kernel
theorem dX2_take_39 : decode cX2_take 39 = .ok (.invokevirtual 64, 3) := by decide +kernel
theorem dX2_take_42 : decode cX2_take 42 = .ok (.iload 4, 2) := by decide +kernel
theorem dX2_take_44 : decode cX2_take 44 = .ok (.ireturn, 1) := by decide +kernel
theorem dX2_merge_0 : decode cX2_merge 0 = .ok (.iload_n 1, 1) := by decide +kernel
theorem dX2_merge_1 : decode cX2_merge 1 = .ok (.invokestatic 29, 3) := by decide +kernel
theorem dX2_merge_4 : decode cX2_merge 4 = .ok (.iload_n 2, 1) := by decide +kernel
theorem dX2_merge_5 : decode cX2_merge 5 = .ok (.iconst 3, 1) := by decide +kernel
theorem dX2_merge_6 : decode cX2_merge 6 = .ok (.invokestatic 67, 3) := by decide +kernel
theorem dX2_merge_9 : decode cX2_merge 9 = .ok (.aload_n 0, 1) := by decide +kernel
theorem dX2_merge_10 : decode cX2_merge 10 = .ok (.iload_n 1, 1) := by decide +kernel
theorem dX2_merge_11 : decode cX2_merge 11 = .ok (.invokevirtual 39, 3) := by decide +kernel
theorem dX2_merge_14 : decode cX2_merge 14 = .ok (.astore_n 3, 1) := by decide +kernel
theorem dX2_merge_15 : decode cX2_merge 15 = .ok (.aload_n 0, 1) := by decide +kernel
theorem dX2_merge_16 : decode cX2_merge 16 = .ok (.iload_n 1, 1) := by decide +kernel
theorem dX2_merge_17 : decode cX2_merge 17 = .ok (.invokevirtual 70, 3) := by decide +kernel
theorem dX2_merge_20 : decode cX2_merge 20 = .ok (.astore 4, 2) := by decide +kernel
theorem dX2_merge_22 : decode cX2_merge 22 = .ok (.aload_n 3, 1) := by decide +kernel
theorem dX2_merge_23 : decode cX2_merge 23 = .ok (.aload 4, 2) := by decide +kernel
theorem dX2_merge_25 : decode cX2_merge 25 = .ok (.invokevirtual 73, 3) := by decide +kernel
theorem dX2_merge_28 : decode cX2_merge 28 = .ok (.istore 5, 2) := by decide +kernel
theorem dX2_merge_30 : decode cX2_merge 30 = .ok (.aload_n 3, 1) := by decide +kernel
theorem dX2_merge_31 : decode cX2_merge 31 = .ok (.invokevirtual 47, 3) := by decide +kernel
theorem dX2_merge_34 : decode cX2_merge 34 = .ok (.aload 4, 2) := by decide +kernel
theorem dX2_merge_36 : decode cX2_merge 36 = .ok (.invokevirtual 47, 3) := by decide +kernel
theorem dX2_merge_39 : decode cX2_merge 39 = .ok (.iadd, 1) := by decide +kernel
theorem dX2_merge_40 : decode cX2_merge 40 = .ok (.iload 5, 2) := by decide +kernel
theorem dX2_merge_42 : decode cX2_merge 42 = .ok (.isub, 1) := by decide +kernel
theorem dX2_merge_43 : decode cX2_merge 43 = .ok (.bipush 24, 2) := by decide +kernel
theorem dX2_merge_45 : decode cX2_merge 45 = .ok (.if_icmp .le 13, 3) := by decide +kernel
theorem dX2_merge_48 : decode cX2_merge 48 = .ok (.new 51, 3) := by decide +kernel
theorem dX2_merge_51 : decode cX2_merge 51 = .ok (.dup, 1) := by decide +kernel
theorem dX2_merge_52 : decode cX2_merge 52 = .ok (.ldc 77, 2) := by decide +kernel
theorem dX2_merge_54 : decode cX2_merge 54 = .ok (.invokespecial 55, 3) := by decide +kernel
theorem dX2_merge_57 : decode cX2_merge 57 = .ok (.athrow, 1) := by decide +kernel
theorem dX2_merge_58 : decode cX2_merge 58 = .ok (.iconst 0, 1) := by decide +kernel
theorem dX2_merge_59 : decode cX2_merge 59 = .ok (.istore 6, 2) := by decide +kernel
theorem dX2_merge_61 : decode cX2_merge 61 = .ok (.iload 6, 2) := by decide +kernel
theorem dX2_merge_63 : decode cX2_merge 63 = .ok (.aload_n 3, 1) := by decide +kernel
theorem dX2_merge_64 : decode cX2_merge 64 = .ok (.invokevirtual 47, 3) := by decide +kernel
theorem dX2_merge_67 : decode cX2_merge 67 = .ok (.if_icmp .ge 41, 3) := by decide +kernel
theorem dX2_merge_70 : decode cX2_merge 70 = .ok (.aload_n 3, 1) := by decide +kernel
theorem dX2_merge_71 : decode cX2_merge 71 = .ok (.iload 6, 2) := by decide +kernel
theorem dX2_merge_73 : decode cX2_merge 73 = .ok (.invokevirtual 79, 3) := by decide +kernel
theorem dX2_merge_76 : decode cX2_merge 76 = .ok (.istore 7, 2) := by decide +kernel
theorem dX2_merge_78 : decode cX2_merge 78 = .ok (.aload 4, 2) := by decide +kernel
theorem dX2_merge_80 : decode cX2_merge 80 = .ok (.iload 7, 2) := by decide +kernel
theorem dX2_merge_82 : decode cX2_merge 82 = .ok (.iload_n 2, 1) := by decide +kernel
theorem dX2_merge_83 : decode cX2_merge 83 = .ok (.aload_n 3, 1) := by decide +kernel
theorem dX2_merge_84 : decode cX2_merge 84 = .ok (.iload 6, 2) := by decide +kernel
theorem dX2_merge_86 : decode cX2_merge 86 = .ok (.invokevirtual 82, 3) := by decide +kernel
theorem dX2_merge_89 : decode cX2_merge 89 = .ok (.aload 4, 2) := by decide +kernel
theorem dX2_merge_91 : decode cX2_merge 91 = .ok (.iload 7, 2) := by decide +kernel
theorem dX2_merge_93 : decode cX2_merge 93 = .ok (.invokevirtual 43, 3) := by decide +kernel
theorem dX2_merge_96 : decode cX2_merge 96 = .ok (.invokestatic 85, 3) := by decide +kernel
theorem dX2_merge_99 : decode cX2_merge 99 = .ok (.invokevirtual 58, 3) := by decide +kernel
theorem dX2_merge_102 : decode cX2_merge 102 = .ok (.iinc 6 1, 3) := by decide +kernel
theorem dX2_merge_105 : decode cX2_merge 105 = .ok (.goto (-44), 3) := by decide +kernel
theorem dX2_merge_108 : decode cX2_merge 108 = .ok (.aload_n 3, 1) := by decide +kernel
theorem dX2_merge_109 : decode cX2_merge 109 = .ok (.iconst 0, 1) := by decide +kernel
theorem dX2_merge_110 : decode cX2_merge 110 = .ok (.invokevirtual 89, 3) := by decide +kernel
theorem dX2_merge_113 : decode cX2_merge 113 = .ok (.iload 5, 2) := by decide +kernel
theorem dX2_merge_115 : decode cX2_merge 115 = .ok (.ireturn, 1) := by decide +kernel
theorem dX2_cut_0 : decode cX2_cut 0 = .ok (.iload_n 1, 1) := by decide +kernel
theorem dX2_cut_1 : decode cX2_cut 1 = .ok (.invokestatic 29, 3) := by decide +kernel
theorem dX2_cut_4 : decode cX2_cut 4 = .ok (.iload_n 2, 1) := by decide +kernel
theorem dX2_cut_5 : decode cX2_cut 5 = .ok (.invokestatic 33, 3) := by decide +kernel
theorem dX2_cut_8 : decode cX2_cut 8 = .ok (.aload_n 0, 1) := by decide +kernel
theorem dX2_cut_9 : decode cX2_cut 9 = .ok (.iload_n 1, 1) := by decide +kernel
theorem dX2_cut_10 : decode cX2_cut 10 = .ok (.invokevirtual 39, 3) := by decide +kernel
theorem dX2_cut_13 : decode cX2_cut 13 = .ok (.astore_n 3, 1) := by decide +kernel
theorem dX2_cut_14 : decode cX2_cut 14 = .ok (.aload_n 0, 1) := by decide +kernel
theorem dX2_cut_15 : decode cX2_cut 15 = .ok (.iload_n 1, 1) := by decide +kernel
theorem dX2_cut_16 : decode cX2_cut 16 = .ok (.invokevirtual 70, 3) := by decide +kernel
theorem dX2_cut_19 : decode cX2_cut 19 = .ok (.astore 4, 2) := by decide +kernel
theorem dX2_cut_21 : decode cX2_cut 21 = .ok (.aload 4, 2) := by decide +kernel
theorem dX2_cut_23 : decode cX2_cut 23 = .ok (.invokevirtual 47, 3) := by decide +kernel
theorem dX2_cut_26 : decode cX2_cut 26 = .ok (.ifCond .le 13, 3) := by decide +kernel
theorem dX2_cut_29 : decode cX2_cut 29 = .ok (.new 51, 3) := by decide +kernel
theorem dX2_cut_32 : decode cX2_cut 32 = .ok (.dup, 1) := by decide +kernel
theorem dX2_cut_33 : decode cX2_cut 33 = .ok (.ldc 92, 2) := by decide +kernel
theorem dX2_cut_35 : decode cX2_cut 35 = .ok (.invokespecial 55, 3) := by decide +kernel
theorem dX2_cut_38 : decode cX2_cut 38 = .ok (.athrow, 1) := by decide +kernel
theorem dX2_cut_39 : decode cX2_cut 39 = .ok (.aload_n 3, 1) := by decide +kernel
theorem dX2_cut_40 : decode cX2_cut 40 = .ok (.iload_n 2, 1) := by decide +kernel
theorem dX2_cut_41 : decode cX2_cut 41 = .ok (.invokevirtual 94, 3) := by decide +kernel
theorem dX2_cut_44 : decode cX2_cut 44 = .ok (.istore 5, 2) := by decide +kernel
theorem dX2_cut_46 : decode cX2_cut 46 = .ok (.iload 5, 2) := by decide +kernel
theorem dX2_cut_48 : decode cX2_cut 48 = .ok (.istore 6, 2) := by decide +kernel
theorem dX2_cut_50 : decode cX2_cut 50 = .ok (.iload 6, 2) := by decide +kernel
theorem dX2_cut_52 : decode cX2_cut 52 = .ok (.aload_n 3, 1) := by decide +kernel
theorem dX2_cut_53 : decode cX2_cut 53 = .ok (.invokevirtual 47, 3) := by decide +kernel
theorem dX2_cut_56 : decode cX2_cut 56 = .ok (.if_icmp .ge 26, 3) := by decide +kernel
theorem dX2_cut_59 : decode cX2_cut 59 = .ok (.aload 4, 2) := by decide +kernel
theorem dX2_cut_61 : decode cX2_cut 61 = .ok (.aload_n 3, 1) := by decide +kernel
theorem dX2_cut_62 : decode cX2_cut 62 = .ok (.iload 6, 2) := by decide +kernel
theorem dX2_cut_64 : decode cX2_cut 64 = .ok (.invokevirtual 79, 3) := by decide +kernel
theorem dX2_cut_67 : decode cX2_cut 67 = .ok (.aload_n 3, 1) := by decide +kernel
theorem dX2_cut_68 : decode cX2_cut 68 = .ok (.iload 6, 2) := by decide +kernel
theorem dX2_cut_70 : decode cX2_cut 70 = .ok (.invokevirtual 82, 3) := by decide +kernel
theorem dX2_cut_73 : decode cX2_cut 73 = .ok (.invokevirtual 58, 3) := by decide +kernel
theorem dX2_cut_76 : decode cX2_cut 76 = .ok (.iinc 6 1, 3) := by decide +kernel
theorem dX2_cut_79 : decode cX2_cut 79 = .ok (.goto (-29), 3) := by decide +kernel
theorem dX2_cut_82 : decode cX2_cut 82 = .ok (.aload_n 3, 1) := by decide +kernel
theorem dX2_cut_83 : decode cX2_cut 83 = .ok (.iload 5, 2) := by decide +kernel
theorem dX2_cut_85 : decode cX2_cut 85 = .ok (.invokevirtual 89, 3) := by decide +kernel
theorem dX2_cut_88 : decode cX2_cut 88 = .ok (.aload 4, 2) := by decide +kernel
theorem dX2_cut_90 : decode cX2_cut 90 = .ok (.invokevirtual 47, 3) := by decide +kernel
theorem dX2_cut_93 : decode cX2_cut 93 = .ok (.ireturn, 1) := by decide +kernel
theorem dX2_turn_0 : decode cX2_turn 0 = .ok (.iload_n 1, 1) := by decide +kernel
theorem dX2_turn_1 : decode cX2_turn 1 = .ok (.invokestatic 29, 3) := by decide +kernel
theorem dX2_turn_4 : decode cX2_turn 4 = .ok (.iload_n 2, 1) := by decide +kernel
theorem dX2_turn_5 : decode cX2_turn 5 = .ok (.invokestatic 33, 3) := by decide +kernel
theorem dX2_turn_8 : decode cX2_turn 8 = .ok (.aload_n 0, 1) := by decide +kernel
theorem dX2_turn_9 : decode cX2_turn 9 = .ok (.iload_n 1, 1) := by decide +kernel
theorem dX2_turn_10 : decode cX2_turn 10 = .ok (.invokevirtual 39, 3) := by decide +kernel
theorem dX2_turn_13 : decode cX2_turn 13 = .ok (.astore_n 3, 1) := by decide +kernel
theorem dX2_turn_14 : decode cX2_turn 14 = .ok (.aload_n 3, 1) := by decide +kernel
theorem dX2_turn_15 : decode cX2_turn 15 = .ok (.invokestatic 97, 3) := by decide +kernel
theorem dX2_turn_18 : decode cX2_turn 18 = .ok (.aload_n 3, 1) := by decide +kernel
theorem dX2_turn_19 : decode cX2_turn 19 = .ok (.iload_n 2, 1) := by decide +kernel
theorem dX2_turn_20 : decode cX2_turn 20 = .ok (.invokevirtual 101, 3) := by decide +kernel
theorem dX2_turn_23 : decode cX2_turn 23 = .ok (.aload_n 3, 1) := by decide +kernel
theorem dX2_turn_24 : decode cX2_turn 24 = .ok (.iconst 0, 1) := by decide +kernel
theorem dX2_turn_25 : decode cX2_turn 25 = .ok (.invokevirtual 79, 3) := by decide +kernel
theorem dX2_turn_28 : decode cX2_turn 28 = .ok (.ireturn, 1) := by decide +kernel
theorem dX2_miles_0 : decode cX2_miles 0 = .ok (.iload_n 1, 1) := by decide +kernel
theorem dX2_miles_1 : decode cX2_miles 1 = .ok (.invokestatic 29, 3) := by decide +kernel
theorem dX2_miles_4 : decode cX2_miles 4 = .ok (.iload_n 2, 1) := by decide +kernel
theorem dX2_miles_5 : decode cX2_miles 5 = .ok (.invokestatic 33, 3) := by decide +kernel
theorem dX2_miles_8 : decode cX2_miles 8 = .ok (.aload_n 0, 1) := by decide +kernel
theorem dX2_miles_9 : decode cX2_miles 9 = .ok (.iload_n 1, 1) := by decide +kernel
theorem dX2_miles_10 : decode cX2_miles 10 = .ok (.invokevirtual 39, 3) := by decide +kernel
theorem dX2_miles_13 : decode cX2_miles 13 = .ok (.iload_n 2, 1) := by decide +kernel
theorem dX2_miles_14 : decode cX2_miles 14 = .ok (.invokevirtual 43, 3) := by decide +kernel
theorem dX2_miles_17 : decode cX2_miles 17 = .ok (.ireturn, 1) := by decide +kernel
theorem dX2_count_0 : decode cX2_count 0 = .ok (.iload_n 1, 1) := by decide +kernel
theorem dX2_count_1 : decode cX2_count 1 = .ok (.invokestatic 29, 3) := by decide +kernel
theorem dX2_count_4 : decode cX2_count 4 = .ok (.iload_n 2, 1) := by decide +kernel
theorem dX2_count_5 : decode cX2_count 5 = .ok (.bipush 6, 2) := by decide +kernel
theorem dX2_count_7 : decode cX2_count 7 = .ok (.invokestatic 67, 3) := by decide +kernel
theorem dX2_count_10 : decode cX2_count 10 = .ok (.aload_n 0, 1) := by decide +kernel
theorem dX2_count_11 : decode cX2_count 11 = .ok (.iload_n 1, 1) := by decide +kernel
theorem dX2_count_12 : decode cX2_count 12 = .ok (.invokevirtual 39, 3) := by decide +kernel
theorem dX2_count_15 : decode cX2_count 15 = .ok (.astore_n 3, 1) := by decide +kernel
theorem dX2_count_16 : decode cX2_count 16 = .ok (.aload_n 0, 1) := by decide +kernel
theorem dX2_count_17 : decode cX2_count 17 = .ok (.getfield 25, 3) := by decide +kernel
theorem dX2_count_20 : decode cX2_count 20 = .ok (.aload_n 3, 1) := by decide +kernel
theorem dX2_count_21 : decode cX2_count 21 = .ok (.invokevirtual 104, 3) := by decide +kernel
theorem dX2_count_24 : decode cX2_count 24 = .ok (.aload_n 3, 1) := by decide +kernel
theorem dX2_count_25 : decode cX2_count 25 = .ok (.aload_n 0, 1) := by decide +kernel
theorem dX2_count_26 : decode cX2_count 26 = .ok (.getfield 25, 3) := by decide +kernel
theorem dX2_count_29 : decode cX2_count 29 = .ok (.iload_n 2, 1) := by decide +kernel
theorem dX2_count_30 : decode cX2_count 30 = .ok (.invokestatic 107, 3) := by decide +kernel
theorem dX2_count_33 : decode cX2_count 33 = .ok (.ireturn, 1) := by decide +kernel
theorem dX2_sign_0 : decode cX2_sign 0 = .ok (.iload_n 1, 1) := by decide +kernel
theorem dX2_sign_1 : decode cX2_sign 1 = .ok (.invokestatic 29, 3) := by decide +kernel
theorem dX2_sign_4 : decode cX2_sign 4 = .ok (.aload_n 0, 1) := by decide +kernel
theorem dX2_sign_5 : decode cX2_sign 5 = .ok (.getfield 25, 3) := by decide +kernel
theorem dX2_sign_8 : decode cX2_sign 8 = .ok (.aload_n 0, 1) := by decide +kernel
theorem dX2_sign_9 : decode cX2_sign 9 = .ok (.iload_n 1, 1) := by decide +kernel
theorem dX2_sign_10 : decode cX2_sign 10 = .ok (.invokevirtual 39, 3) := by decide +kernel
theorem dX2_sign_13 : decode cX2_sign 13 = .ok (.invokevirtual 104, 3) := by decide +kernel
theorem dX2_sign_16 : decode cX2_sign 16 = .ok (.iload_n 2, 1) := by decide +kernel
theorem dX2_sign_17 : decode cX2_sign 17 = .ok (.aload_n 0, 1) := by decide +kernel
theorem dX2_sign_18 : decode cX2_sign 18 = .ok (.getfield 25, 3) := by decide +kernel
theorem dX2_sign_21 : decode cX2_sign 21 = .ok (.invokevirtual 111, 3) := by decide +kernel
theorem dX2_sign_24 : decode cX2_sign 24 = .ok (.iconst 1, 1) := by decide +kernel
theorem dX2_sign_25 : decode cX2_sign 25 = .ok (.isub, 1) := by decide +kernel
theorem dX2_sign_26 : decode cX2_sign 26 = .ok (.invokestatic 67, 3) := by decide +kernel
theorem dX2_sign_29 : decode cX2_sign 29 = .ok (.iload_n 3, 1) := by decide +kernel
theorem dX2_sign_30 : decode cX2_sign 30 = .ok (.bipush 6, 2) := by decide +kernel
theorem dX2_sign_32 : decode cX2_sign 32 = .ok (.invokestatic 67, 3) := by decide +kernel
theorem dX2_sign_35 : decode cX2_sign 35 = .ok (.aload_n 0, 1) := by decide +kernel
theorem dX2_sign_36 : decode cX2_sign 36 = .ok (.getfield 25, 3) := by decide +kernel
theorem dX2_sign_39 : decode cX2_sign 39 = .ok (.iload_n 2, 1) := by decide +kernel
theorem dX2_sign_40 : decode cX2_sign 40 = .ok (.iload_n 3, 1) := by decide +kernel
theorem dX2_sign_41 : decode cX2_sign 41 = .ok (.invokevirtual 112, 3) := by decide +kernel
theorem dX2_sign_44 : decode cX2_sign 44 = .ok (.ireturn, 1) := by decide +kernel
theorem dX2_walk_0 : decode cX2_walk 0 = .ok (.iload_n 1, 1) := by decide +kernel
theorem dX2_walk_1 : decode cX2_walk 1 = .ok (.invokestatic 29, 3) := by decide +kernel
theorem dX2_walk_4 : decode cX2_walk 4 = .ok (.iload_n 3, 1) := by decide +kernel
theorem dX2_walk_5 : decode cX2_walk 5 = .ok (.iconst 2, 1) := by decide +kernel
theorem dX2_walk_6 : decode cX2_walk 6 = .ok (.invokestatic 67, 3) := by decide +kernel
theorem dX2_walk_9 : decode cX2_walk 9 = .ok (.iload_n 2, 1) := by decide +kernel
theorem dX2_walk_10 : decode cX2_walk 10 = .ok (.invokestatic 33, 3) := by decide +kernel
theorem dX2_walk_13 : decode cX2_walk 13 = .ok (.aload_n 0, 1) := by decide +kernel
theorem dX2_walk_14 : decode cX2_walk 14 = .ok (.iload_n 1, 1) := by decide +kernel
theorem dX2_walk_15 : decode cX2_walk 15 = .ok (.invokevirtual 39, 3) := by decide +kernel
theorem dX2_walk_18 : decode cX2_walk 18 = .ok (.astore 4, 2) := by decide +kernel
theorem dX2_walk_20 : decode cX2_walk 20 = .ok (.aload 4, 2) := by decide +kernel
theorem dX2_walk_22 : decode cX2_walk 22 = .ok (.invokestatic 97, 3) := by decide +kernel
theorem dX2_walk_25 : decode cX2_walk 25 = .ok (.aload_n 0, 1) := by decide +kernel
theorem dX2_walk_26 : decode cX2_walk 26 = .ok (.getfield 25, 3) := by decide +kernel
theorem dX2_walk_29 : decode cX2_walk 29 = .ok (.aload 4, 2) := by decide +kernel
theorem dX2_walk_31 : decode cX2_walk 31 = .ok (.invokevirtual 104, 3) := by decide +kernel
theorem dX2_walk_34 : decode cX2_walk 34 = .ok (.aload_n 0, 1) := by decide +kernel
theorem dX2_walk_35 : decode cX2_walk 35 = .ok (.getfield 25, 3) := by decide +kernel
theorem dX2_walk_38 : decode cX2_walk 38 = .ok (.iload_n 2, 1) := by decide +kernel
theorem dX2_walk_39 : decode cX2_walk 39 = .ok (.iload_n 3, 1) := by decide +kernel
theorem dX2_walk_40 : decode cX2_walk 40 = .ok (.invokevirtual 116, 3) := by decide +kernel
theorem dX2_walk_43 : decode cX2_walk 43 = .ok (.ireturn, 1) := by decide +kernel
theorem dX2_step_0 : decode cX2_step 0 = .ok (.iload_n 1, 1) := by decide +kernel
theorem dX2_step_1 : decode cX2_step 1 = .ok (.invokestatic 29, 3) := by decide +kernel
theorem dX2_step_4 : decode cX2_step 4 = .ok (.iload_n 2, 1) := by decide +kernel
theorem dX2_step_5 : decode cX2_step 5 = .ok (.invokestatic 33, 3) := by decide +kernel
theorem dX2_step_8 : decode cX2_step 8 = .ok (.aload_n 0, 1) := by decide +kernel
theorem dX2_step_9 : decode cX2_step 9 = .ok (.iload_n 1, 1) := by decide +kernel
theorem dX2_step_10 : decode cX2_step 10 = .ok (.invokevirtual 39, 3) := by decide +kernel
theorem dX2_step_13 : decode cX2_step 13 = .ok (.astore 4, 2) := by decide +kernel
theorem dX2_step_15 : decode cX2_step 15 = .ok (.iload_n 3, 1) := by decide +kernel
theorem dX2_step_16 : decode cX2_step 16 = .ok (.ifCond .eq 17, 3) := by decide +kernel
theorem dX2_step_19 : decode cX2_step 19 = .ok (.aload 4, 2) := by decide +kernel
theorem dX2_step_21 : decode cX2_step 21 = .ok (.aload 4, 2) := by decide +kernel
theorem dX2_step_23 : decode cX2_step 23 = .ok (.iload_n 2, 1) := by decide +kernel
theorem dX2_step_24 : decode cX2_step 24 = .ok (.iconst 1, 1) := by decide +kernel
theorem dX2_step_25 : decode cX2_step 25 = .ok (.iadd, 1) := by decide +kernel
theorem dX2_step_26 : decode cX2_step 26 = .ok (.invokevirtual 94, 3) := by decide +kernel
theorem dX2_step_29 : decode cX2_step 29 = .ok (.invokevirtual 79, 3) := by decide +kernel
theorem dX2_step_32 : decode cX2_step 32 = .ok (.ireturn, 1) := by decide +kernel
theorem dX2_step_33 : decode cX2_step 33 = .ok (.aload 4, 2) := by decide +kernel
theorem dX2_step_35 : decode cX2_step 35 = .ok (.aload 4, 2) := by decide +kernel
theorem dX2_step_37 : decode cX2_step 37 = .ok (.iload_n 2, 1) := by decide +kernel
theorem dX2_step_38 : decode cX2_step 38 = .ok (.invokevirtual 94, 3) := by decide +kernel
theorem dX2_step_41 : decode cX2_step 41 = .ok (.iconst 1, 1) := by decide +kernel
theorem dX2_step_42 : decode cX2_step 42 = .ok (.isub, 1) := by decide +kernel
theorem dX2_step_43 : decode cX2_step 43 = .ok (.invokevirtual 79, 3) := by decide +kernel
theorem dX2_step_46 : decode cX2_step 46 = .ok (.ireturn, 1) := by decide +kernel
theorem dX2_at_0 : decode cX2_at 0 = .ok (.iload_n 1, 1) := by decide +kernel
theorem dX2_at_1 : decode cX2_at 1 = .ok (.invokestatic 29, 3) := by decide +kernel
theorem dX2_at_4 : decode cX2_at 4 = .ok (.aload_n 0, 1) := by decide +kernel
theorem dX2_at_5 : decode cX2_at 5 = .ok (.iload_n 1, 1) := by decide +kernel
theorem dX2_at_6 : decode cX2_at 6 = .ok (.invokevirtual 39, 3) := by decide +kernel
theorem dX2_at_9 : decode cX2_at 9 = .ok (.astore_n 3, 1) := by decide +kernel
theorem dX2_at_10 : decode cX2_at 10 = .ok (.iload_n 2, 1) := by decide +kernel
theorem dX2_at_11 : decode cX2_at 11 = .ok (.aload_n 3, 1) := by decide +kernel
theorem dX2_at_12 : decode cX2_at 12 = .ok (.invokevirtual 47, 3) := by decide +kernel
theorem dX2_at_15 : decode cX2_at 15 = .ok (.iconst 1, 1) := by decide +kernel
theorem dX2_at_16 : decode cX2_at 16 = .ok (.isub, 1) := by decide +kernel
theorem dX2_at_17 : decode cX2_at 17 = .ok (.invokestatic 67, 3) := by decide +kernel
theorem dX2_at_20 : decode cX2_at 20 = .ok (.aload_n 3, 1) := by decide +kernel
theorem dX2_at_21 : decode cX2_at 21 = .ok (.iload_n 2, 1) := by decide +kernel
theorem dX2_at_22 : decode cX2_at 22 = .ok (.invokevirtual 79, 3) := by decide +kernel
theorem dX2_at_25 : decode cX2_at 25 = .ok (.ireturn, 1) := by decide +kernel
theorem dX2_near_0 : decode cX2_near 0 = .ok (.iload_n 1, 1) := by decide +kernel
theorem dX2_near_1 : decode cX2_near 1 = .ok (.invokestatic 29, 3) := by decide +kernel
theorem dX2_near_4 : decode cX2_near 4 = .ok (.iload_n 2, 1) := by decide +kernel
theorem dX2_near_5 : decode cX2_near 5 = .ok (.invokestatic 33, 3) := by decide +kernel
theorem dX2_near_8 : decode cX2_near 8 = .ok (.aload_n 0, 1) := by decide +kernel
theorem dX2_near_9 : decode cX2_near 9 = .ok (.iload_n 1, 1) := by decide +kernel
theorem dX2_near_10 : decode cX2_near 10 = .ok (.invokevirtual 39, 3) := by decide +kernel
theorem dX2_near_13 : decode cX2_near 13 = .ok (.iload_n 2, 1) := by decide +kernel
theorem dX2_near_14 : decode cX2_near 14 = .ok (.invokevirtual 133, 3) := by decide +kernel
theorem dX2_near_17 : decode cX2_near 17 = .ok (.ireturn, 1) := by decide +kernel
theorem dX2_far_0 : decode cX2_far 0 = .ok (.iload_n 1, 1) := by decide +kernel
theorem dX2_far_1 : decode cX2_far 1 = .ok (.invokestatic 29, 3) := by decide +kernel
theorem dX2_far_4 : decode cX2_far 4 = .ok (.aload_n 0, 1) := by decide +kernel
theorem dX2_far_5 : decode cX2_far 5 = .ok (.iload_n 1, 1) := by decide +kernel
theorem dX2_far_6 : decode cX2_far 6 = .ok (.invokevirtual 39, 3) := by decide +kernel
theorem dX2_far_9 : decode cX2_far 9 = .ok (.invokevirtual 136, 3) := by decide +kernel
theorem dX2_far_12 : decode cX2_far 12 = .ok (.ireturn, 1) := by decide +kernel
theorem dX2_unlike_0 : decode cX2_unlike 0 = .ok (.iload_n 1, 1) := by decide +kernel
theorem dX2_unlike_1 : decode cX2_unlike 1 = .ok (.invokestatic 33, 3) := by decide +kernel
theorem dX2_unlike_4 : decode cX2_unlike 4 = .ok (.iload_n 2, 1) := by decide +kernel
theorem dX2_unlike_5 : decode cX2_unlike 5 = .ok (.invokestatic 33, 3) := by decide +kernel
theorem dX2_unlike_8 : decode cX2_unlike 8 = .ok (.iload_n 1, 1) := by decide +kernel
theorem dX2_unlike_9 : decode cX2_unlike 9 = .ok (.iload_n 2, 1) := by decide +kernel
theorem dX2_unlike_10 : decode cX2_unlike 10 = .ok (.invokestatic 139, 3) := by decide +kernel
theorem dX2_unlike_13 : decode cX2_unlike 13 = .ok (.ireturn, 1) := by decide +kernel
theorem dX2_would_0 : decode cX2_would 0 = .ok (.iload_n 1, 1) := by decide +kernel
theorem dX2_would_1 : decode cX2_would 1 = .ok (.iconst 3, 1) := by decide +kernel
theorem dX2_would_2 : decode cX2_would 2 = .ok (.invokestatic 67, 3) := by decide +kernel
theorem dX2_would_5 : decode cX2_would 5 = .ok (.aload_n 0, 1) := by decide +kernel
theorem dX2_would_6 : decode cX2_would 6 = .ok (.invokevirtual 142, 3) := by decide +kernel
theorem dX2_would_9 : decode cX2_would 9 = .ok (.aload_n 0, 1) := by decide +kernel
theorem dX2_would_10 : decode cX2_would 10 = .ok (.getfield 25, 3) := by decide +kernel
theorem dX2_would_13 : decode cX2_would 13 = .ok (.aload_n 0, 1) := by decide +kernel
theorem dX2_would_14 : decode cX2_would 14 = .ok (.getfield 19, 3) := by decide +kernel
theorem dX2_would_17 : decode cX2_would 17 = .ok (.invokevirtual 104, 3) := by decide +kernel
theorem dX2_would_20 : decode cX2_would 20 = .ok (.aload_n 0, 1) := by decide +kernel
theorem dX2_would_21 : decode cX2_would 21 = .ok (.getfield 19, 3) := by decide +kernel
theorem dX2_would_24 : decode cX2_would 24 = .ok (.aload_n 0, 1) := by decide +kernel
theorem dX2_would_25 : decode cX2_would 25 = .ok (.getfield 25, 3) := by decide +kernel
theorem dX2_would_28 : decode cX2_would 28 = .ok (.iload_n 1, 1) := by decide +kernel
theorem dX2_would_29 : decode cX2_would 29 = .ok (.invokestatic 107, 3) := by decide +kernel
theorem dX2_would_32 : decode cX2_would 32 = .ok (.ireturn, 1) := by decide +kernel
theorem dX2_mean_0 : decode cX2_mean 0 = .ok (.iload_n 1, 1) := by decide +kernel
theorem dX2_mean_1 : decode cX2_mean 1 = .ok (.invokestatic 29, 3) := by decide +kernel
theorem dX2_mean_4 : decode cX2_mean 4 = .ok (.aload_n 0, 1) := by decide +kernel
theorem dX2_mean_5 : decode cX2_mean 5 = .ok (.iload_n 1, 1) := by decide +kernel
theorem dX2_mean_6 : decode cX2_mean 6 = .ok (.invokevirtual 39, 3) := by decide +kernel
theorem dX2_mean_9 : decode cX2_mean 9 = .ok (.astore_n 2, 1) := by decide +kernel
theorem dX2_mean_10 : decode cX2_mean 10 = .ok (.aload_n 2, 1) := by decide +kernel
theorem dX2_mean_11 : decode cX2_mean 11 = .ok (.invokevirtual 47, 3) := by decide +kernel
theorem dX2_mean_14 : decode cX2_mean 14 = .ok (.istore_n 3, 1) := by decide +kernel
theorem dX2_mean_15 : decode cX2_mean 15 = .ok (.iload_n 3, 1) := by decide +kernel
theorem dX2_mean_16 : decode cX2_mean 16 = .ok (.ifCond .ne 5, 3) := by decide +kernel
theorem dX2_mean_19 : decode cX2_mean 19 = .ok (.dconst 0, 1) := by decide +kernel
theorem dX2_mean_20 : decode cX2_mean 20 = .ok (.dreturn, 1) := by decide +kernel
theorem dX2_mean_21 : decode cX2_mean 21 = .ok (.aload_n 0, 1) := by decide +kernel
theorem dX2_mean_22 : decode cX2_mean 22 = .ok (.getfield 25, 3) := by decide +kernel
theorem dX2_mean_25 : decode cX2_mean 25 = .ok (.aload_n 2, 1) := by decide +kernel
theorem dX2_mean_26 : decode cX2_mean 26 = .ok (.invokevirtual 104, 3) := by decide +kernel
theorem dX2_mean_29 : decode cX2_mean 29 = .ok (.aload_n 0, 1) := by decide +kernel
theorem dX2_mean_30 : decode cX2_mean 30 = .ok (.getfield 25, 3) := by decide +kernel
theorem dX2_mean_33 : decode cX2_mean 33 = .ok (.invokevirtual 148, 3) := by decide +kernel
theorem dX2_mean_36 : decode cX2_mean 36 = .ok (.i2d, 1) := by decide +kernel
theorem dX2_mean_37 : decode cX2_mean 37 = .ok (.iload_n 3, 1) := by decide +kernel
theorem dX2_mean_38 : decode cX2_mean 38 = .ok (.i2d, 1) := by decide +kernel
theorem dX2_mean_39 : decode cX2_mean 39 = .ok (.ddiv, 1) := by decide +kernel
theorem dX2_mean_40 : decode cX2_mean 40 = .ok (.dreturn, 1) := by decide +kernel
theorem dX2_digest_0 : decode cX2_digest 0 = .ok (.aload_n 0, 1) := by decide +kernel
theorem dX2_digest_1 : decode cX2_digest 1 = .ok (.ldc2_w 151, 3) := by decide +kernel
theorem dX2_digest_4 : decode cX2_digest 4 = .ok (.aload_n 0, 1) := by decide +kernel
theorem dX2_digest_5 : decode cX2_digest 5 = .ok (.getfield 12, 3) := by decide +kernel
theorem dX2_digest_8 : decode cX2_digest 8 = .ok (.invokevirtual 153, 3) := by decide +kernel
theorem dX2_digest_11 : decode cX2_digest 11 = .ok (.lstore_n 1, 1) := by decide +kernel
theorem dX2_digest_12 : decode cX2_digest 12 = .ok (.aload_n 0, 1) := by decide +kernel
theorem dX2_digest_13 : decode cX2_digest 13 = .ok (.lload_n 1, 1) := by decide +kernel
theorem dX2_digest_14 : decode cX2_digest 14 = .ok (.aload_n 0, 1) := by decide +kernel
theorem dX2_digest_15 : decode cX2_digest 15 = .ok (.getfield 16, 3) := by decide +kernel
theorem dX2_digest_18 : decode cX2_digest 18 = .ok (.invokevirtual 153, 3) := by decide +kernel
theorem dX2_digest_21 : decode cX2_digest 21 = .ok (.lstore_n 1, 1) := by decide +kernel
theorem dX2_digest_22 : decode cX2_digest 22 = .ok (.aload_n 0, 1) := by decide +kernel
theorem dX2_digest_23 : decode cX2_digest 23 = .ok (.invokevirtual 142, 3) := by decide +kernel
theorem dX2_digest_26 : decode cX2_digest 26 = .ok (.aload_n 0, 1) := by decide +kernel
theorem dX2_digest_27 : decode cX2_digest 27 = .ok (.getfield 25, 3) := by decide +kernel
theorem dX2_digest_30 : decode cX2_digest 30 = .ok (.aload_n 0, 1) := by decide +kernel
theorem dX2_digest_31 : decode cX2_digest 31 = .ok (.getfield 19, 3) := by decide +kernel
theorem dX2_digest_34 : decode cX2_digest 34 = .ok (.invokevirtual 104, 3) := by decide +kernel
theorem dX2_digest_37 : decode cX2_digest 37 = .ok (.iconst 0, 1) := by decide +kernel
theorem dX2_digest_38 : decode cX2_digest 38 = .ok (.istore_n 3, 1) := by decide +kernel
theorem dX2_digest_39 : decode cX2_digest 39 = .ok (.iload_n 3, 1) := by decide +kernel
theorem dX2_digest_40 : decode cX2_digest 40 = .ok (.iconst 3, 1) := by decide +kernel
theorem dX2_digest_41 : decode cX2_digest 41 = .ok (.if_icmp .gt 26, 3) := by decide +kernel
theorem dX2_digest_44 : decode cX2_digest 44 = .ok (.lload_n 1, 1) := by decide +kernel
theorem dX2_digest_45 : decode cX2_digest 45 = .ok (.aload_n 0, 1) := by decide +kernel
theorem dX2_digest_46 : decode cX2_digest 46 = .ok (.getfield 19, 3) := by decide +kernel
theorem dX2_digest_49 : decode cX2_digest 49 = .ok (.aload_n 0, 1) := by decide +kernel
theorem dX2_digest_50 : decode cX2_digest 50 = .ok (.getfield 25, 3) := by decide +kernel
theorem dX2_digest_53 : decode cX2_digest 53 = .ok (.iload_n 3, 1) := by decide +kernel
theorem dX2_digest_54 : decode cX2_digest 54 = .ok (.invokestatic 107, 3) := by decide +kernel
theorem dX2_digest_57 : decode cX2_digest 57 = .ok (.invokestatic 157, 3) := by decide +kernel
theorem dX2_digest_60 : decode cX2_digest 60 = .ok (.lstore_n 1, 1) := by decide +kernel
theorem dX2_digest_61 : decode cX2_digest 61 = .ok (.iinc 3 1, 3) := by decide +kernel
theorem dX2_digest_64 : decode cX2_digest 64 = .ok (.goto (-25), 3) := by decide +kernel
theorem dX2_digest_67 : decode cX2_digest 67 = .ok (.lload_n 1, 1) := by decide +kernel
theorem dX2_digest_68 : decode cX2_digest 68 = .ok (.lreturn, 1) := by decide +kernel
theorem dX2_digestOfWood_0 : decode cX2_digestOfWood 0 = .ok (.lload_n 1, 1) := by decide +kernel
theorem dX2_digestOfWood_1 : decode cX2_digestOfWood 1 = .ok (.lstore 4, 2) := by decide +kernel
theorem dX2_digestOfWood_3 : decode cX2_digestOfWood 3 = .ok (.aload_n 0, 1) := by decide +kernel
theorem dX2_digestOfWood_4 : decode cX2_digestOfWood 4 = .ok (.getfield 25, 3) := by decide +kernel
theorem dX2_digestOfWood_7 : decode cX2_digestOfWood 7 = .ok (.aload_n 3, 1) := by decide +kernel
theorem dX2_digestOfWood_8 : decode cX2_digestOfWood 8 = .ok (.invokevirtual 104, 3) := by decide +kernel
theorem dX2_digestOfWood_11 : decode cX2_digestOfWood 11 = .ok (.iconst 0, 1) := by decide +kernel
theorem dX2_digestOfWood_12 : decode cX2_digestOfWood 12 = .ok (.istore 6, 2) := by decide +kernel
theorem dX2_digestOfWood_14 : decode cX2_digestOfWood 14 = .ok (.iload 6, 2) := by decide +kernel
theorem dX2_digestOfWood_16 : decode cX2_digestOfWood 16 = .ok (.bipush 6, 2) := by decide +kernel
theorem dX2_digestOfWood_18 : decode cX2_digestOfWood 18 = .ok (.if_icmp .gt 26, 3) := by decide +kernel
theorem dX2_digestOfWood_21 : decode cX2_digestOfWood 21 = .ok (.lload 4, 2) := by decide +kernel
theorem dX2_digestOfWood_23 : decode cX2_digestOfWood 23 = .ok (.aload_n 3, 1) := by decide +kernel
theorem dX2_digestOfWood_24 : decode cX2_digestOfWood 24 = .ok (.aload_n 0, 1) := by decide +kernel
theorem dX2_digestOfWood_25 : decode cX2_digestOfWood 25 = .ok (.getfield 25, 3) := by decide +kernel
theorem dX2_digestOfWood_28 : decode cX2_digestOfWood 28 = .ok (.iload 6, 2) := by decide +kernel
theorem dX2_digestOfWood_30 : decode cX2_digestOfWood 30 = .ok (.invokestatic 107, 3) := by decide +kernel
theorem dX2_digestOfWood_33 : decode cX2_digestOfWood 33 = .ok (.invokestatic 157, 3) := by decide +kernel
theorem dX2_digestOfWood_36 : decode cX2_digestOfWood 36 = .ok (.lstore 4, 2) := by decide +kernel
theorem dX2_digestOfWood_38 : decode cX2_digestOfWood 38 = .ok (.iinc 6 1, 3) := by decide +kernel
theorem dX2_digestOfWood_41 : decode cX2_digestOfWood 41 = .ok (.goto (-27), 3) := by decide +kernel
theorem dX2_digestOfWood_44 : decode cX2_digestOfWood 44 = .ok (.lload 4, 2) := by decide +kernel
theorem dX2_digestOfWood_46 : decode cX2_digestOfWood 46 = .ok (.aload_n 3, 1) := by decide +kernel
theorem dX2_digestOfWood_47 : decode cX2_digestOfWood 47 = .ok (.invokevirtual 136, 3) := by decide +kernel
theorem dX2_digestOfWood_50 : decode cX2_digestOfWood 50 = .ok (.invokestatic 157, 3) := by decide +kernel
theorem dX2_digestOfWood_53 : decode cX2_digestOfWood 53 = .ok (.lstore 4, 2) := by decide +kernel
theorem dX2_digestOfWood_55 : decode cX2_digestOfWood 55 = .ok (.iconst 0, 1) := by decide +kernel
theorem dX2_digestOfWood_56 : decode cX2_digestOfWood 56 = .ok (.istore 6, 2) := by decide +kernel
theorem dX2_digestOfWood_58 : decode cX2_digestOfWood 58 = .ok (.iload 6, 2) := by decide +kernel
theorem dX2_digestOfWood_60 : decode cX2_digestOfWood 60 = .ok (.aload_n 0, 1) := by decide +kernel
theorem dX2_digestOfWood_61 : decode cX2_digestOfWood 61 = .ok (.getfield 25, 3) := by decide +kernel
theorem dX2_digestOfWood_64 : decode cX2_digestOfWood 64 = .ok (.invokevirtual 111, 3) := by decide +kernel
theorem dX2_digestOfWood_67 : decode cX2_digestOfWood 67 = .ok (.if_icmp .ge 43, 3) := by decide +kernel
theorem dX2_digestOfWood_70 : decode cX2_digestOfWood 70 = .ok (.iconst 0, 1) := by decide +kernel
theorem dX2_digestOfWood_71 : decode cX2_digestOfWood 71 = .ok (.istore 7, 2) := by decide +kernel
theorem dX2_digestOfWood_73 : decode cX2_digestOfWood 73 = .ok (.iload 7, 2) := by decide +kernel
theorem dX2_digestOfWood_75 : decode cX2_digestOfWood 75 = .ok (.bipush 6, 2) := by decide +kernel
theorem dX2_digestOfWood_77 : decode cX2_digestOfWood 77 = .ok (.if_icmp .gt 27, 3) := by decide +kernel
theorem dX2_digestOfWood_80 : decode cX2_digestOfWood 80 = .ok (.lload 4, 2) := by decide +kernel
theorem dX2_digestOfWood_82 : decode cX2_digestOfWood 82 = .ok (.aload_n 0, 1) := by decide +kernel
theorem dX2_digestOfWood_83 : decode cX2_digestOfWood 83 = .ok (.getfield 25, 3) := by decide +kernel
theorem dX2_digestOfWood_86 : decode cX2_digestOfWood 86 = .ok (.iload 6, 2) := by decide +kernel
theorem dX2_digestOfWood_88 : decode cX2_digestOfWood 88 = .ok (.iload 7, 2) := by decide +kernel
theorem dX2_digestOfWood_90 : decode cX2_digestOfWood 90 = .ok (.invokevirtual 112, 3) := by decide +kernel
theorem dX2_digestOfWood_93 : decode cX2_digestOfWood 93 = .ok (.invokestatic 157, 3) := by decide +kernel
theorem dX2_digestOfWood_96 : decode cX2_digestOfWood 96 = .ok (.lstore 4, 2) := by decide +kernel
theorem dX2_digestOfWood_98 : decode cX2_digestOfWood 98 = .ok (.iinc 7 1, 3) := by decide +kernel
theorem dX2_digestOfWood_101 : decode cX2_digestOfWood 101 = .ok (.goto (-28), 3) := by decide +kernel
theorem dX2_digestOfWood_104 : decode cX2_digestOfWood 104 = .ok (.iinc 6 1, 3) := by decide +kernel
theorem dX2_digestOfWood_107 : decode cX2_digestOfWood 107 = .ok (.goto (-49), 3) := by decide +kernel
theorem dX2_digestOfWood_110 : decode cX2_digestOfWood 110 = .ok (.iconst 0, 1) := by decide +kernel
theorem dX2_digestOfWood_111 : decode cX2_digestOfWood 111 = .ok (.istore 6, 2) := by decide +kernel
theorem dX2_digestOfWood_113 : decode cX2_digestOfWood 113 = .ok (.iload 6, 2) := by decide +kernel
theorem dX2_digestOfWood_115 : decode cX2_digestOfWood 115 = .ok (.aload_n 3, 1) := by decide +kernel
theorem dX2_digestOfWood_116 : decode cX2_digestOfWood 116 = .ok (.invokevirtual 47, 3) := by decide +kernel
theorem dX2_digestOfWood_119 : decode cX2_digestOfWood 119 = .ok (.if_icmp .ge 22, 3) := by decide +kernel
theorem dX2_digestOfWood_122 : decode cX2_digestOfWood 122 = .ok (.lload 4, 2) := by decide +kernel
theorem dX2_digestOfWood_124 : decode cX2_digestOfWood 124 = .ok (.aload_n 3, 1) := by decide +kernel
theorem dX2_digestOfWood_125 : decode cX2_digestOfWood 125 = .ok (.iload 6, 2) := by decide +kernel
theorem dX2_digestOfWood_127 : decode cX2_digestOfWood 127 = .ok (.invokevirtual 82, 3) := by decide +kernel
theorem dX2_digestOfWood_130 : decode cX2_digestOfWood 130 = .ok (.invokestatic 157, 3) := by decide +kernel
theorem dX2_digestOfWood_133 : decode cX2_digestOfWood 133 = .ok (.lstore 4, 2) := by decide +kernel
theorem dX2_digestOfWood_135 : decode cX2_digestOfWood 135 = .ok (.iinc 6 1, 3) := by decide +kernel
theorem dX2_digestOfWood_138 : decode cX2_digestOfWood 138 = .ok (.goto (-25), 3) := by decide +kernel
theorem dX2_digestOfWood_141 : decode cX2_digestOfWood 141 = .ok (.lload 4, 2) := by decide +kernel
theorem dX2_digestOfWood_143 : decode cX2_digestOfWood 143 = .ok (.lreturn, 1) := by decide +kernel
theorem dX2_digested_0 : decode cX2_digested 0 = .ok (.lload_n 0, 1) := by decide +kernel
theorem dX2_digested_1 : decode cX2_digested 1 = .ok (.ldc2_w 161, 3) := by decide +kernel
theorem dX2_digested_4 : decode cX2_digested 4 = .ok (.lmul, 1) := by decide +kernel
theorem dX2_digested_5 : decode cX2_digested 5 = .ok (.iload_n 2, 1) := by decide +kernel
theorem dX2_digested_6 : decode cX2_digested 6 = .ok (.i2l, 1) := by decide +kernel
theorem dX2_digested_7 : decode cX2_digested 7 = .ok (.ladd, 1) := by decide +kernel
theorem dX2_digested_8 : decode cX2_digested 8 = .ok (.lreturn, 1) := by decide +kernel
theorem dX2_villagesOf_0 : decode cX2_villagesOf 0 = .ok (.iload_n 1, 1) := by decide +kernel
theorem dX2_villagesOf_1 : decode cX2_villagesOf 1 = .ok (.ifCond .ne 10, 3) := by decide +kernel
theorem dX2_villagesOf_4 : decode cX2_villagesOf 4 = .ok (.aload_n 0, 1) := by decide +kernel
theorem dX2_villagesOf_5 : decode cX2_villagesOf 5 = .ok (.getfield 12, 3) := by decide +kernel
theorem dX2_villagesOf_8 : decode cX2_villagesOf 8 = .ok (.goto 7, 3) := by decide +kernel
theorem dX2_villagesOf_11 : decode cX2_villagesOf 11 = .ok (.aload_n 0, 1) := by decide +kernel
theorem dX2_villagesOf_12 : decode cX2_villagesOf 12 = .ok (.getfield 16, 3) := by decide +kernel
theorem dX2_villagesOf_15 : decode cX2_villagesOf 15 = .ok (.areturn, 1) := by decide +kernel
theorem dX2_otherThan_0 : decode cX2_otherThan 0 = .ok (.iload_n 1, 1) := by decide +kernel
theorem dX2_otherThan_1 : decode cX2_otherThan 1 = .ok (.ifCond .ne 10, 3) := by decide +kernel
theorem dX2_otherThan_4 : decode cX2_otherThan 4 = .ok (.aload_n 0, 1) := by decide +kernel
theorem dX2_otherThan_5 : decode cX2_otherThan 5 = .ok (.getfield 16, 3) := by decide +kernel
theorem dX2_otherThan_8 : decode cX2_otherThan 8 = .ok (.goto 7, 3) := by decide +kernel
theorem dX2_otherThan_11 : decode cX2_otherThan 11 = .ok (.aload_n 0, 1) := by decide +kernel
theorem dX2_otherThan_12 : decode cX2_otherThan 12 = .ok (.getfield 12, 3) := by decide +kernel
theorem dX2_otherThan_15 : decode cX2_otherThan 15 = .ok (.areturn, 1) := by decide +kernel
theorem dX2_fillBoth_0 : decode cX2_fillBoth 0 = .ok (.aload_n 0, 1) := by decide +kernel
theorem dX2_fillBoth_1 : decode cX2_fillBoth 1 = .ok (.getfield 19, 3) := by decide +kernel
theorem dX2_fillBoth_4 : decode cX2_fillBoth 4 = .ok (.iconst 0, 1) := by decide +kernel
theorem dX2_fillBoth_5 : decode cX2_fillBoth 5 = .ok (.invokevirtual 89, 3) := by decide +kernel
theorem dX2_fillBoth_8 : decode cX2_fillBoth 8 = .ok (.aload_n 0, 1) := by decide +kernel
theorem dX2_fillBoth_9 : decode cX2_fillBoth 9 = .ok (.getfield 19, 3) := by decide +kernel
theorem dX2_fillBoth_12 : decode cX2_fillBoth 12 = .ok (.aload_n 0, 1) := by decide +kernel
theorem dX2_fillBoth_13 : decode cX2_fillBoth 13 = .ok (.getfield 12, 3) := by decide +kernel
theorem dX2_fillBoth_16 : decode cX2_fillBoth 16 = .ok (.invokevirtual 163, 3) := by decide +kernel
theorem dX2_fillBoth_19 : decode cX2_fillBoth 19 = .ok (.aload_n 0, 1) := by decide +kernel
theorem dX2_fillBoth_20 : decode cX2_fillBoth 20 = .ok (.getfield 19, 3) := by decide +kernel
theorem dX2_fillBoth_23 : decode cX2_fillBoth 23 = .ok (.aload_n 0, 1) := by decide +kernel
theorem dX2_fillBoth_24 : decode cX2_fillBoth 24 = .ok (.getfield 16, 3) := by decide +kernel
theorem dX2_fillBoth_27 : decode cX2_fillBoth 27 = .ok (.invokevirtual 163, 3) := by decide +kernel
theorem dX2_fillBoth_30 : decode cX2_fillBoth 30 = .ok (.return_, 1) := by decide +kernel
theorem dX2_countOf_0 : decode cX2_countOf 0 = .ok (.iload_n 2, 1) := by decide +kernel
theorem dX2_countOf_1 : decode cX2_countOf 1 = .ok (.tableswitch 74 0 5 #[39, 44, 49, 54, 59, 69], 39) := by decide +kernel
theorem dX2_countOf_40 : decode cX2_countOf 40 = .ok (.aload_n 0, 1) := by decide +kernel
theorem dX2_countOf_41 : decode cX2_countOf 41 = .ok (.invokevirtual 47, 3) := by decide +kernel
theorem dX2_countOf_44 : decode cX2_countOf 44 = .ok (.ireturn, 1) := by decide +kernel
theorem dX2_countOf_45 : decode cX2_countOf 45 = .ok (.aload_n 1, 1) := by decide +kernel
theorem dX2_countOf_46 : decode cX2_countOf 46 = .ok (.invokevirtual 166, 3) := by decide +kernel
theorem dX2_countOf_49 : decode cX2_countOf 49 = .ok (.ireturn, 1) := by decide +kernel
theorem dX2_countOf_50 : decode cX2_countOf 50 = .ok (.aload_n 1, 1) := by decide +kernel
theorem dX2_countOf_51 : decode cX2_countOf 51 = .ok (.invokevirtual 169, 3) := by decide +kernel
theorem dX2_countOf_54 : decode cX2_countOf 54 = .ok (.ireturn, 1) := by decide +kernel
theorem dX2_countOf_55 : decode cX2_countOf 55 = .ok (.aload_n 1, 1) := by decide +kernel
theorem dX2_countOf_56 : decode cX2_countOf 56 = .ok (.invokevirtual 148, 3) := by decide +kernel
theorem dX2_countOf_59 : decode cX2_countOf 59 = .ok (.ireturn, 1) := by decide +kernel
theorem dX2_countOf_60 : decode cX2_countOf 60 = .ok (.aload_n 0, 1) := by decide +kernel
theorem dX2_countOf_61 : decode cX2_countOf 61 = .ok (.iconst 0, 1) := by decide +kernel
theorem dX2_countOf_62 : decode cX2_countOf 62 = .ok (.aload_n 0, 1) := by decide +kernel
theorem dX2_countOf_63 : decode cX2_countOf 63 = .ok (.invokevirtual 47, 3) := by decide +kernel
theorem dX2_countOf_66 : decode cX2_countOf 66 = .ok (.invokevirtual 127, 3) := by decide +kernel
theorem dX2_countOf_69 : decode cX2_countOf 69 = .ok (.ireturn, 1) := by decide +kernel
theorem dX2_countOf_70 : decode cX2_countOf 70 = .ok (.aload_n 1, 1) := by decide +kernel
theorem dX2_countOf_71 : decode cX2_countOf 71 = .ok (.invokevirtual 172, 3) := by decide +kernel
theorem dX2_countOf_74 : decode cX2_countOf 74 = .ok (.ireturn, 1) := by decide +kernel
theorem dX2_countOf_75 : decode cX2_countOf 75 = .ok (.aload_n 0, 1) := by decide +kernel
theorem dX2_countOf_76 : decode cX2_countOf 76 = .ok (.iconst 0, 1) := by decide +kernel
theorem dX2_countOf_77 : decode cX2_countOf 77 = .ok (.aload_n 0, 1) := by decide +kernel
theorem dX2_countOf_78 : decode cX2_countOf 78 = .ok (.invokevirtual 47, 3) := by decide +kernel
theorem dX2_countOf_81 : decode cX2_countOf 81 = .ok (.invokevirtual 124, 3) := by decide +kernel
theorem dX2_countOf_84 : decode cX2_countOf 84 = .ok (.ireturn, 1) := by decide +kernel
theorem dX2_mergedMiles_0 : decode cX2_mergedMiles 0 = .ok (.iload_n 2, 1) := by decide +kernel
theorem dX2_mergedMiles_1 : decode cX2_mergedMiles 1 = .ok (.iconst (-1), 1) := by decide +kernel
theorem dX2_mergedMiles_2 : decode cX2_mergedMiles 2 = .ok (.if_icmp .ne 5, 3) := by decide +kernel
theorem dX2_mergedMiles_5 : decode cX2_mergedMiles 5 = .ok (.iload_n 1, 1) := by decide +kernel
theorem dX2_mergedMiles_6 : decode cX2_mergedMiles 6 = .ok (.ireturn, 1) := by decide +kernel
theorem dX2_mergedMiles_7 : decode cX2_mergedMiles 7 = .ok (.iload_n 0, 1) := by decide +kernel
theorem dX2_mergedMiles_8 : decode cX2_mergedMiles 8 = .ok (.tableswitch 42 0 2 #[28, 30, 32], 28) := by decide +kernel
theorem dX2_mergedMiles_36 : decode cX2_mergedMiles 36 = .ok (.iload_n 1, 1) := by decide +kernel
theorem dX2_mergedMiles_37 : decode cX2_mergedMiles 37 = .ok (.ireturn, 1) := by decide +kernel
theorem dX2_mergedMiles_38 : decode cX2_mergedMiles 38 = .ok (.iload_n 2, 1) := by decide +kernel
theorem dX2_mergedMiles_39 : decode cX2_mergedMiles 39 = .ok (.ireturn, 1) := by decide +kernel
theorem dX2_mergedMiles_40 : decode cX2_mergedMiles 40 = .ok (.iload_n 1, 1) := by decide +kernel
theorem dX2_mergedMiles_41 : decode cX2_mergedMiles 41 = .ok (.iload_n 2, 1) := by decide +kernel
theorem dX2_mergedMiles_42 : decode cX2_mergedMiles 42 = .ok (.iadd, 1) := by decide +kernel
theorem dX2_mergedMiles_43 : decode cX2_mergedMiles 43 = .ok (.sipush 999, 3) := by decide +kernel
theorem dX2_mergedMiles_46 : decode cX2_mergedMiles 46 = .ok (.invokestatic 175, 3) := by decide +kernel
theorem dX2_mergedMiles_49 : decode cX2_mergedMiles 49 = .ok (.ireturn, 1) := by decide +kernel
theorem dX2_mergedMiles_50 : decode cX2_mergedMiles 50 = .ok (.iload_n 1, 1) := by decide +kernel
theorem dX2_mergedMiles_51 : decode cX2_mergedMiles 51 = .ok (.iload_n 2, 1) := by decide +kernel
theorem dX2_mergedMiles_52 : decode cX2_mergedMiles 52 = .ok (.invokestatic 175, 3) := by decide +kernel
theorem dX2_mergedMiles_55 : decode cX2_mergedMiles 55 = .ok (.ireturn, 1) := by decide +kernel
theorem dX2_checkWood_0 : decode cX2_checkWood 0 = .ok (.iload_n 0, 1) := by decide +kernel
theorem dX2_checkWood_1 : decode cX2_checkWood 1 = .ok (.iconst 1, 1) := by decide +kernel
theorem dX2_checkWood_2 : decode cX2_checkWood 2 = .ok (.invokestatic 67, 3) := by decide +kernel
theorem dX2_checkWood_5 : decode cX2_checkWood 5 = .ok (.return_, 1) := by decide +kernel
theorem dX2_checkIndex_0 : decode cX2_checkIndex 0 = .ok (.iload_n 0, 1) := by decide +kernel
theorem dX2_checkIndex_1 : decode cX2_checkIndex 1 = .ok (.ifCond .lt 8, 3) := by decide +kernel
theorem dX2_checkIndex_4 : decode cX2_checkIndex 4 = .ok (.iload_n 0, 1) := by decide +kernel
theorem dX2_checkIndex_5 : decode cX2_checkIndex 5 = .ok (.iload_n 1, 1) := by decide +kernel
theorem dX2_checkIndex_6 : decode cX2_checkIndex 6 = .ok (.if_icmp .le 13, 3) := by decide +kernel
theorem dX2_checkIndex_9 : decode cX2_checkIndex 9 = .ok (.new 180, 3) := by decide +kernel
theorem dX2_checkIndex_12 : decode cX2_checkIndex 12 = .ok (.dup, 1) := by decide +kernel
theorem dX2_checkIndex_13 : decode cX2_checkIndex 13 = .ok (.ldc 182, 2) := by decide +kernel
theorem dX2_checkIndex_15 : decode cX2_checkIndex 15 = .ok (.invokespecial 184, 3) := by decide +kernel
theorem dX2_checkIndex_18 : decode cX2_checkIndex 18 = .ok (.athrow, 1) := by decide +kernel
theorem dX2_checkIndex_19 : decode cX2_checkIndex 19 = .ok (.return_, 1) := by decide +kernel
theorem dX2_checkName_0 : decode cX2_checkName 0 = .ok (.iload_n 0, 1) := by decide +kernel
theorem dX2_checkName_1 : decode cX2_checkName 1 = .ok (.ifCond .lt 9, 3) := by decide +kernel
theorem dX2_checkName_4 : decode cX2_checkName 4 = .ok (.iload_n 0, 1) := by decide +kernel
theorem dX2_checkName_5 : decode cX2_checkName 5 = .ok (.ldc 185, 2) := by decide +kernel
theorem dX2_checkName_7 : decode cX2_checkName 7 = .ok (.if_icmp .le 13, 3) := by decide +kernel
theorem dX2_checkName_10 : decode cX2_checkName 10 = .ok (.new 119, 3) := by decide +kernel
theorem dX2_checkName_13 : decode cX2_checkName 13 = .ok (.dup, 1) := by decide +kernel
theorem dX2_checkName_14 : decode cX2_checkName 14 = .ok (.ldc 186, 2) := by decide +kernel
theorem dX2_checkName_16 : decode cX2_checkName 16 = .ok (.invokespecial 123, 3) := by decide +kernel
theorem dX2_checkName_19 : decode cX2_checkName 19 = .ok (.athrow, 1) := by decide +kernel
theorem dX2_checkName_20 : decode cX2_checkName 20 = .ok (.return_, 1) := by decide +kernel
theorem dX2_checkMiles_0 : decode cX2_checkMiles 0 = .ok (.iload_n 0, 1) := by decide +kernel
theorem dX2_checkMiles_1 : decode cX2_checkMiles 1 = .ok (.ifCond .lt 10, 3) := by decide +kernel
theorem dX2_checkMiles_4 : decode cX2_checkMiles 4 = .ok (.iload_n 0, 1) := by decide +kernel
theorem dX2_checkMiles_5 : decode cX2_checkMiles 5 = .ok (.sipush 999, 3) := by decide +kernel
theorem dX2_checkMiles_8 : decode cX2_checkMiles 8 = .ok (.if_icmp .le 13, 3) := by decide +kernel
theorem dX2_checkMiles_11 : decode cX2_checkMiles 11 = .ok (.new 119, 3) := by decide +kernel
theorem dX2_checkMiles_14 : decode cX2_checkMiles 14 = .ok (.dup, 1) := by decide +kernel
theorem dX2_checkMiles_15 : decode cX2_checkMiles 15 = .ok (.ldc 188, 2) := by decide +kernel
theorem dX2_checkMiles_17 : decode cX2_checkMiles 17 = .ok (.invokespecial 123, 3) := by decide +kernel
theorem dX2_checkMiles_20 : decode cX2_checkMiles 20 = .ok (.athrow, 1) := by decide +kernel
theorem dX2_checkMiles_21 : decode cX2_checkMiles 21 = .ok (.return_, 1) := by decide +kernel
theorem dX2_checkNotEmpty_0 : decode cX2_checkNotEmpty 0 = .ok (.aload_n 0, 1) := by decide +kernel
theorem dX2_checkNotEmpty_1 : decode cX2_checkNotEmpty 1 = .ok (.invokevirtual 47, 3) := by decide +kernel
theorem dX2_checkNotEmpty_4 : decode cX2_checkNotEmpty 4 = .ok (.ifCond .ne 13, 3) := by decide +kernel
theorem dX2_checkNotEmpty_7 : decode cX2_checkNotEmpty 7 = .ok (.new 51, 3) := by decide +kernel
theorem dX2_checkNotEmpty_10 : decode cX2_checkNotEmpty 10 = .ok (.dup, 1) := by decide +kernel
theorem dX2_checkNotEmpty_11 : decode cX2_checkNotEmpty 11 = .ok (.ldc 190, 2) := by decide +kernel
theorem dX2_checkNotEmpty_13 : decode cX2_checkNotEmpty 13 = .ok (.invokespecial 55, 3) := by decide +kernel
theorem dX2_checkNotEmpty_16 : decode cX2_checkNotEmpty 16 = .ok (.athrow, 1) := by decide +kernel
theorem dX2_checkNotEmpty_17 : decode cX2_checkNotEmpty 17 = .ok (.return_, 1) := by decide +kernel
theorem dX2_hasBit_0 : decode cX2_hasBit 0 = .ok (.iload_n 0, 1) := by decide +kernel
theorem dX2_hasBit_1 : decode cX2_hasBit 1 = .ok (.iload_n 1, 1) := by decide +kernel
theorem dX2_hasBit_2 : decode cX2_hasBit 2 = .ok (.ishr, 1) := by decide +kernel
theorem dX2_hasBit_3 : decode cX2_hasBit 3 = .ok (.iconst 1, 1) := by decide +kernel
theorem dX2_hasBit_4 : decode cX2_hasBit 4 = .ok (.iand, 1) := by decide +kernel
theorem dX2_hasBit_5 : decode cX2_hasBit 5 = .ok (.iconst 1, 1) := by decide +kernel
theorem dX2_hasBit_6 : decode cX2_hasBit 6 = .ok (.if_icmp .ne 7, 3) := by decide +kernel
theorem dX2_hasBit_9 : decode cX2_hasBit 9 = .ok (.iconst 1, 1) := by decide +kernel
theorem dX2_hasBit_10 : decode cX2_hasBit 10 = .ok (.goto 4, 3) := by decide +kernel
theorem dX2_hasBit_13 : decode cX2_hasBit 13 = .ok (.iconst 0, 1) := by decide +kernel
theorem dX2_hasBit_14 : decode cX2_hasBit 14 = .ok (.ireturn, 1) := by decide +kernel
theorem dX2_firstUnlikeBit_0 : decode cX2_firstUnlikeBit 0 = .ok (.iload_n 0, 1) := by decide +kernel
theorem dX2_firstUnlikeBit_1 : decode cX2_firstUnlikeBit 1 = .ok (.iload_n 1, 1) := by decide +kernel
theorem dX2_firstUnlikeBit_2 : decode cX2_firstUnlikeBit 2 = .ok (.ixor, 1) := by decide +kernel
theorem dX2_firstUnlikeBit_3 : decode cX2_firstUnlikeBit 3 = .ok (.istore_n 2, 1) := by decide +kernel
theorem dX2_firstUnlikeBit_4 : decode cX2_firstUnlikeBit 4 = .ok (.iload_n 2, 1) := by decide +kernel
theorem dX2_firstUnlikeBit_5 : decode cX2_firstUnlikeBit 5 = .ok (.ifCond .ne 5, 3) := by decide +kernel
theorem dX2_firstUnlikeBit_8 : decode cX2_firstUnlikeBit 8 = .ok (.iconst (-1), 1) := by decide +kernel
theorem dX2_firstUnlikeBit_9 : decode cX2_firstUnlikeBit 9 = .ok (.ireturn, 1) := by decide +kernel
theorem dX2_firstUnlikeBit_10 : decode cX2_firstUnlikeBit 10 = .ok (.iconst 0, 1) := by decide +kernel
theorem dX2_firstUnlikeBit_11 : decode cX2_firstUnlikeBit 11 = .ok (.istore_n 3, 1) := by decide +kernel
theorem dX2_firstUnlikeBit_12 : decode cX2_firstUnlikeBit 12 = .ok (.bipush 8, 2) := by decide +kernel
theorem dX2_firstUnlikeBit_14 : decode cX2_firstUnlikeBit 14 = .ok (.istore 4, 2) := by decide +kernel
theorem dX2_firstUnlikeBit_16 : decode cX2_firstUnlikeBit 16 = .ok (.iload 4, 2) := by decide +kernel
theorem dX2_firstUnlikeBit_18 : decode cX2_firstUnlikeBit 18 = .ok (.ifCond .le 26, 3) := by decide +kernel
theorem dX2_firstUnlikeBit_21 : decode cX2_firstUnlikeBit 21 = .ok (.iload_n 2, 1) := by decide +kernel
theorem dX2_firstUnlikeBit_22 : decode cX2_firstUnlikeBit 22 = .ok (.iload_n 3, 1) := by decide +kernel
theorem dX2_firstUnlikeBit_23 : decode cX2_firstUnlikeBit 23 = .ok (.iload 4, 2) := by decide +kernel
theorem dX2_firstUnlikeBit_25 : decode cX2_firstUnlikeBit 25 = .ok (.iadd, 1) := by decide +kernel
theorem dX2_firstUnlikeBit_26 : decode cX2_firstUnlikeBit 26 = .ok (.ishr, 1) := by decide +kernel
theorem dX2_firstUnlikeBit_27 : decode cX2_firstUnlikeBit 27 = .ok (.ifCond .eq 8, 3) := by decide +kernel
theorem dX2_firstUnlikeBit_30 : decode cX2_firstUnlikeBit 30 = .ok (.iload_n 3, 1) := by decide +kernel
theorem dX2_firstUnlikeBit_31 : decode cX2_firstUnlikeBit 31 = .ok (.iload 4, 2) := by decide +kernel
theorem dX2_firstUnlikeBit_33 : decode cX2_firstUnlikeBit 33 = .ok (.iadd, 1) := by decide +kernel
theorem dX2_firstUnlikeBit_34 : decode cX2_firstUnlikeBit 34 = .ok (.istore_n 3, 1) := by decide +kernel
theorem dX2_firstUnlikeBit_35 : decode cX2_firstUnlikeBit 35 = .ok (.iload 4, 2) := by decide +kernel
theorem dX2_firstUnlikeBit_37 : decode cX2_firstUnlikeBit 37 = .ok (.iconst 1, 1) := by decide +kernel
theorem dX2_firstUnlikeBit_38 : decode cX2_firstUnlikeBit 38 = .ok (.ishr, 1) := by decide +kernel
theorem dX2_firstUnlikeBit_39 : decode cX2_firstUnlikeBit 39 = .ok (.istore 4, 2) := by decide +kernel
theorem dX2_firstUnlikeBit_41 : decode cX2_firstUnlikeBit 41 = .ok (.goto (-25), 3) := by decide +kernel
theorem dX2_firstUnlikeBit_44 : decode cX2_firstUnlikeBit 44 = .ok (.iload_n 3, 1) := by decide +kernel
theorem dX2_firstUnlikeBit_45 : decode cX2_firstUnlikeBit 45 = .ok (.ireturn, 1) := by decide +kernel
theorem dX2_read_0 : decode cX2_read 0 = .ok (.iload_n 1, 1) := by decide +kernel
theorem dX2_read_1 : decode cX2_read 1 = .ok (.ifCond .lt 15, 3) := by decide +kernel
theorem dX2_read_4 : decode cX2_read 4 = .ok (.iload_n 1, 1) := by decide +kernel
theorem dX2_read_5 : decode cX2_read 5 = .ok (.aload_n 0, 1) := by decide +kernel
theorem dX2_read_6 : decode cX2_read 6 = .ok (.arraylength, 1) := by decide +kernel
theorem dX2_read_7 : decode cX2_read 7 = .ok (.if_icmp .ge 9, 3) := by decide +kernel
theorem dX2_read_10 : decode cX2_read 10 = .ok (.aload_n 0, 1) := by decide +kernel
theorem dX2_read_11 : decode cX2_read 11 = .ok (.iload_n 1, 1) := by decide +kernel
theorem dX2_read_12 : decode cX2_read 12 = .ok (.iaload, 1) := by decide +kernel
theorem dX2_read_13 : decode cX2_read 13 = .ok (.goto 4, 3) := by decide +kernel
theorem dX2_read_16 : decode cX2_read 16 = .ok (.iconst (-1), 1) := by decide +kernel
theorem dX2_read_17 : decode cX2_read 17 = .ok (.ireturn, 1) := by decide +kernel
theorem dX2_write_0 : decode cX2_write 0 = .ok (.iload_n 1, 1) := by decide +kernel
theorem dX2_write_1 : decode cX2_write 1 = .ok (.ifCond .lt 13, 3) := by decide +kernel
theorem dX2_write_4 : decode cX2_write 4 = .ok (.iload_n 1, 1) := by decide +kernel
theorem dX2_write_5 : decode cX2_write 5 = .ok (.aload_n 0, 1) := by decide +kernel
theorem dX2_write_6 : decode cX2_write 6 = .ok (.arraylength, 1) := by decide +kernel
theorem dX2_write_7 : decode cX2_write 7 = .ok (.if_icmp .ge 7, 3) := by decide +kernel
theorem dX2_write_10 : decode cX2_write 10 = .ok (.aload_n 0, 1) := by decide +kernel
theorem dX2_write_11 : decode cX2_write 11 = .ok (.iload_n 1, 1) := by decide +kernel
theorem dX2_write_12 : decode cX2_write 12 = .ok (.iload_n 2, 1) := by decide +kernel
theorem dX2_write_13 : decode cX2_write 13 = .ok (.iastore, 1) := by decide +kernel
theorem dX2_write_14 : decode cX2_write 14 = .ok (.return_, 1) := by decide +kernel
theorem dJ6_numberOfLeadingZeros_0f7a4_0 : decode cJ6_numberOfLeadingZeros_0f7a4 0 = .ok (.iload_n 0, 1) := by decide +kernel
theorem dJ6_numberOfLeadingZeros_0f7a4_1 : decode cJ6_numberOfLeadingZeros_0f7a4 1 = .ok (.ifCond .gt 14, 3) := by decide +kernel
theorem dJ6_numberOfLeadingZeros_0f7a4_4 : decode cJ6_numberOfLeadingZeros_0f7a4 4 = .ok (.iload_n 0, 1) := by decide +kernel
theorem dJ6_numberOfLeadingZeros_0f7a4_5 : decode cJ6_numberOfLeadingZeros_0f7a4 5 = .ok (.ifCond .ne 8, 3) := by decide +kernel
theorem dJ6_numberOfLeadingZeros_0f7a4_8 : decode cJ6_numberOfLeadingZeros_0f7a4 8 = .ok (.bipush 32, 2) := by decide +kernel
theorem dJ6_numberOfLeadingZeros_0f7a4_10 : decode cJ6_numberOfLeadingZeros_0f7a4 10 = .ok (.goto 4, 3) := by decide +kernel
theorem dJ6_numberOfLeadingZeros_0f7a4_13 : decode cJ6_numberOfLeadingZeros_0f7a4 13 = .ok (.iconst 0, 1) := by decide +kernel
theorem dJ6_numberOfLeadingZeros_0f7a4_14 : decode cJ6_numberOfLeadingZeros_0f7a4 14 = .ok (.ireturn, 1) := by decide +kernel
theorem dJ6_numberOfLeadingZeros_0f7a4_15 : decode cJ6_numberOfLeadingZeros_0f7a4 15 = .ok (.bipush 31, 2) := by decide +kernel
theorem dJ6_numberOfLeadingZeros_0f7a4_17 : decode cJ6_numberOfLeadingZeros_0f7a4 17 = .ok (.istore_n 1, 1) := by decide +kernel
theorem dJ6_numberOfLeadingZeros_0f7a4_18 : decode cJ6_numberOfLeadingZeros_0f7a4 18 = .ok (.iload_n 0, 1) := by decide +kernel
theorem dJ6_numberOfLeadingZeros_0f7a4_19 : decode cJ6_numberOfLeadingZeros_0f7a4 19 = .ok (.ldc_w 264, 3) := by decide +kernel
theorem dJ6_numberOfLeadingZeros_0f7a4_22 : decode cJ6_numberOfLeadingZeros_0f7a4 22 = .ok (.if_icmp .lt 11, 3) := by decide +kernel
theorem dJ6_numberOfLeadingZeros_0f7a4_25 : decode cJ6_numberOfLeadingZeros_0f7a4 25 = .ok (.iinc 1 (-16), 3) := by decide +kernel
theorem dJ6_numberOfLeadingZeros_0f7a4_28 : decode cJ6_numberOfLeadingZeros_0f7a4 28 = .ok (.iload_n 0, 1) := by decide +kernel
theorem dJ6_numberOfLeadingZeros_0f7a4_29 : decode cJ6_numberOfLeadingZeros_0f7a4 29 = .ok (.bipush 16, 2) := by decide +kernel
theorem dJ6_numberOfLeadingZeros_0f7a4_31 : decode cJ6_numberOfLeadingZeros_0f7a4 31 = .ok (.iushr, 1) := by decide +kernel
theorem dJ6_numberOfLeadingZeros_0f7a4_32 : decode cJ6_numberOfLeadingZeros_0f7a4 32 = .ok (.istore_n 0, 1) := by decide +kernel
theorem dJ6_numberOfLeadingZeros_0f7a4_33 : decode cJ6_numberOfLeadingZeros_0f7a4 33 = .ok (.iload_n 0, 1) := by decide +kernel
theorem dJ6_numberOfLeadingZeros_0f7a4_34 : decode cJ6_numberOfLeadingZeros_0f7a4 34 = .ok (.sipush 256, 3) := by decide +kernel
theorem dJ6_numberOfLeadingZeros_0f7a4_37 : decode cJ6_numberOfLeadingZeros_0f7a4 37 = .ok (.if_icmp .lt 11, 3) := by decide +kernel
theorem dJ6_numberOfLeadingZeros_0f7a4_40 : decode cJ6_numberOfLeadingZeros_0f7a4 40 = .ok (.iinc 1 (-8), 3) := by decide +kernel
theorem dJ6_numberOfLeadingZeros_0f7a4_43 : decode cJ6_numberOfLeadingZeros_0f7a4 43 = .ok (.iload_n 0, 1) := by decide +kernel
theorem dJ6_numberOfLeadingZeros_0f7a4_44 : decode cJ6_numberOfLeadingZeros_0f7a4 44 = .ok (.bipush 8, 2) := by decide +kernel
theorem dJ6_numberOfLeadingZeros_0f7a4_46 : decode cJ6_numberOfLeadingZeros_0f7a4 46 = .ok (.iushr, 1) := by decide +kernel
theorem dJ6_numberOfLeadingZeros_0f7a4_47 : decode cJ6_numberOfLeadingZeros_0f7a4 47 = .ok (.istore_n 0, 1) := by decide +kernel
theorem dJ6_numberOfLeadingZeros_0f7a4_48 : decode cJ6_numberOfLeadingZeros_0f7a4 48 = .ok (.iload_n 0, 1) := by decide +kernel
theorem dJ6_numberOfLeadingZeros_0f7a4_49 : decode cJ6_numberOfLeadingZeros_0f7a4 49 = .ok (.bipush 16, 2) := by decide +kernel
theorem dJ6_numberOfLeadingZeros_0f7a4_51 : decode cJ6_numberOfLeadingZeros_0f7a4 51 = .ok (.if_icmp .lt 10, 3) := by decide +kernel
theorem dJ6_numberOfLeadingZeros_0f7a4_54 : decode cJ6_numberOfLeadingZeros_0f7a4 54 = .ok (.iinc 1 (-4), 3) := by decide +kernel
theorem dJ6_numberOfLeadingZeros_0f7a4_57 : decode cJ6_numberOfLeadingZeros_0f7a4 57 = .ok (.iload_n 0, 1) := by decide +kernel
theorem dJ6_numberOfLeadingZeros_0f7a4_58 : decode cJ6_numberOfLeadingZeros_0f7a4 58 = .ok (.iconst 4, 1) := by decide +kernel
theorem dJ6_numberOfLeadingZeros_0f7a4_59 : decode cJ6_numberOfLeadingZeros_0f7a4 59 = .ok (.iushr, 1) := by decide +kernel
theorem dJ6_numberOfLeadingZeros_0f7a4_60 : decode cJ6_numberOfLeadingZeros_0f7a4 60 = .ok (.istore_n 0, 1) := by decide +kernel
theorem dJ6_numberOfLeadingZeros_0f7a4_61 : decode cJ6_numberOfLeadingZeros_0f7a4 61 = .ok (.iload_n 0, 1) := by decide +kernel
theorem dJ6_numberOfLeadingZeros_0f7a4_62 : decode cJ6_numberOfLeadingZeros_0f7a4 62 = .ok (.iconst 4, 1) := by decide +kernel
theorem dJ6_numberOfLeadingZeros_0f7a4_63 : decode cJ6_numberOfLeadingZeros_0f7a4 63 = .ok (.if_icmp .lt 10, 3) := by decide +kernel
theorem dJ6_numberOfLeadingZeros_0f7a4_66 : decode cJ6_numberOfLeadingZeros_0f7a4 66 = .ok (.iinc 1 (-2), 3) := by decide +kernel
theorem dJ6_numberOfLeadingZeros_0f7a4_69 : decode cJ6_numberOfLeadingZeros_0f7a4 69 = .ok (.iload_n 0, 1) := by decide +kernel
theorem dJ6_numberOfLeadingZeros_0f7a4_70 : decode cJ6_numberOfLeadingZeros_0f7a4 70 = .ok (.iconst 2, 1) := by decide +kernel
theorem dJ6_numberOfLeadingZeros_0f7a4_71 : decode cJ6_numberOfLeadingZeros_0f7a4 71 = .ok (.iushr, 1) := by decide +kernel
theorem dJ6_numberOfLeadingZeros_0f7a4_72 : decode cJ6_numberOfLeadingZeros_0f7a4 72 = .ok (.istore_n 0, 1) := by decide +kernel
theorem dJ6_numberOfLeadingZeros_0f7a4_73 : decode cJ6_numberOfLeadingZeros_0f7a4 73 = .ok (.iload_n 1, 1) := by decide +kernel
theorem dJ6_numberOfLeadingZeros_0f7a4_74 : decode cJ6_numberOfLeadingZeros_0f7a4 74 = .ok (.iload_n 0, 1) := by decide +kernel
theorem dJ6_numberOfLeadingZeros_0f7a4_75 : decode cJ6_numberOfLeadingZeros_0f7a4 75 = .ok (.iconst 1, 1) := by decide +kernel
theorem dJ6_numberOfLeadingZeros_0f7a4_76 : decode cJ6_numberOfLeadingZeros_0f7a4 76 = .ok (.iushr, 1) := by decide +kernel
theorem dJ6_numberOfLeadingZeros_0f7a4_77 : decode cJ6_numberOfLeadingZeros_0f7a4 77 = .ok (.isub, 1) := by decide +kernel
theorem dJ6_numberOfLeadingZeros_0f7a4_78 : decode cJ6_numberOfLeadingZeros_0f7a4 78 = .ok (.ireturn, 1) := by decide +kernel
theorem dJ9_max_7cf53_0 : decode cJ9_max_7cf53 0 = .ok (.iload_n 0, 1) := by decide +kernel
theorem dJ9_max_7cf53_1 : decode cJ9_max_7cf53 1 = .ok (.iload_n 1, 1) := by decide +kernel
theorem dJ9_max_7cf53_2 : decode cJ9_max_7cf53 2 = .ok (.if_icmp .lt 7, 3) := by decide +kernel
theorem dJ9_max_7cf53_5 : decode cJ9_max_7cf53 5 = .ok (.iload_n 0, 1) := by decide +kernel
theorem dJ9_max_7cf53_6 : decode cJ9_max_7cf53 6 = .ok (.goto 4, 3) := by decide +kernel
theorem dJ9_max_7cf53_9 : decode cJ9_max_7cf53 9 = .ok (.iload_n 1, 1) := by decide +kernel
theorem dJ9_max_7cf53_10 : decode cJ9_max_7cf53 10 = .ok (.ireturn, 1) := by decide +kernel
theorem dJ9_min_7cf53_0 : decode cJ9_min_7cf53 0 = .ok (.iload_n 0, 1) := by decide +kernel
theorem dJ9_min_7cf53_1 : decode cJ9_min_7cf53 1 = .ok (.iload_n 1, 1) := by decide +kernel
theorem dJ9_min_7cf53_2 : decode cJ9_min_7cf53 2 = .ok (.if_icmp .gt 7, 3) := by decide +kernel
theorem dJ9_min_7cf53_5 : decode cJ9_min_7cf53 5 = .ok (.iload_n 0, 1) := by decide +kernel
theorem dJ9_min_7cf53_6 : decode cJ9_min_7cf53 6 = .ok (.goto 4, 3) := by decide +kernel
theorem dJ9_min_7cf53_9 : decode cJ9_min_7cf53 9 = .ok (.iload_n 1, 1) := by decide +kernel
theorem dJ9_min_7cf53_10 : decode cJ9_min_7cf53 10 = .ok (.ireturn, 1) := by decide +kernel
