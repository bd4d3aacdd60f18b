theorem dX0_init_0 : decode cX0_init 0 = .ok (.aload_n 0, 1) := by decide +kernel
theorem dX0_init_1 : decode cX0_init 1 = .ok (.invokespecial 3, 3) := by decide +kernel
theorem dX0_init_4 : decode cX0_init 4 = .ok (.aload_n 0, 1) := by decide +kernel
theorem dX0_init_5 : decode cX0_init 5 = .ok (.bipush 6, 2) := by decide +kernel
theorem dX0_init_7 : decode cX0_init 7 = .ok (.newarray .int, 2) := by decide +kernel
theorem dX0_init_9 : decode cX0_init 9 = .ok (.putfield 9, 3) := by decide +kernel
theorem dX0_init_12 : decode cX0_init 12 = .ok (.aload_n 0, 1) := by decide +kernel
theorem dX0_init_13 : decode cX0_init 13 = .ok (.bipush 6, 2) := by decide +kernel
theorem dX0_init_15 : decode cX0_init 15 = .ok (.newarray .int, 2) := by decide +kernel
theorem dX0_init_17 : decode cX0_init 17 = .ok (.putfield 15, 3) := by decide +kernel
theorem dX0_init_20 : decode cX0_init 20 = .ok (.aload_n 0, 1) := by decide +kernel
theorem dX0_init_21 : decode cX0_init 21 = .ok (.ldc 18, 2) := by decide +kernel
theorem dX0_init_23 : decode cX0_init 23 = .ok (.putfield 19, 3) := by decide +kernel
theorem dX0_init_26 : decode cX0_init 26 = .ok (.aload_n 0, 1) := by decide +kernel
theorem dX0_init_27 : decode cX0_init 27 = .ok (.iconst 1, 1) := by decide +kernel
theorem dX0_init_28 : decode cX0_init 28 = .ok (.putfield 23, 3) := by decide +kernel
theorem dX0_init_31 : decode cX0_init 31 = .ok (.return_, 1) := by decide +kernel
theorem dX0_soonest_0 : decode cX0_soonest 0 = .ok (.aload_n 0, 1) := by decide +kernel
theorem dX0_soonest_1 : decode cX0_soonest 1 = .ok (.ldc 18, 2) := by decide +kernel
theorem dX0_soonest_3 : decode cX0_soonest 3 = .ok (.putfield 19, 3) := by decide +kernel
theorem dX0_soonest_6 : decode cX0_soonest 6 = .ok (.aload_n 0, 1) := by decide +kernel
theorem dX0_soonest_7 : decode cX0_soonest 7 = .ok (.iload 4, 2) := by decide +kernel
theorem dX0_soonest_9 : decode cX0_soonest 9 = .ok (.putfield 23, 3) := by decide +kernel
theorem dX0_soonest_12 : decode cX0_soonest 12 = .ok (.aload_n 0, 1) := by decide +kernel
theorem dX0_soonest_13 : decode cX0_soonest 13 = .ok (.aload_n 1, 1) := by decide +kernel
theorem dX0_soonest_14 : decode cX0_soonest 14 = .ok (.aload_n 1, 1) := by decide +kernel
theorem dX0_soonest_15 : decode cX0_soonest 15 = .ok (.getfield 26, 3) := by decide +kernel
theorem dX0_soonest_18 : decode cX0_soonest 18 = .ok (.iload_n 2, 1) := by decide +kernel
theorem dX0_soonest_19 : decode cX0_soonest 19 = .ok (.iaload, 1) := by decide +kernel
theorem dX0_soonest_20 : decode cX0_soonest 20 = .ok (.iload_n 3, 1) := by decide +kernel
theorem dX0_soonest_21 : decode cX0_soonest 21 = .ok (.iconst 0, 1) := by decide +kernel
theorem dX0_soonest_22 : decode cX0_soonest 22 = .ok (.iconst 0, 1) := by decide +kernel
theorem dX0_soonest_23 : decode cX0_soonest 23 = .ok (.invokevirtual 31, 3) := by decide +kernel
theorem dX0_soonest_26 : decode cX0_soonest 26 = .ok (.aload_n 0, 1) := by decide +kernel
theorem dX0_soonest_27 : decode cX0_soonest 27 = .ok (.getfield 19, 3) := by decide +kernel
theorem dX0_soonest_30 : decode cX0_soonest 30 = .ok (.iload_n 3, 1) := by decide +kernel
theorem dX0_soonest_31 : decode cX0_soonest 31 = .ok (.isub, 1) := by decide +kernel
theorem dX0_soonest_32 : decode cX0_soonest 32 = .ok (.ireturn, 1) := by decide +kernel
theorem dX0_hearRest_0 : decode cX0_hearRest 0 = .ok (.iload 5, 2) := by decide +kernel
theorem dX0_hearRest_2 : decode cX0_hearRest 2 = .ok (.aload_n 1, 1) := by decide +kernel
theorem dX0_hearRest_3 : decode cX0_hearRest 3 = .ok (.getfield 35, 3) := by decide +kernel
theorem dX0_hearRest_6 : decode cX0_hearRest 6 = .ok (.if_icmp .lt 24, 3) := by decide +kernel
theorem dX0_hearRest_9 : decode cX0_hearRest 9 = .ok (.aload_n 0, 1) := by decide +kernel
theorem dX0_hearRest_10 : decode cX0_hearRest 10 = .ok (.iload_n 3, 1) := by decide +kernel
theorem dX0_hearRest_11 : decode cX0_hearRest 11 = .ok (.putfield 19, 3) := by decide +kernel
theorem dX0_hearRest_14 : decode cX0_hearRest 14 = .ok (.aload_n 0, 1) := by decide +kernel
theorem dX0_hearRest_15 : decode cX0_hearRest 15 = .ok (.getfield 9, 3) := by decide +kernel
theorem dX0_hearRest_18 : decode cX0_hearRest 18 = .ok (.iconst 0, 1) := by decide +kernel
theorem dX0_hearRest_19 : decode cX0_hearRest 19 = .ok (.aload_n 0, 1) := by decide +kernel
theorem dX0_hearRest_20 : decode cX0_hearRest 20 = .ok (.getfield 15, 3) := by decide +kernel
theorem dX0_hearRest_23 : decode cX0_hearRest 23 = .ok (.iconst 0, 1) := by decide +kernel
theorem dX0_hearRest_24 : decode cX0_hearRest 24 = .ok (.bipush 6, 2) := by decide +kernel
theorem dX0_hearRest_26 : decode cX0_hearRest 26 = .ok (.invokestatic 38, 3) := by decide +kernel
theorem dX0_hearRest_29 : decode cX0_hearRest 29 = .ok (.return_, 1) := by decide +kernel
theorem dX0_hearRest_30 : decode cX0_hearRest 30 = .ok (.iconst 0, 1) := by decide +kernel
theorem dX0_hearRest_31 : decode cX0_hearRest 31 = .ok (.istore 6, 2) := by decide +kernel
theorem dX0_hearRest_33 : decode cX0_hearRest 33 = .ok (.iload 6, 2) := by decide +kernel
theorem dX0_hearRest_35 : decode cX0_hearRest 35 = .ok (.aload_n 1, 1) := by decide +kernel
theorem dX0_hearRest_36 : decode cX0_hearRest 36 = .ok (.getfield 35, 3) := by decide +kernel
theorem dX0_hearRest_39 : decode cX0_hearRest 39 = .ok (.if_icmp .ge 53, 3) := by decide +kernel
theorem dX0_hearRest_42 : decode cX0_hearRest 42 = .ok (.iload 4, 2) := by decide +kernel
theorem dX0_hearRest_44 : decode cX0_hearRest 44 = .ok (.iload 6, 2) := by decide +kernel
theorem dX0_hearRest_46 : decode cX0_hearRest 46 = .ok (.invokestatic 44, 3) := by decide +kernel
theorem dX0_hearRest_49 : decode cX0_hearRest 49 = .ok (.ifCond .ne 37, 3) := by decide +kernel
theorem dX0_hearRest_52 : decode cX0_hearRest 52 = .ok (.iload_n 3, 1) := by decide +kernel
theorem dX0_hearRest_53 : decode cX0_hearRest 53 = .ok (.aload_n 1, 1) := by decide +kernel
theorem dX0_hearRest_54 : decode cX0_hearRest 54 = .ok (.getfield 26, 3) := by decide +kernel
theorem dX0_hearRest_57 : decode cX0_hearRest 57 = .ok (.iload 6, 2) := by decide +kernel
theorem dX0_hearRest_59 : decode cX0_hearRest 59 = .ok (.iaload, 1) := by decide +kernel
theorem dX0_hearRest_60 : decode cX0_hearRest 60 = .ok (.iload_n 2, 1) := by decide +kernel
theorem dX0_hearRest_61 : decode cX0_hearRest 61 = .ok (.isub, 1) := by decide +kernel
theorem dX0_hearRest_62 : decode cX0_hearRest 62 = .ok (.invokestatic 48, 3) := by decide +kernel
theorem dX0_hearRest_65 : decode cX0_hearRest 65 = .ok (.aload_n 0, 1) := by decide +kernel
theorem dX0_hearRest_66 : decode cX0_hearRest 66 = .ok (.getfield 23, 3) := by decide +kernel
theorem dX0_hearRest_69 : decode cX0_hearRest 69 = .ok (.imul, 1) := by decide +kernel
theorem dX0_hearRest_70 : decode cX0_hearRest 70 = .ok (.iadd, 1) := by decide +kernel
theorem dX0_hearRest_71 : decode cX0_hearRest 71 = .ok (.istore 7, 2) := by decide +kernel
theorem dX0_hearRest_73 : decode cX0_hearRest 73 = .ok (.aload_n 0, 1) := by decide +kernel
theorem dX0_hearRest_74 : decode cX0_hearRest 74 = .ok (.aload_n 1, 1) := by decide +kernel
theorem dX0_hearRest_75 : decode cX0_hearRest 75 = .ok (.iload 6, 2) := by decide +kernel
theorem dX0_hearRest_77 : decode cX0_hearRest 77 = .ok (.iload 7, 2) := by decide +kernel
theorem dX0_hearRest_79 : decode cX0_hearRest 79 = .ok (.iload 4, 2) := by decide +kernel
theorem dX0_hearRest_81 : decode cX0_hearRest 81 = .ok (.iload 5, 2) := by decide +kernel
theorem dX0_hearRest_83 : decode cX0_hearRest 83 = .ok (.invokevirtual 54, 3) := by decide +kernel
theorem dX0_hearRest_86 : decode cX0_hearRest 86 = .ok (.iinc 6 1, 3) := by decide +kernel
theorem dX0_hearRest_89 : decode cX0_hearRest 89 = .ok (.goto (-56), 3) := by decide +kernel
theorem dX0_hearRest_92 : decode cX0_hearRest 92 = .ok (.return_, 1) := by decide +kernel
theorem dX0_hearFirst_0 : decode cX0_hearFirst 0 = .ok (.iload_n 3, 1) := by decide +kernel
theorem dX0_hearFirst_1 : decode cX0_hearFirst 1 = .ok (.aload_n 1, 1) := by decide +kernel
theorem dX0_hearFirst_2 : decode cX0_hearFirst 2 = .ok (.getfield 57, 3) := by decide +kernel
theorem dX0_hearFirst_5 : decode cX0_hearFirst 5 = .ok (.iload_n 2, 1) := by decide +kernel
theorem dX0_hearFirst_6 : decode cX0_hearFirst 6 = .ok (.iaload, 1) := by decide +kernel
theorem dX0_hearFirst_7 : decode cX0_hearFirst 7 = .ok (.iload_n 3, 1) := by decide +kernel
theorem dX0_hearFirst_8 : decode cX0_hearFirst 8 = .ok (.isub, 1) := by decide +kernel
theorem dX0_hearFirst_9 : decode cX0_hearFirst 9 = .ok (.invokestatic 60, 3) := by decide +kernel
theorem dX0_hearFirst_12 : decode cX0_hearFirst 12 = .ok (.iadd, 1) := by decide +kernel
theorem dX0_hearFirst_13 : decode cX0_hearFirst 13 = .ok (.istore 6, 2) := by decide +kernel
theorem dX0_hearFirst_15 : decode cX0_hearFirst 15 = .ok (.iload 6, 2) := by decide +kernel
theorem dX0_hearFirst_17 : decode cX0_hearFirst 17 = .ok (.aload_n 0, 1) := by decide +kernel
theorem dX0_hearFirst_18 : decode cX0_hearFirst 18 = .ok (.getfield 19, 3) := by decide +kernel
theorem dX0_hearFirst_21 : decode cX0_hearFirst 21 = .ok (.if_icmp .ge 34, 3) := by decide +kernel
theorem dX0_hearFirst_24 : decode cX0_hearFirst 24 = .ok (.aload_n 0, 1) := by decide +kernel
theorem dX0_hearFirst_25 : decode cX0_hearFirst 25 = .ok (.getfield 9, 3) := by decide +kernel
theorem dX0_hearFirst_28 : decode cX0_hearFirst 28 = .ok (.iload 5, 2) := by decide +kernel
theorem dX0_hearFirst_30 : decode cX0_hearFirst 30 = .ok (.iload_n 2, 1) := by decide +kernel
theorem dX0_hearFirst_31 : decode cX0_hearFirst 31 = .ok (.iastore, 1) := by decide +kernel
theorem dX0_hearFirst_32 : decode cX0_hearFirst 32 = .ok (.aload_n 0, 1) := by decide +kernel
theorem dX0_hearFirst_33 : decode cX0_hearFirst 33 = .ok (.aload_n 1, 1) := by decide +kernel
theorem dX0_hearFirst_34 : decode cX0_hearFirst 34 = .ok (.aload_n 1, 1) := by decide +kernel
theorem dX0_hearFirst_35 : decode cX0_hearFirst 35 = .ok (.getfield 26, 3) := by decide +kernel
theorem dX0_hearFirst_38 : decode cX0_hearFirst 38 = .ok (.iload_n 2, 1) := by decide +kernel
theorem dX0_hearFirst_39 : decode cX0_hearFirst 39 = .ok (.iaload, 1) := by decide +kernel
theorem dX0_hearFirst_40 : decode cX0_hearFirst 40 = .ok (.iload 6, 2) := by decide +kernel
theorem dX0_hearFirst_42 : decode cX0_hearFirst 42 = .ok (.iload 4, 2) := by decide +kernel
theorem dX0_hearFirst_44 : decode cX0_hearFirst 44 = .ok (.iconst 1, 1) := by decide +kernel
theorem dX0_hearFirst_45 : decode cX0_hearFirst 45 = .ok (.iload_n 2, 1) := by decide +kernel
theorem dX0_hearFirst_46 : decode cX0_hearFirst 46 = .ok (.ishl, 1) := by decide +kernel
theorem dX0_hearFirst_47 : decode cX0_hearFirst 47 = .ok (.ior, 1) := by decide +kernel
theorem dX0_hearFirst_48 : decode cX0_hearFirst 48 = .ok (.iload 5, 2) := by decide +kernel
theorem dX0_hearFirst_50 : decode cX0_hearFirst 50 = .ok (.iconst 1, 1) := by decide +kernel
theorem dX0_hearFirst_51 : decode cX0_hearFirst 51 = .ok (.iadd, 1) := by decide +kernel
theorem dX0_hearFirst_52 : decode cX0_hearFirst 52 = .ok (.invokevirtual 31, 3) := by decide +kernel
theorem dX0_hearFirst_55 : decode cX0_hearFirst 55 = .ok (.return_, 1) := by decide +kernel
theorem dX1_init_0 : decode cX1_init 0 = .ok (.aload_n 0, 1) := by decide +kernel
theorem dX1_init_1 : decode cX1_init 1 = .ok (.invokespecial 3, 3) := by decide +kernel
theorem dX1_init_4 : decode cX1_init 4 = .ok (.aload_n 0, 1) := by decide +kernel
theorem dX1_init_5 : decode cX1_init 5 = .ok (.bipush 8, 2) := by decide +kernel
theorem dX1_init_7 : decode cX1_init 7 = .ok (.anewarray 9, 3) := by decide +kernel
theorem dX1_init_10 : decode cX1_init 10 = .ok (.dup, 1) := by decide +kernel
theorem dX1_init_11 : decode cX1_init 11 = .ok (.iconst 0, 1) := by decide +kernel
theorem dX1_init_12 : decode cX1_init 12 = .ok (.new 9, 3) := by decide +kernel
theorem dX1_init_15 : decode cX1_init 15 = .ok (.dup, 1) := by decide +kernel
theorem dX1_init_16 : decode cX1_init 16 = .ok (.invokespecial 11, 3) := by decide +kernel
theorem dX1_init_19 : decode cX1_init 19 = .ok (.aastore, 1) := by decide +kernel
theorem dX1_init_20 : decode cX1_init 20 = .ok (.dup, 1) := by decide +kernel
theorem dX1_init_21 : decode cX1_init 21 = .ok (.iconst 1, 1) := by decide +kernel
theorem dX1_init_22 : decode cX1_init 22 = .ok (.new 9, 3) := by decide +kernel
theorem dX1_init_25 : decode cX1_init 25 = .ok (.dup, 1) := by decide +kernel
theorem dX1_init_26 : decode cX1_init 26 = .ok (.invokespecial 11, 3) := by decide +kernel
theorem dX1_init_29 : decode cX1_init 29 = .ok (.aastore, 1) := by decide +kernel
theorem dX1_init_30 : decode cX1_init 30 = .ok (.dup, 1) := by decide +kernel
theorem dX1_init_31 : decode cX1_init 31 = .ok (.iconst 2, 1) := by decide +kernel
theorem dX1_init_32 : decode cX1_init 32 = .ok (.new 9, 3) := by decide +kernel
theorem dX1_init_35 : decode cX1_init 35 = .ok (.dup, 1) := by decide +kernel
theorem dX1_init_36 : decode cX1_init 36 = .ok (.invokespecial 11, 3) := by decide +kernel
theorem dX1_init_39 : decode cX1_init 39 = .ok (.aastore, 1) := by decide +kernel
theorem dX1_init_40 : decode cX1_init 40 = .ok (.dup, 1) := by decide +kernel
theorem dX1_init_41 : decode cX1_init 41 = .ok (.iconst 3, 1) := by decide +kernel
theorem dX1_init_42 : decode cX1_init 42 = .ok (.new 9, 3) := by decide +kernel
theorem dX1_init_45 : decode cX1_init 45 = .ok (.dup, 1) := by decide +kernel
theorem dX1_init_46 : decode cX1_init 46 = .ok (.invokespecial 11, 3) := by decide +kernel
theorem dX1_init_49 : decode cX1_init 49 = .ok (.aastore, 1) := by decide +kernel
theorem dX1_init_50 : decode cX1_init 50 = .ok (.dup, 1) := by decide +kernel
theorem dX1_init_51 : decode cX1_init 51 = .ok (.iconst 4, 1) := by decide +kernel
theorem dX1_init_52 : decode cX1_init 52 = .ok (.new 9, 3) := by decide +kernel
theorem dX1_init_55 : decode cX1_init 55 = .ok (.dup, 1) := by decide +kernel
theorem dX1_init_56 : decode cX1_init 56 = .ok (.invokespecial 11, 3) := by decide +kernel
theorem dX1_init_59 : decode cX1_init 59 = .ok (.aastore, 1) := by decide +kernel
theorem dX1_init_60 : decode cX1_init 60 = .ok (.dup, 1) := by decide +kernel
theorem dX1_init_61 : decode cX1_init 61 = .ok (.iconst 5, 1) := by decide +kernel
theorem dX1_init_62 : decode cX1_init 62 = .ok (.new 9, 3) := by decide +kernel
theorem dX1_init_65 : decode cX1_init 65 = .ok (.dup, 1) := by decide +kernel
theorem dX1_init_66 : decode cX1_init 66 = .ok (.invokespecial 11, 3) := by decide +kernel
theorem dX1_init_69 : decode cX1_init 69 = .ok (.aastore, 1) := by decide +kernel
theorem dX1_init_70 : decode cX1_init 70 = .ok (.dup, 1) := by decide +kernel
theorem dX1_init_71 : decode cX1_init 71 = .ok (.bipush 6, 2) := by decide +kernel
theorem dX1_init_73 : decode cX1_init 73 = .ok (.new 9, 3) := by decide +kernel
theorem dX1_init_76 : decode cX1_init 76 = .ok (.dup, 1) := by decide +kernel
theorem dX1_init_77 : decode cX1_init 77 = .ok (.invokespecial 11, 3) := by decide +kernel
theorem dX1_init_80 : decode cX1_init 80 = .ok (.aastore, 1) := by decide +kernel
theorem dX1_init_81 : decode cX1_init 81 = .ok (.dup, 1) := by decide +kernel
theorem dX1_init_82 : decode cX1_init 82 = .ok (.bipush 7, 2) := by decide +kernel
theorem dX1_init_84 : decode cX1_init 84 = .ok (.new 9, 3) := by decide +kernel
theorem dX1_init_87 : decode cX1_init 87 = .ok (.dup, 1) := by decide +kernel
theorem dX1_init_88 : decode cX1_init 88 = .ok (.invokespecial 11, 3) := by decide +kernel
theorem dX1_init_91 : decode cX1_init 91 = .ok (.aastore, 1) := by decide +kernel
theorem dX1_init_92 : decode cX1_init 92 = .ok (.putfield 12, 3) := by decide +kernel
theorem dX1_init_95 : decode cX1_init 95 = .ok (.aload_n 0, 1) := by decide +kernel
theorem dX1_init_96 : decode cX1_init 96 = .ok (.iconst 0, 1) := by decide +kernel
theorem dX1_init_97 : decode cX1_init 97 = .ok (.putfield 18, 3) := by decide +kernel
theorem dX1_init_100 : decode cX1_init 100 = .ok (.aload_n 0, 1) := by decide +kernel
theorem dX1_init_101 : decode cX1_init 101 = .ok (.iconst 0, 1) := by decide +kernel
theorem dX1_init_102 : decode cX1_init 102 = .ok (.putfield 22, 3) := by decide +kernel
theorem dX1_init_105 : decode cX1_init 105 = .ok (.return_, 1) := by decide +kernel
theorem dX1_forget_0 : decode cX1_forget 0 = .ok (.aload_n 0, 1) := by decide +kernel
theorem dX1_forget_1 : decode cX1_forget 1 = .ok (.iconst 0, 1) := by decide +kernel
theorem dX1_forget_2 : decode cX1_forget 2 = .ok (.putfield 22, 3) := by decide +kernel
theorem dX1_forget_5 : decode cX1_forget 5 = .ok (.return_, 1) := by decide +kernel
theorem dX1_remember_0 : decode cX1_remember 0 = .ok (.aload_n 0, 1) := by decide +kernel
theorem dX1_remember_1 : decode cX1_remember 1 = .ok (.getfield 12, 3) := by decide +kernel
theorem dX1_remember_4 : decode cX1_remember 4 = .ok (.aload_n 0, 1) := by decide +kernel
theorem dX1_remember_5 : decode cX1_remember 5 = .ok (.getfield 18, 3) := by decide +kernel
theorem dX1_remember_8 : decode cX1_remember 8 = .ok (.aaload, 1) := by decide +kernel
theorem dX1_remember_9 : decode cX1_remember 9 = .ok (.aload_n 1, 1) := by decide +kernel
theorem dX1_remember_10 : decode cX1_remember 10 = .ok (.invokevirtual 25, 3) := by decide +kernel
theorem dX1_remember_13 : decode cX1_remember 13 = .ok (.aload_n 0, 1) := by decide +kernel
theorem dX1_remember_14 : decode cX1_remember 14 = .ok (.aload_n 0, 1) := by decide +kernel
theorem dX1_remember_15 : decode cX1_remember 15 = .ok (.getfield 18, 3) := by decide +kernel
theorem dX1_remember_18 : decode cX1_remember 18 = .ok (.iconst 1, 1) := by decide +kernel
theorem dX1_remember_19 : decode cX1_remember 19 = .ok (.iadd, 1) := by decide +kernel
theorem dX1_remember_20 : decode cX1_remember 20 = .ok (.bipush 8, 2) := by decide +kernel
theorem dX1_remember_22 : decode cX1_remember 22 = .ok (.irem, 1) := by decide +kernel
theorem dX1_remember_23 : decode cX1_remember 23 = .ok (.putfield 18, 3) := by decide +kernel
theorem dX1_remember_26 : decode cX1_remember 26 = .ok (.aload_n 0, 1) := by decide +kernel
theorem dX1_remember_27 : decode cX1_remember 27 = .ok (.aload_n 0, 1) := by decide +kernel
theorem dX1_remember_28 : decode cX1_remember 28 = .ok (.getfield 22, 3) := by decide +kernel
theorem dX1_remember_31 : decode cX1_remember 31 = .ok (.iconst 1, 1) := by decide +kernel
theorem dX1_remember_32 : decode cX1_remember 32 = .ok (.iadd, 1) := by decide +kernel
theorem dX1_remember_33 : decode cX1_remember 33 = .ok (.bipush 8, 2) := by decide +kernel
theorem dX1_remember_35 : decode cX1_remember 35 = .ok (.invokestatic 29, 3) := by decide +kernel
theorem dX1_remember_38 : decode cX1_remember 38 = .ok (.putfield 22, 3) := by decide +kernel
theorem dX1_remember_41 : decode cX1_remember 41 = .ok (.return_, 1) := by decide +kernel
theorem dX1_takeBack_0 : decode cX1_takeBack 0 = .ok (.aload_n 0, 1) := by decide +kernel
theorem dX1_takeBack_1 : decode cX1_takeBack 1 = .ok (.getfield 22, 3) := by decide +kernel
theorem dX1_takeBack_4 : decode cX1_takeBack 4 = .ok (.ifCond .ne 5, 3) := by decide +kernel
theorem dX1_takeBack_7 : decode cX1_takeBack 7 = .ok (.iconst 0, 1) := by decide +kernel
theorem dX1_takeBack_8 : decode cX1_takeBack 8 = .ok (.ireturn, 1) := by decide +kernel
theorem dX1_takeBack_9 : decode cX1_takeBack 9 = .ok (.aload_n 0, 1) := by decide +kernel
theorem dX1_takeBack_10 : decode cX1_takeBack 10 = .ok (.aload_n 0, 1) := by decide +kernel
theorem dX1_takeBack_11 : decode cX1_takeBack 11 = .ok (.getfield 18, 3) := by decide +kernel
theorem dX1_takeBack_14 : decode cX1_takeBack 14 = .ok (.bipush 8, 2) := by decide +kernel
theorem dX1_takeBack_16 : decode cX1_takeBack 16 = .ok (.iadd, 1) := by decide +kernel
theorem dX1_takeBack_17 : decode cX1_takeBack 17 = .ok (.iconst 1, 1) := by decide +kernel
theorem dX1_takeBack_18 : decode cX1_takeBack 18 = .ok (.isub, 1) := by decide +kernel
theorem dX1_takeBack_19 : decode cX1_takeBack 19 = .ok (.bipush 8, 2) := by decide +kernel
theorem dX1_takeBack_21 : decode cX1_takeBack 21 = .ok (.irem, 1) := by decide +kernel
theorem dX1_takeBack_22 : decode cX1_takeBack 22 = .ok (.putfield 18, 3) := by decide +kernel
theorem dX1_takeBack_25 : decode cX1_takeBack 25 = .ok (.aload_n 0, 1) := by decide +kernel
theorem dX1_takeBack_26 : decode cX1_takeBack 26 = .ok (.dup, 1) := by decide +kernel
theorem dX1_takeBack_27 : decode cX1_takeBack 27 = .ok (.getfield 22, 3) := by decide +kernel
theorem dX1_takeBack_30 : decode cX1_takeBack 30 = .ok (.iconst 1, 1) := by decide +kernel
theorem dX1_takeBack_31 : decode cX1_takeBack 31 = .ok (.isub, 1) := by decide +kernel
theorem dX1_takeBack_32 : decode cX1_takeBack 32 = .ok (.putfield 22, 3) := by decide +kernel
theorem dX1_takeBack_35 : decode cX1_takeBack 35 = .ok (.aload_n 1, 1) := by decide +kernel
theorem dX1_takeBack_36 : decode cX1_takeBack 36 = .ok (.aload_n 0, 1) := by decide +kernel
theorem dX1_takeBack_37 : decode cX1_takeBack 37 = .ok (.getfield 12, 3) := by decide +kernel
theorem dX1_takeBack_40 : decode cX1_takeBack 40 = .ok (.aload_n 0, 1) := by decide +kernel
theorem dX1_takeBack_41 : decode cX1_takeBack 41 = .ok (.getfield 18, 3) := by decide +kernel
theorem dX1_takeBack_44 : decode cX1_takeBack 44 = .ok (.aaload, 1) := by decide +kernel
theorem dX1_takeBack_45 : decode cX1_takeBack 45 = .ok (.invokevirtual 25, 3) := by decide +kernel
theorem dX1_takeBack_48 : decode cX1_takeBack 48 = .ok (.iconst 1, 1) := by decide +kernel
theorem dX1_takeBack_49 : decode cX1_takeBack 49 = .ok (.ireturn, 1) := by decide +kernel
theorem dX1_becomeLike_0 : decode cX1_becomeLike 0 = .ok (.iconst 0, 1) := by decide +kernel
theorem dX1_becomeLike_1 : decode cX1_becomeLike 1 = .ok (.istore_n 2, 1) := by decide +kernel
theorem dX1_becomeLike_2 : decode cX1_becomeLike 2 = .ok (.iload_n 2, 1) := by decide +kernel
theorem dX1_becomeLike_3 : decode cX1_becomeLike 3 = .ok (.bipush 8, 2) := by decide +kernel
theorem dX1_becomeLike_5 : decode cX1_becomeLike 5 = .ok (.if_icmp .ge 24, 3) := by decide +kernel
theorem dX1_becomeLike_8 : decode cX1_becomeLike 8 = .ok (.aload_n 0, 1) := by decide +kernel
theorem dX1_becomeLike_9 : decode cX1_becomeLike 9 = .ok (.getfield 12, 3) := by decide +kernel
theorem dX1_becomeLike_12 : decode cX1_becomeLike 12 = .ok (.iload_n 2, 1) := by decide +kernel
theorem dX1_becomeLike_13 : decode cX1_becomeLike 13 = .ok (.aaload, 1) := by decide +kernel
theorem dX1_becomeLike_14 : decode cX1_becomeLike 14 = .ok (.aload_n 1, 1) := by decide +kernel
theorem dX1_becomeLike_15 : decode cX1_becomeLike 15 = .ok (.getfield 12, 3) := by decide +kernel
theorem dX1_becomeLike_18 : decode cX1_becomeLike 18 = .ok (.iload_n 2, 1) := by decide +kernel
theorem dX1_becomeLike_19 : decode cX1_becomeLike 19 = .ok (.aaload, 1) := by decide +kernel
theorem dX1_becomeLike_20 : decode cX1_becomeLike 20 = .ok (.invokevirtual 25, 3) := by decide +kernel
theorem dX1_becomeLike_23 : decode cX1_becomeLike 23 = .ok (.iinc 2 1, 3) := by decide +kernel
theorem dX1_becomeLike_26 : decode cX1_becomeLike 26 = .ok (.goto (-24), 3) := by decide +kernel
theorem dX1_becomeLike_29 : decode cX1_becomeLike 29 = .ok (.aload_n 0, 1) := by decide +kernel
theorem dX1_becomeLike_30 : decode cX1_becomeLike 30 = .ok (.aload_n 1, 1) := by decide +kernel
theorem dX1_becomeLike_31 : decode cX1_becomeLike 31 = .ok (.getfield 18, 3) := by decide +kernel
theorem dX1_becomeLike_34 : decode cX1_becomeLike 34 = .ok (.putfield 18, 3) := by decide +kernel
theorem dX1_becomeLike_37 : decode cX1_becomeLike 37 = .ok (.aload_n 0, 1) := by decide +kernel
theorem dX1_becomeLike_38 : decode cX1_becomeLike 38 = .ok (.aload_n 1, 1) := by decide +kernel
theorem dX1_becomeLike_39 : decode cX1_becomeLike 39 = .ok (.getfield 22, 3) := by decide +kernel
theorem dX1_becomeLike_42 : decode cX1_becomeLike 42 = .ok (.putfield 22, 3) := by decide +kernel
theorem dX1_becomeLike_45 : decode cX1_becomeLike 45 = .ok (.return_, 1) := by decide +kernel
theorem dX2_init_0 : decode cX2_init 0 = .ok (.aload_n 0, 1) := by decide +kernel
theorem dX2_init_1 : decode cX2_init 1 = .ok (.invokespecial 3, 3) := by decide +kernel
theorem dX2_init_4 : decode cX2_init 4 = .ok (.aload_n 0, 1) := by decide +kernel
theorem dX2_init_5 : decode cX2_init 5 = .ok (.bipush 6, 2) := by decide +kernel
theorem dX2_init_7 : decode cX2_init 7 = .ok (.newarray .int, 2) := by decide +kernel
theorem dX2_init_9 : decode cX2_init 9 = .ok (.putfield 9, 3) := by decide +kernel
theorem dX2_init_12 : decode cX2_init 12 = .ok (.aload_n 0, 1) := by decide +kernel
theorem dX2_init_13 : decode cX2_init 13 = .ok (.bipush 6, 2) := by decide +kernel
theorem dX2_init_15 : decode cX2_init 15 = .ok (.newarray .int, 2) := by decide +kernel
theorem dX2_init_17 : decode cX2_init 17 = .ok (.putfield 15, 3) := by decide +kernel
theorem dX2_init_20 : decode cX2_init 20 = .ok (.aload_n 0, 1) := by decide +kernel
theorem dX2_init_21 : decode cX2_init 21 = .ok (.bipush 13, 2) := by decide +kernel
theorem dX2_init_23 : decode cX2_init 23 = .ok (.putfield 18, 3) := by decide +kernel
theorem dX2_init_26 : decode cX2_init 26 = .ok (.return_, 1) := by decide +kernel
theorem dX2_leastTotal_0 : decode cX2_leastTotal 0 = .ok (.aload_n 0, 1) := by decide +kernel
theorem dX2_leastTotal_1 : decode cX2_leastTotal 1 = .ok (.bipush 13, 2) := by decide +kernel
theorem dX2_leastTotal_3 : decode cX2_leastTotal 3 = .ok (.putfield 18, 3) := by decide +kernel
theorem dX2_leastTotal_6 : decode cX2_leastTotal 6 = .ok (.aload_n 0, 1) := by decide +kernel
theorem dX2_leastTotal_7 : decode cX2_leastTotal 7 = .ok (.aload_n 1, 1) := by decide +kernel
theorem dX2_leastTotal_8 : decode cX2_leastTotal 8 = .ok (.iload_n 2, 1) := by decide +kernel
theorem dX2_leastTotal_9 : decode cX2_leastTotal 9 = .ok (.iconst 0, 1) := by decide +kernel
theorem dX2_leastTotal_10 : decode cX2_leastTotal 10 = .ok (.ldc2_w 22, 3) := by decide +kernel
theorem dX2_leastTotal_13 : decode cX2_leastTotal 13 = .ok (.iconst 0, 1) := by decide +kernel
theorem dX2_leastTotal_14 : decode cX2_leastTotal 14 = .ok (.invokevirtual 24, 3) := by decide +kernel
theorem dX2_leastTotal_17 : decode cX2_leastTotal 17 = .ok (.aload_n 0, 1) := by decide +kernel
theorem dX2_leastTotal_18 : decode cX2_leastTotal 18 = .ok (.getfield 18, 3) := by decide +kernel
theorem dX2_leastTotal_21 : decode cX2_leastTotal 21 = .ok (.bipush 13, 2) := by decide +kernel
theorem dX2_leastTotal_23 : decode cX2_leastTotal 23 = .ok (.if_icmp .ne 8, 3) := by decide +kernel
theorem dX2_leastTotal_26 : decode cX2_leastTotal 26 = .ok (.bipush (-4), 2) := by decide +kernel
theorem dX2_leastTotal_28 : decode cX2_leastTotal 28 = .ok (.goto 7, 3) := by decide +kernel
theorem dX2_leastTotal_31 : decode cX2_leastTotal 31 = .ok (.aload_n 0, 1) := by decide +kernel
theorem dX2_leastTotal_32 : decode cX2_leastTotal 32 = .ok (.getfield 18, 3) := by decide +kernel
theorem dX2_leastTotal_35 : decode cX2_leastTotal 35 = .ok (.ireturn, 1) := by decide +kernel
theorem dX2_settleRest_0 : decode cX2_settleRest 0 = .ok (.iload_n 3, 1) := by decide +kernel
theorem dX2_settleRest_1 : decode cX2_settleRest 1 = .ok (.aload_n 1, 1) := by decide +kernel
theorem dX2_settleRest_2 : decode cX2_settleRest 2 = .ok (.getfield 28, 3) := by decide +kernel
theorem dX2_settleRest_5 : decode cX2_settleRest 5 = .ok (.if_icmp .lt 25, 3) := by decide +kernel
theorem dX2_settleRest_8 : decode cX2_settleRest 8 = .ok (.aload_n 0, 1) := by decide +kernel
theorem dX2_settleRest_9 : decode cX2_settleRest 9 = .ok (.iload 6, 2) := by decide +kernel
theorem dX2_settleRest_11 : decode cX2_settleRest 11 = .ok (.putfield 18, 3) := by decide +kernel
theorem dX2_settleRest_14 : decode cX2_settleRest 14 = .ok (.aload_n 0, 1) := by decide +kernel
theorem dX2_settleRest_15 : decode cX2_settleRest 15 = .ok (.getfield 9, 3) := by decide +kernel
theorem dX2_settleRest_18 : decode cX2_settleRest 18 = .ok (.iconst 0, 1) := by decide +kernel
theorem dX2_settleRest_19 : decode cX2_settleRest 19 = .ok (.aload_n 0, 1) := by decide +kernel
theorem dX2_settleRest_20 : decode cX2_settleRest 20 = .ok (.getfield 15, 3) := by decide +kernel
theorem dX2_settleRest_23 : decode cX2_settleRest 23 = .ok (.iconst 0, 1) := by decide +kernel
theorem dX2_settleRest_24 : decode cX2_settleRest 24 = .ok (.bipush 6, 2) := by decide +kernel
theorem dX2_settleRest_26 : decode cX2_settleRest 26 = .ok (.invokestatic 33, 3) := by decide +kernel
theorem dX2_settleRest_29 : decode cX2_settleRest 29 = .ok (.return_, 1) := by decide +kernel
theorem dX2_settleRest_30 : decode cX2_settleRest 30 = .ok (.bipush (-2), 2) := by decide +kernel
theorem dX2_settleRest_32 : decode cX2_settleRest 32 = .ok (.istore 7, 2) := by decide +kernel
theorem dX2_settleRest_34 : decode cX2_settleRest 34 = .ok (.iload 7, 2) := by decide +kernel
theorem dX2_settleRest_36 : decode cX2_settleRest 36 = .ok (.iconst 2, 1) := by decide +kernel
theorem dX2_settleRest_37 : decode cX2_settleRest 37 = .ok (.if_icmp .gt 41, 3) := by decide +kernel
theorem dX2_settleRest_40 : decode cX2_settleRest 40 = .ok (.iload 6, 2) := by decide +kernel
theorem dX2_settleRest_42 : decode cX2_settleRest 42 = .ok (.iload 7, 2) := by decide +kernel
theorem dX2_settleRest_44 : decode cX2_settleRest 44 = .ok (.invokestatic 39, 3) := by decide +kernel
theorem dX2_settleRest_47 : decode cX2_settleRest 47 = .ok (.iadd, 1) := by decide +kernel
theorem dX2_settleRest_48 : decode cX2_settleRest 48 = .ok (.istore 8, 2) := by decide +kernel
theorem dX2_settleRest_50 : decode cX2_settleRest 50 = .ok (.iload 8, 2) := by decide +kernel
theorem dX2_settleRest_52 : decode cX2_settleRest 52 = .ok (.aload_n 0, 1) := by decide +kernel
theorem dX2_settleRest_53 : decode cX2_settleRest 53 = .ok (.getfield 18, 3) := by decide +kernel
theorem dX2_settleRest_56 : decode cX2_settleRest 56 = .ok (.if_icmp .ge 16, 3) := by decide +kernel
theorem dX2_settleRest_59 : decode cX2_settleRest 59 = .ok (.aload_n 0, 1) := by decide +kernel
theorem dX2_settleRest_60 : decode cX2_settleRest 60 = .ok (.aload_n 1, 1) := by decide +kernel
theorem dX2_settleRest_61 : decode cX2_settleRest 61 = .ok (.iload_n 2, 1) := by decide +kernel
theorem dX2_settleRest_62 : decode cX2_settleRest 62 = .ok (.iload_n 3, 1) := by decide +kernel
theorem dX2_settleRest_63 : decode cX2_settleRest 63 = .ok (.iload 7, 2) := by decide +kernel
theorem dX2_settleRest_65 : decode cX2_settleRest 65 = .ok (.lload 4, 2) := by decide +kernel
theorem dX2_settleRest_67 : decode cX2_settleRest 67 = .ok (.iload 8, 2) := by decide +kernel
theorem dX2_settleRest_69 : decode cX2_settleRest 69 = .ok (.invokevirtual 45, 3) := by decide +kernel
theorem dX2_settleRest_72 : decode cX2_settleRest 72 = .ok (.iinc 7 1, 3) := by decide +kernel
theorem dX2_settleRest_75 : decode cX2_settleRest 75 = .ok (.goto (-41), 3) := by decide +kernel
theorem dX2_settleRest_78 : decode cX2_settleRest 78 = .ok (.return_, 1) := by decide +kernel
theorem dX2_settleBy_0 : decode cX2_settleBy 0 = .ok (.aload_n 1, 1) := by decide +kernel
theorem dX2_settleBy_1 : decode cX2_settleBy 1 = .ok (.getfield 49, 3) := by decide +kernel
theorem dX2_settleBy_4 : decode cX2_settleBy 4 = .ok (.iload_n 3, 1) := by decide +kernel
theorem dX2_settleBy_5 : decode cX2_settleBy 5 = .ok (.iaload, 1) := by decide +kernel
theorem dX2_settleBy_6 : decode cX2_settleBy 6 = .ok (.iload 4, 2) := by decide +kernel
theorem dX2_settleBy_8 : decode cX2_settleBy 8 = .ok (.iadd, 1) := by decide +kernel
theorem dX2_settleBy_9 : decode cX2_settleBy 9 = .ok (.invokestatic 52, 3) := by decide +kernel
theorem dX2_settleBy_12 : decode cX2_settleBy 12 = .ok (.istore 8, 2) := by decide +kernel
theorem dX2_settleBy_14 : decode cX2_settleBy 14 = .ok (.lload 5, 2) := by decide +kernel
theorem dX2_settleBy_16 : decode cX2_settleBy 16 = .ok (.iload 8, 2) := by decide +kernel
theorem dX2_settleBy_18 : decode cX2_settleBy 18 = .ok (.lshr, 1) := by decide +kernel
theorem dX2_settleBy_19 : decode cX2_settleBy 19 = .ok (.lconst 1, 1) := by decide +kernel
theorem dX2_settleBy_20 : decode cX2_settleBy 20 = .ok (.land, 1) := by decide +kernel
theorem dX2_settleBy_21 : decode cX2_settleBy 21 = .ok (.lconst 0, 1) := by decide +kernel
theorem dX2_settleBy_22 : decode cX2_settleBy 22 = .ok (.lcmp, 1) := by decide +kernel
theorem dX2_settleBy_23 : decode cX2_settleBy 23 = .ok (.ifCond .eq 35, 3) := by decide +kernel
theorem dX2_settleBy_26 : decode cX2_settleBy 26 = .ok (.aload_n 0, 1) := by decide +kernel
theorem dX2_settleBy_27 : decode cX2_settleBy 27 = .ok (.getfield 9, 3) := by decide +kernel
theorem dX2_settleBy_30 : decode cX2_settleBy 30 = .ok (.iload_n 3, 1) := by decide +kernel
theorem dX2_settleBy_31 : decode cX2_settleBy 31 = .ok (.iload 4, 2) := by decide +kernel
theorem dX2_settleBy_33 : decode cX2_settleBy 33 = .ok (.iastore, 1) := by decide +kernel
theorem dX2_settleBy_34 : decode cX2_settleBy 34 = .ok (.aload_n 0, 1) := by decide +kernel
theorem dX2_settleBy_35 : decode cX2_settleBy 35 = .ok (.aload_n 1, 1) := by decide +kernel
theorem dX2_settleBy_36 : decode cX2_settleBy 36 = .ok (.iload_n 2, 1) := by decide +kernel
theorem dX2_settleBy_37 : decode cX2_settleBy 37 = .ok (.iload_n 3, 1) := by decide +kernel
theorem dX2_settleBy_38 : decode cX2_settleBy 38 = .ok (.iconst 1, 1) := by decide +kernel
theorem dX2_settleBy_39 : decode cX2_settleBy 39 = .ok (.iadd, 1) := by decide +kernel
theorem dX2_settleBy_40 : decode cX2_settleBy 40 = .ok (.lload 5, 2) := by decide +kernel
theorem dX2_settleBy_42 : decode cX2_settleBy 42 = .ok (.iload 8, 2) := by decide +kernel
theorem dX2_settleBy_44 : decode cX2_settleBy 44 = .ok (.iload_n 2, 1) := by decide +kernel
theorem dX2_settleBy_45 : decode cX2_settleBy 45 = .ok (.invokestatic 55, 3) := by decide +kernel
theorem dX2_settleBy_48 : decode cX2_settleBy 48 = .ok (.ldc2_w 59, 3) := by decide +kernel
theorem dX2_settleBy_51 : decode cX2_settleBy 51 = .ok (.lxor, 1) := by decide +kernel
theorem dX2_settleBy_52 : decode cX2_settleBy 52 = .ok (.land, 1) := by decide +kernel
theorem dX2_settleBy_53 : decode cX2_settleBy 53 = .ok (.iload 7, 2) := by decide +kernel
theorem dX2_settleBy_55 : decode cX2_settleBy 55 = .ok (.invokevirtual 24, 3) := by decide +kernel
theorem dX2_settleBy_58 : decode cX2_settleBy 58 = .ok (.return_, 1) := by decide +kernel
theorem dX3_init_0 : decode cX3_init 0 = .ok (.aload_n 0, 1) := by decide +kernel
theorem dX3_init_1 : decode cX3_init 1 = .ok (.invokespecial 3, 3) := by decide +kernel
theorem dX3_init_4 : decode cX3_init 4 = .ok (.aload_n 0, 1) := by decide +kernel
theorem dX3_init_5 : decode cX3_init 5 = .ok (.bipush 24, 2) := by decide +kernel
theorem dX3_init_7 : decode cX3_init 7 = .ok (.newarray .long, 2) := by decide +kernel
theorem dX3_init_9 : decode cX3_init 9 = .ok (.putfield 9, 3) := by decide +kernel
theorem dX3_init_12 : decode cX3_init 12 = .ok (.aload_n 0, 1) := by decide +kernel
theorem dX3_init_13 : decode cX3_init 13 = .ok (.iconst (-1), 1) := by decide +kernel
theorem dX3_init_14 : decode cX3_init 14 = .ok (.putfield 15, 3) := by decide +kernel
theorem dX3_init_17 : decode cX3_init 17 = .ok (.aload_n 0, 1) := by decide +kernel
theorem dX3_init_18 : decode cX3_init 18 = .ok (.iconst 0, 1) := by decide +kernel
theorem dX3_init_19 : decode cX3_init 19 = .ok (.putfield 19, 3) := by decide +kernel
theorem dX3_init_22 : decode cX3_init 22 = .ok (.return_, 1) := by decide +kernel
theorem dX3_renew_0 : decode cX3_renew 0 = .ok (.iconst 0, 1) := by decide +kernel
theorem dX3_renew_1 : decode cX3_renew 1 = .ok (.istore_n 3, 1) := by decide +kernel
theorem dX3_renew_2 : decode cX3_renew 2 = .ok (.iload_n 3, 1) := by decide +kernel
theorem dX3_renew_3 : decode cX3_renew 3 = .ok (.bipush 24, 2) := by decide +kernel
theorem dX3_renew_5 : decode cX3_renew 5 = .ok (.if_icmp .ge 16, 3) := by decide +kernel
theorem dX3_renew_8 : decode cX3_renew 8 = .ok (.aload_n 0, 1) := by decide +kernel
theorem dX3_renew_9 : decode cX3_renew 9 = .ok (.getfield 9, 3) := by decide +kernel
theorem dX3_renew_12 : decode cX3_renew 12 = .ok (.iload_n 3, 1) := by decide +kernel
theorem dX3_renew_13 : decode cX3_renew 13 = .ok (.lconst 0, 1) := by decide +kernel
theorem dX3_renew_14 : decode cX3_renew 14 = .ok (.lastore, 1) := by decide +kernel
theorem dX3_renew_15 : decode cX3_renew 15 = .ok (.iinc 3 1, 3) := by decide +kernel
theorem dX3_renew_18 : decode cX3_renew 18 = .ok (.goto (-16), 3) := by decide +kernel
theorem dX3_renew_21 : decode cX3_renew 21 = .ok (.aload_n 0, 1) := by decide +kernel
theorem dX3_renew_22 : decode cX3_renew 22 = .ok (.iload_n 1, 1) := by decide +kernel
theorem dX3_renew_23 : decode cX3_renew 23 = .ok (.putfield 15, 3) := by decide +kernel
theorem dX3_renew_26 : decode cX3_renew 26 = .ok (.aload_n 0, 1) := by decide +kernel
theorem dX3_renew_27 : decode cX3_renew 27 = .ok (.iload_n 2, 1) := by decide +kernel
theorem dX3_renew_28 : decode cX3_renew 28 = .ok (.putfield 19, 3) := by decide +kernel
theorem dX3_renew_31 : decode cX3_renew 31 = .ok (.return_, 1) := by decide +kernel
theorem dX3_remove_0 : decode cX3_remove 0 = .ok (.aload_n 0, 1) := by decide +kernel
theorem dX3_remove_1 : decode cX3_remove 1 = .ok (.iconst (-1), 1) := by decide +kernel
theorem dX3_remove_2 : decode cX3_remove 2 = .ok (.putfield 15, 3) := by decide +kernel
theorem dX3_remove_5 : decode cX3_remove 5 = .ok (.aload_n 0, 1) := by decide +kernel
theorem dX3_remove_6 : decode cX3_remove 6 = .ok (.iconst 0, 1) := by decide +kernel
theorem dX3_remove_7 : decode cX3_remove 7 = .ok (.putfield 19, 3) := by decide +kernel
theorem dX3_remove_10 : decode cX3_remove 10 = .ok (.return_, 1) := by decide +kernel
theorem dX3_isMissing_0 : decode cX3_isMissing 0 = .ok (.aload_n 0, 1) := by decide +kernel
theorem dX3_isMissing_1 : decode cX3_isMissing 1 = .ok (.getfield 15, 3) := by decide +kernel
theorem dX3_isMissing_4 : decode cX3_isMissing 4 = .ok (.iconst (-1), 1) := by decide +kernel
theorem dX3_isMissing_5 : decode cX3_isMissing 5 = .ok (.if_icmp .ne 7, 3) := by decide +kernel
theorem dX3_isMissing_8 : decode cX3_isMissing 8 = .ok (.iconst 1, 1) := by decide +kernel
theorem dX3_isMissing_9 : decode cX3_isMissing 9 = .ok (.goto 4, 3) := by decide +kernel
theorem dX3_isMissing_12 : decode cX3_isMissing 12 = .ok (.iconst 0, 1) := by decide +kernel
theorem dX3_isMissing_13 : decode cX3_isMissing 13 = .ok (.ireturn, 1) := by decide +kernel
theorem dX3_reaches_0 : decode cX3_reaches 0 = .ok (.iload_n 1, 1) := by decide +kernel
theorem dX3_reaches_1 : decode cX3_reaches 1 = .ok (.ifCond .lt 29, 3) := by decide +kernel
theorem dX3_reaches_4 : decode cX3_reaches 4 = .ok (.iload_n 2, 1) := by decide +kernel
theorem dX3_reaches_5 : decode cX3_reaches 5 = .ok (.ifCond .lt 25, 3) := by decide +kernel
theorem dX3_reaches_8 : decode cX3_reaches 8 = .ok (.iload_n 2, 1) := by decide +kernel
theorem dX3_reaches_9 : decode cX3_reaches 9 = .ok (.aload_n 0, 1) := by decide +kernel
theorem dX3_reaches_10 : decode cX3_reaches 10 = .ok (.getfield 19, 3) := by decide +kernel
theorem dX3_reaches_13 : decode cX3_reaches 13 = .ok (.if_icmp .gt 17, 3) := by decide +kernel
theorem dX3_reaches_16 : decode cX3_reaches 16 = .ok (.iload_n 1, 1) := by decide +kernel
theorem dX3_reaches_17 : decode cX3_reaches 17 = .ok (.aload_n 0, 1) := by decide +kernel
theorem dX3_reaches_18 : decode cX3_reaches 18 = .ok (.getfield 19, 3) := by decide +kernel
theorem dX3_reaches_21 : decode cX3_reaches 21 = .ok (.iload_n 2, 1) := by decide +kernel
theorem dX3_reaches_22 : decode cX3_reaches 22 = .ok (.isub, 1) := by decide +kernel
theorem dX3_reaches_23 : decode cX3_reaches 23 = .ok (.if_icmp .gt 7, 3) := by decide +kernel
theorem dX3_reaches_26 : decode cX3_reaches 26 = .ok (.iconst 1, 1) := by decide +kernel
theorem dX3_reaches_27 : decode cX3_reaches 27 = .ok (.goto 4, 3) := by decide +kernel
theorem dX3_reaches_30 : decode cX3_reaches 30 = .ok (.iconst 0, 1) := by decide +kernel
theorem dX3_reaches_31 : decode cX3_reaches 31 = .ok (.ireturn, 1) := by decide +kernel
theorem dX3_refusal_0 : decode cX3_refusal 0 = .ok (.aload_n 0, 1) := by decide +kernel
theorem dX3_refusal_1 : decode cX3_refusal 1 = .ok (.invokevirtual 22, 3) := by decide +kernel
theorem dX3_refusal_4 : decode cX3_refusal 4 = .ok (.ifCond .eq 6, 3) := by decide +kernel
theorem dX3_refusal_7 : decode cX3_refusal 7 = .ok (.bipush (-11), 2) := by decide +kernel
theorem dX3_refusal_9 : decode cX3_refusal 9 = .ok (.ireturn, 1) := by decide +kernel
theorem dX3_refusal_10 : decode cX3_refusal 10 = .ok (.aload_n 0, 1) := by decide +kernel
theorem dX3_refusal_11 : decode cX3_refusal 11 = .ok (.getfield 15, 3) := by decide +kernel
theorem dX3_refusal_14 : decode cX3_refusal 14 = .ok (.iload_n 1, 1) := by decide +kernel
theorem dX3_refusal_15 : decode cX3_refusal 15 = .ok (.if_icmp .eq 6, 3) := by decide +kernel
theorem dX3_refusal_18 : decode cX3_refusal 18 = .ok (.bipush (-12), 2) := by decide +kernel
theorem dX3_refusal_20 : decode cX3_refusal 20 = .ok (.ireturn, 1) := by decide +kernel
theorem dX3_refusal_21 : decode cX3_refusal 21 = .ok (.aload_n 0, 1) := by decide +kernel
theorem dX3_refusal_22 : decode cX3_refusal 22 = .ok (.iload_n 2, 1) := by decide +kernel
theorem dX3_refusal_23 : decode cX3_refusal 23 = .ok (.iload_n 3, 1) := by decide +kernel
theorem dX3_refusal_24 : decode cX3_refusal 24 = .ok (.invokevirtual 26, 3) := by decide +kernel
theorem dX3_refusal_27 : decode cX3_refusal 27 = .ok (.ifCond .eq 7, 3) := by decide +kernel
theorem dX3_refusal_30 : decode cX3_refusal 30 = .ok (.iconst 0, 1) := by decide +kernel
theorem dX3_refusal_31 : decode cX3_refusal 31 = .ok (.goto 5, 3) := by decide +kernel
theorem dX3_refusal_34 : decode cX3_refusal 34 = .ok (.bipush (-13), 2) := by decide +kernel
theorem dX3_refusal_36 : decode cX3_refusal 36 = .ok (.ireturn, 1) := by decide +kernel
theorem dX3_put_0 : decode cX3_put 0 = .ok (.aload_n 0, 1) := by decide +kernel
theorem dX3_put_1 : decode cX3_put 1 = .ok (.getfield 15, 3) := by decide +kernel
theorem dX3_put_4 : decode cX3_put 4 = .ok (.tableswitch 66 0 2 #[28, 41, 54], 28) := by decide +kernel
theorem dX3_put_32 : decode cX3_put 32 = .ok (.aload_n 0, 1) := by decide +kernel
theorem dX3_put_33 : decode cX3_put 33 = .ok (.getfield 9, 3) := by decide +kernel
theorem dX3_put_36 : decode cX3_put 36 = .ok (.iload_n 1, 1) := by decide +kernel
theorem dX3_put_37 : decode cX3_put 37 = .ok (.lload_n 2, 1) := by decide +kernel
theorem dX3_put_38 : decode cX3_put 38 = .ok (.l2i, 1) := by decide +kernel
theorem dX3_put_39 : decode cX3_put 39 = .ok (.i2b, 1) := by decide +kernel
theorem dX3_put_40 : decode cX3_put 40 = .ok (.i2l, 1) := by decide +kernel
theorem dX3_put_41 : decode cX3_put 41 = .ok (.lastore, 1) := by decide +kernel
theorem dX3_put_42 : decode cX3_put 42 = .ok (.goto 35, 3) := by decide +kernel
theorem dX3_put_45 : decode cX3_put 45 = .ok (.aload_n 0, 1) := by decide +kernel
theorem dX3_put_46 : decode cX3_put 46 = .ok (.getfield 9, 3) := by decide +kernel
theorem dX3_put_49 : decode cX3_put 49 = .ok (.iload_n 1, 1) := by decide +kernel
theorem dX3_put_50 : decode cX3_put 50 = .ok (.lload_n 2, 1) := by decide +kernel
theorem dX3_put_51 : decode cX3_put 51 = .ok (.l2i, 1) := by decide +kernel
theorem dX3_put_52 : decode cX3_put 52 = .ok (.i2s, 1) := by decide +kernel
theorem dX3_put_53 : decode cX3_put 53 = .ok (.i2l, 1) := by decide +kernel
theorem dX3_put_54 : decode cX3_put 54 = .ok (.lastore, 1) := by decide +kernel
theorem dX3_put_55 : decode cX3_put 55 = .ok (.goto 22, 3) := by decide +kernel
theorem dX3_put_58 : decode cX3_put 58 = .ok (.aload_n 0, 1) := by decide +kernel
theorem dX3_put_59 : decode cX3_put 59 = .ok (.getfield 9, 3) := by decide +kernel
theorem dX3_put_62 : decode cX3_put 62 = .ok (.iload_n 1, 1) := by decide +kernel
theorem dX3_put_63 : decode cX3_put 63 = .ok (.lload_n 2, 1) := by decide +kernel
theorem dX3_put_64 : decode cX3_put 64 = .ok (.l2i, 1) := by decide +kernel
theorem dX3_put_65 : decode cX3_put 65 = .ok (.i2l, 1) := by decide +kernel
theorem dX3_put_66 : decode cX3_put 66 = .ok (.lastore, 1) := by decide +kernel
theorem dX3_put_67 : decode cX3_put 67 = .ok (.goto 10, 3) := by decide +kernel
theorem dX3_put_70 : decode cX3_put 70 = .ok (.aload_n 0, 1) := by decide +kernel
theorem dX3_put_71 : decode cX3_put 71 = .ok (.getfield 9, 3) := by decide +kernel
theorem dX3_put_74 : decode cX3_put 74 = .ok (.iload_n 1, 1) := by decide +kernel
theorem dX3_put_75 : decode cX3_put 75 = .ok (.lload_n 2, 1) := by decide +kernel
theorem dX3_put_76 : decode cX3_put 76 = .ok (.lastore, 1) := by decide +kernel
theorem dX3_put_77 : decode cX3_put 77 = .ok (.return_, 1) := by decide +kernel
theorem dX4_init_0 : decode cX4_init 0 = .ok (.aload_n 0, 1) := by decide +kernel
theorem dX4_init_1 : decode cX4_init 1 = .ok (.invokespecial 3, 3) := by decide +kernel
theorem dX4_init_4 : decode cX4_init 4 = .ok (.aload_n 0, 1) := by decide +kernel
theorem dX4_init_5 : decode cX4_init 5 = .ok (.bipush 60, 2) := by decide +kernel
theorem dX4_init_7 : decode cX4_init 7 = .ok (.newarray .char, 2) := by decide +kernel
theorem dX4_init_9 : decode cX4_init 9 = .ok (.putfield 9, 3) := by decide +kernel
theorem dX4_init_12 : decode cX4_init 12 = .ok (.aload_n 0, 1) := by decide +kernel
theorem dX4_init_13 : decode cX4_init 13 = .ok (.iconst 0, 1) := by decide +kernel
theorem dX4_init_14 : decode cX4_init 14 = .ok (.putfield 15, 3) := by decide +kernel
theorem dX4_init_17 : decode cX4_init 17 = .ok (.aload_n 0, 1) := by decide +kernel
theorem dX4_init_18 : decode cX4_init 18 = .ok (.iconst 0, 1) := by decide +kernel
theorem dX4_init_19 : decode cX4_init 19 = .ok (.putfield 19, 3) := by decide +kernel
theorem dX4_init_22 : decode cX4_init 22 = .ok (.aload_n 0, 1) := by decide +kernel
theorem dX4_init_23 : decode cX4_init 23 = .ok (.iconst 0, 1) := by decide +kernel
theorem dX4_init_24 : decode cX4_init 24 = .ok (.putfield 22, 3) := by decide +kernel
theorem dX4_init_27 : decode cX4_init 27 = .ok (.return_, 1) := by decide +kernel
theorem dX4_put_0 : decode cX4_put 0 = .ok (.aload_n 0, 1) := by decide +kernel
theorem dX4_put_1 : decode cX4_put 1 = .ok (.getfield 15, 3) := by decide +kernel
theorem dX4_put_4 : decode cX4_put 4 = .ok (.bipush 60, 2) := by decide +kernel
theorem dX4_put_6 : decode cX4_put 6 = .ok (.if_icmp .lt 5, 3) := by decide +kernel
theorem dX4_put_9 : decode cX4_put 9 = .ok (.iconst 0, 1) := by decide +kernel
theorem dX4_put_10 : decode cX4_put 10 = .ok (.ireturn, 1) := by decide +kernel
theorem dX4_put_11 : decode cX4_put 11 = .ok (.aload_n 0, 1) := by decide +kernel
theorem dX4_put_12 : decode cX4_put 12 = .ok (.getfield 9, 3) := by decide +kernel
theorem dX4_put_15 : decode cX4_put 15 = .ok (.aload_n 0, 1) := by decide +kernel
theorem dX4_put_16 : decode cX4_put 16 = .ok (.getfield 15, 3) := by decide +kernel
theorem dX4_put_19 : decode cX4_put 19 = .ok (.iload_n 1, 1) := by decide +kernel
theorem dX4_put_20 : decode cX4_put 20 = .ok (.castore, 1) := by decide +kernel
theorem dX4_put_21 : decode cX4_put 21 = .ok (.aload_n 0, 1) := by decide +kernel
theorem dX4_put_22 : decode cX4_put 22 = .ok (.dup, 1) := by decide +kernel
theorem dX4_put_23 : decode cX4_put 23 = .ok (.getfield 15, 3) := by decide +kernel
theorem dX4_put_26 : decode cX4_put 26 = .ok (.iconst 1, 1) := by decide +kernel
theorem dX4_put_27 : decode cX4_put 27 = .ok (.iadd, 1) := by decide +kernel
theorem dX4_put_28 : decode cX4_put 28 = .ok (.putfield 15, 3) := by decide +kernel
theorem dX4_put_31 : decode cX4_put 31 = .ok (.iconst 1, 1) := by decide +kernel
theorem dX4_put_32 : decode cX4_put 32 = .ok (.ireturn, 1) := by decide +kernel
theorem dX4_readInto_0 : decode cX4_readInto 0 = .ok (.aload_n 0, 1) := by decide +kernel
theorem dX4_readInto_1 : decode cX4_readInto 1 = .ok (.iconst 0, 1) := by decide +kernel
theorem dX4_readInto_2 : decode cX4_readInto 2 = .ok (.putfield 19, 3) := by decide +kernel
theorem dX4_readInto_5 : decode cX4_readInto 5 = .ok (.aload_n 0, 1) := by decide +kernel
theorem dX4_readInto_6 : decode cX4_readInto 6 = .ok (.iconst 0, 1) := by decide +kernel
theorem dX4_readInto_7 : decode cX4_readInto 7 = .ok (.putfield 22, 3) := by decide +kernel
theorem dX4_readInto_10 : decode cX4_readInto 10 = .ok (.aload_n 1, 1) := by decide +kernel
theorem dX4_readInto_11 : decode cX4_readInto 11 = .ok (.invokevirtual 25, 3) := by decide +kernel
theorem dX4_readInto_14 : decode cX4_readInto 14 = .ok (.iconst 1, 1) := by decide +kernel
theorem dX4_readInto_15 : decode cX4_readInto 15 = .ok (.istore_n 2, 1) := by decide +kernel
theorem dX4_readInto_16 : decode cX4_readInto 16 = .ok (.iconst 1, 1) := by decide +kernel
theorem dX4_readInto_17 : decode cX4_readInto 17 = .ok (.istore_n 3, 1) := by decide +kernel
theorem dX4_readInto_18 : decode cX4_readInto 18 = .ok (.iload_n 2, 1) := by decide +kernel
theorem dX4_readInto_19 : decode cX4_readInto 19 = .ok (.ifCond .eq 41, 3) := by decide +kernel
theorem dX4_readInto_22 : decode cX4_readInto 22 = .ok (.iload_n 3, 1) := by decide +kernel
theorem dX4_readInto_23 : decode cX4_readInto 23 = .ok (.bipush 6, 2) := by decide +kernel
theorem dX4_readInto_25 : decode cX4_readInto 25 = .ok (.if_icmp .gt 35, 3) := by decide +kernel
theorem dX4_readInto_28 : decode cX4_readInto 28 = .ok (.aload_n 0, 1) := by decide +kernel
theorem dX4_readInto_29 : decode cX4_readInto 29 = .ok (.aload_n 1, 1) := by decide +kernel
theorem dX4_readInto_30 : decode cX4_readInto 30 = .ok (.invokevirtual 30, 3) := by decide +kernel
theorem dX4_readInto_33 : decode cX4_readInto 33 = .ok (.iload_n 3, 1) := by decide +kernel
theorem dX4_readInto_34 : decode cX4_readInto 34 = .ok (.bipush 6, 2) := by decide +kernel
theorem dX4_readInto_36 : decode cX4_readInto 36 = .ok (.if_icmp .ge 16, 3) := by decide +kernel
theorem dX4_readInto_39 : decode cX4_readInto 39 = .ok (.aload_n 0, 1) := by decide +kernel
theorem dX4_readInto_40 : decode cX4_readInto 40 = .ok (.bipush 44, 2) := by decide +kernel
theorem dX4_readInto_42 : decode cX4_readInto 42 = .ok (.invokevirtual 34, 3) := by decide +kernel
theorem dX4_readInto_45 : decode cX4_readInto 45 = .ok (.ifCond .eq 7, 3) := by decide +kernel
theorem dX4_readInto_48 : decode cX4_readInto 48 = .ok (.iconst 1, 1) := by decide +kernel
theorem dX4_readInto_49 : decode cX4_readInto 49 = .ok (.goto 4, 3) := by decide +kernel
theorem dX4_readInto_52 : decode cX4_readInto 52 = .ok (.iconst 0, 1) := by decide +kernel
theorem dX4_readInto_53 : decode cX4_readInto 53 = .ok (.istore_n 2, 1) := by decide +kernel
theorem dX4_readInto_54 : decode cX4_readInto 54 = .ok (.iinc 3 1, 3) := by decide +kernel
theorem dX4_readInto_57 : decode cX4_readInto 57 = .ok (.goto (-39), 3) := by decide +kernel
theorem dX4_readInto_60 : decode cX4_readInto 60 = .ok (.aload_n 0, 1) := by decide +kernel
theorem dX4_readInto_61 : decode cX4_readInto 61 = .ok (.getfield 22, 3) := by decide +kernel
theorem dX4_readInto_64 : decode cX4_readInto 64 = .ok (.ifCond .ne 18, 3) := by decide +kernel
theorem dX4_readInto_67 : decode cX4_readInto 67 = .ok (.aload_n 0, 1) := by decide +kernel
theorem dX4_readInto_68 : decode cX4_readInto 68 = .ok (.invokevirtual 38, 3) := by decide +kernel
theorem dX4_readInto_71 : decode cX4_readInto 71 = .ok (.ifCond .eq 11, 3) := by decide +kernel
theorem dX4_readInto_74 : decode cX4_readInto 74 = .ok (.aload_n 0, 1) := by decide +kernel
theorem dX4_readInto_75 : decode cX4_readInto 75 = .ok (.aload_n 0, 1) := by decide +kernel
theorem dX4_readInto_76 : decode cX4_readInto 76 = .ok (.getfield 19, 3) := by decide +kernel
theorem dX4_readInto_79 : decode cX4_readInto 79 = .ok (.invokevirtual 42, 3) := by decide +kernel
theorem dX4_readInto_82 : decode cX4_readInto 82 = .ok (.aload_n 0, 1) := by decide +kernel
theorem dX4_readInto_83 : decode cX4_readInto 83 = .ok (.getfield 22, 3) := by decide +kernel
theorem dX4_readInto_86 : decode cX4_readInto 86 = .ok (.ireturn, 1) := by decide +kernel
theorem dX4_readVillage_0 : decode cX4_readVillage 0 = .ok (.aload_n 0, 1) := by decide +kernel
theorem dX4_readVillage_1 : decode cX4_readVillage 1 = .ok (.invokevirtual 46, 3) := by decide +kernel
theorem dX4_readVillage_4 : decode cX4_readVillage 4 = .ok (.istore_n 2, 1) := by decide +kernel
theorem dX4_readVillage_5 : decode cX4_readVillage 5 = .ok (.aload_n 0, 1) := by decide +kernel
theorem dX4_readVillage_6 : decode cX4_readVillage 6 = .ok (.bipush 59, 2) := by decide +kernel
theorem dX4_readVillage_8 : decode cX4_readVillage 8 = .ok (.invokevirtual 50, 3) := by decide +kernel
theorem dX4_readVillage_11 : decode cX4_readVillage 11 = .ok (.istore_n 3, 1) := by decide +kernel
theorem dX4_readVillage_12 : decode cX4_readVillage 12 = .ok (.aload_n 0, 1) := by decide +kernel
theorem dX4_readVillage_13 : decode cX4_readVillage 13 = .ok (.invokevirtual 54, 3) := by decide +kernel
theorem dX4_readVillage_16 : decode cX4_readVillage 16 = .ok (.istore 4, 2) := by decide +kernel
theorem dX4_readVillage_18 : decode cX4_readVillage 18 = .ok (.aload_n 0, 1) := by decide +kernel
theorem dX4_readVillage_19 : decode cX4_readVillage 19 = .ok (.bipush 64, 2) := by decide +kernel
theorem dX4_readVillage_21 : decode cX4_readVillage 21 = .ok (.invokevirtual 34, 3) := by decide +kernel
theorem dX4_readVillage_24 : decode cX4_readVillage 24 = .ok (.ifCond .eq 12, 3) := by decide +kernel
theorem dX4_readVillage_27 : decode cX4_readVillage 27 = .ok (.aload_n 0, 1) := by decide +kernel
theorem dX4_readVillage_28 : decode cX4_readVillage 28 = .ok (.bipush 40, 2) := by decide +kernel
theorem dX4_readVillage_30 : decode cX4_readVillage 30 = .ok (.invokevirtual 50, 3) := by decide +kernel
theorem dX4_readVillage_33 : decode cX4_readVillage 33 = .ok (.goto 4, 3) := by decide +kernel
theorem dX4_readVillage_36 : decode cX4_readVillage 36 = .ok (.iconst 0, 1) := by decide +kernel
theorem dX4_readVillage_37 : decode cX4_readVillage 37 = .ok (.istore 5, 2) := by decide +kernel
theorem dX4_readVillage_39 : decode cX4_readVillage 39 = .ok (.aload_n 0, 1) := by decide +kernel
theorem dX4_readVillage_40 : decode cX4_readVillage 40 = .ok (.getfield 22, 3) := by decide +kernel
theorem dX4_readVillage_43 : decode cX4_readVillage 43 = .ok (.ifCond .ne 13, 3) := by decide +kernel
theorem dX4_readVillage_46 : decode cX4_readVillage 46 = .ok (.aload_n 1, 1) := by decide +kernel
theorem dX4_readVillage_47 : decode cX4_readVillage 47 = .ok (.iload_n 2, 1) := by decide +kernel
theorem dX4_readVillage_48 : decode cX4_readVillage 48 = .ok (.iload_n 3, 1) := by decide +kernel
theorem dX4_readVillage_49 : decode cX4_readVillage 49 = .ok (.iload 4, 2) := by decide +kernel
theorem dX4_readVillage_51 : decode cX4_readVillage 51 = .ok (.iload 5, 2) := by decide +kernel
theorem dX4_readVillage_53 : decode cX4_readVillage 53 = .ok (.invokevirtual 57, 3) := by decide +kernel
theorem dX4_readVillage_56 : decode cX4_readVillage 56 = .ok (.return_, 1) := by decide +kernel
theorem dX4_readKind_0 : decode cX4_readKind 0 = .ok (.aload_n 0, 1) := by decide +kernel
theorem dX4_readKind_1 : decode cX4_readKind 1 = .ok (.bipush 112, 2) := by decide +kernel
theorem dX4_readKind_3 : decode cX4_readKind 3 = .ok (.invokevirtual 34, 3) := by decide +kernel
theorem dX4_readKind_6 : decode cX4_readKind 6 = .ok (.ifCond .eq 5, 3) := by decide +kernel
theorem dX4_readKind_9 : decode cX4_readKind 9 = .ok (.iconst 0, 1) := by decide +kernel
theorem dX4_readKind_10 : decode cX4_readKind 10 = .ok (.ireturn, 1) := by decide +kernel
theorem dX4_readKind_11 : decode cX4_readKind 11 = .ok (.aload_n 0, 1) := by decide +kernel
theorem dX4_readKind_12 : decode cX4_readKind 12 = .ok (.bipush 115, 2) := by decide +kernel
theorem dX4_readKind_14 : decode cX4_readKind 14 = .ok (.invokevirtual 34, 3) := by decide +kernel
theorem dX4_readKind_17 : decode cX4_readKind 17 = .ok (.ifCond .eq 5, 3) := by decide +kernel
theorem dX4_readKind_20 : decode cX4_readKind 20 = .ok (.iconst 1, 1) := by decide +kernel
theorem dX4_readKind_21 : decode cX4_readKind 21 = .ok (.ireturn, 1) := by decide +kernel
theorem dX4_readKind_22 : decode cX4_readKind 22 = .ok (.aload_n 0, 1) := by decide +kernel
theorem dX4_readKind_23 : decode cX4_readKind 23 = .ok (.bipush 104, 2) := by decide +kernel
theorem dX4_readKind_25 : decode cX4_readKind 25 = .ok (.invokevirtual 34, 3) := by decide +kernel
theorem dX4_readKind_28 : decode cX4_readKind 28 = .ok (.ifCond .eq 5, 3) := by decide +kernel
theorem dX4_readKind_31 : decode cX4_readKind 31 = .ok (.iconst 2, 1) := by decide +kernel
theorem dX4_readKind_32 : decode cX4_readKind 32 = .ok (.ireturn, 1) := by decide +kernel
theorem dX4_readKind_33 : decode cX4_readKind 33 = .ok (.aload_n 0, 1) := by decide +kernel
theorem dX4_readKind_34 : decode cX4_readKind 34 = .ok (.bipush 102, 2) := by decide +kernel
theorem dX4_readKind_36 : decode cX4_readKind 36 = .ok (.invokevirtual 34, 3) := by decide +kernel
theorem dX4_readKind_39 : decode cX4_readKind 39 = .ok (.ifCond .eq 5, 3) := by decide +kernel
theorem dX4_readKind_42 : decode cX4_readKind 42 = .ok (.iconst 3, 1) := by decide +kernel
theorem dX4_readKind_43 : decode cX4_readKind 43 = .ok (.ireturn, 1) := by decide +kernel
theorem dX4_readKind_44 : decode cX4_readKind 44 = .ok (.aload_n 0, 1) := by decide +kernel
theorem dX4_readKind_45 : decode cX4_readKind 45 = .ok (.bipush 99, 2) := by decide +kernel
theorem dX4_readKind_47 : decode cX4_readKind 47 = .ok (.invokevirtual 34, 3) := by decide +kernel
theorem dX4_readKind_50 : decode cX4_readKind 50 = .ok (.ifCond .eq 5, 3) := by decide +kernel
theorem dX4_readKind_53 : decode cX4_readKind 53 = .ok (.iconst 4, 1) := by decide +kernel
theorem dX4_readKind_54 : decode cX4_readKind 54 = .ok (.ireturn, 1) := by decide +kernel
theorem dX4_readKind_55 : decode cX4_readKind 55 = .ok (.aload_n 0, 1) := by decide +kernel
theorem dX4_readKind_56 : decode cX4_readKind 56 = .ok (.aload_n 0, 1) := by decide +kernel
theorem dX4_readKind_57 : decode cX4_readKind 57 = .ok (.getfield 19, 3) := by decide +kernel
theorem dX4_readKind_60 : decode cX4_readKind 60 = .ok (.invokevirtual 42, 3) := by decide +kernel
theorem dX4_readKind_63 : decode cX4_readKind 63 = .ok (.iconst 0, 1) := by decide +kernel
theorem dX4_readKind_64 : decode cX4_readKind 64 = .ok (.ireturn, 1) := by decide +kernel
theorem dX4_readDrift_0 : decode cX4_readDrift 0 = .ok (.iconst 1, 1) := by decide +kernel
theorem dX4_readDrift_1 : decode cX4_readDrift 1 = .ok (.istore_n 1, 1) := by decide +kernel
theorem dX4_readDrift_2 : decode cX4_readDrift 2 = .ok (.aload_n 0, 1) := by decide +kernel
theorem dX4_readDrift_3 : decode cX4_readDrift 3 = .ok (.bipush 45, 2) := by decide +kernel
theorem dX4_readDrift_5 : decode cX4_readDrift 5 = .ok (.invokevirtual 34, 3) := by decide +kernel
theorem dX4_readDrift_8 : decode cX4_readDrift 8 = .ok (.ifCond .eq 8, 3) := by decide +kernel
theorem dX4_readDrift_11 : decode cX4_readDrift 11 = .ok (.iconst (-1), 1) := by decide +kernel
theorem dX4_readDrift_12 : decode cX4_readDrift 12 = .ok (.istore_n 1, 1) := by decide +kernel
theorem dX4_readDrift_13 : decode cX4_readDrift 13 = .ok (.goto 20, 3) := by decide +kernel
theorem dX4_readDrift_16 : decode cX4_readDrift 16 = .ok (.aload_n 0, 1) := by decide +kernel
theorem dX4_readDrift_17 : decode cX4_readDrift 17 = .ok (.bipush 43, 2) := by decide +kernel
theorem dX4_readDrift_19 : decode cX4_readDrift 19 = .ok (.invokevirtual 34, 3) := by decide +kernel
theorem dX4_readDrift_22 : decode cX4_readDrift 22 = .ok (.ifCond .ne 11, 3) := by decide +kernel
theorem dX4_readDrift_25 : decode cX4_readDrift 25 = .ok (.aload_n 0, 1) := by decide +kernel
theorem dX4_readDrift_26 : decode cX4_readDrift 26 = .ok (.aload_n 0, 1) := by decide +kernel
theorem dX4_readDrift_27 : decode cX4_readDrift 27 = .ok (.getfield 19, 3) := by decide +kernel
theorem dX4_readDrift_30 : decode cX4_readDrift 30 = .ok (.invokevirtual 42, 3) := by decide +kernel
theorem dX4_readDrift_33 : decode cX4_readDrift 33 = .ok (.aload_n 0, 1) := by decide +kernel
theorem dX4_readDrift_34 : decode cX4_readDrift 34 = .ok (.invokevirtual 38, 3) := by decide +kernel
theorem dX4_readDrift_37 : decode cX4_readDrift 37 = .ok (.invokestatic 61, 3) := by decide +kernel
theorem dX4_readDrift_40 : decode cX4_readDrift 40 = .ok (.ifCond .ne 11, 3) := by decide +kernel
theorem dX4_readDrift_43 : decode cX4_readDrift 43 = .ok (.aload_n 0, 1) := by decide +kernel
theorem dX4_readDrift_44 : decode cX4_readDrift 44 = .ok (.aload_n 0, 1) := by decide +kernel
theorem dX4_readDrift_45 : decode cX4_readDrift 45 = .ok (.getfield 19, 3) := by decide +kernel
theorem dX4_readDrift_48 : decode cX4_readDrift 48 = .ok (.invokevirtual 42, 3) := by decide +kernel
theorem dX4_readDrift_51 : decode cX4_readDrift 51 = .ok (.iload_n 1, 1) := by decide +kernel
theorem dX4_readDrift_52 : decode cX4_readDrift 52 = .ok (.aload_n 0, 1) := by decide +kernel
theorem dX4_readDrift_53 : decode cX4_readDrift 53 = .ok (.invokevirtual 64, 3) := by decide +kernel
theorem dX4_readDrift_56 : decode cX4_readDrift 56 = .ok (.imul, 1) := by decide +kernel
theorem dX4_readDrift_57 : decode cX4_readDrift 57 = .ok (.ireturn, 1) := by decide +kernel
theorem dX4_readNumber_0 : decode cX4_readNumber 0 = .ok (.aload_n 0, 1) := by decide +kernel
theorem dX4_readNumber_1 : decode cX4_readNumber 1 = .ok (.invokevirtual 38, 3) := by decide +kernel
theorem dX4_readNumber_4 : decode cX4_readNumber 4 = .ok (.invokestatic 61, 3) := by decide +kernel
theorem dX4_readNumber_7 : decode cX4_readNumber 7 = .ok (.ifCond .ne 11, 3) := by decide +kernel
theorem dX4_readNumber_10 : decode cX4_readNumber 10 = .ok (.aload_n 0, 1) := by decide +kernel
theorem dX4_readNumber_11 : decode cX4_readNumber 11 = .ok (.aload_n 0, 1) := by decide +kernel
theorem dX4_readNumber_12 : decode cX4_readNumber 12 = .ok (.getfield 19, 3) := by decide +kernel
theorem dX4_readNumber_15 : decode cX4_readNumber 15 = .ok (.invokevirtual 42, 3) := by decide +kernel
theorem dX4_readNumber_18 : decode cX4_readNumber 18 = .ok (.aload_n 0, 1) := by decide +kernel
theorem dX4_readNumber_19 : decode cX4_readNumber 19 = .ok (.getfield 19, 3) := by decide +kernel
theorem dX4_readNumber_22 : decode cX4_readNumber 22 = .ok (.istore_n 2, 1) := by decide +kernel
theorem dX4_readNumber_23 : decode cX4_readNumber 23 = .ok (.aload_n 0, 1) := by decide +kernel
theorem dX4_readNumber_24 : decode cX4_readNumber 24 = .ok (.invokevirtual 64, 3) := by decide +kernel
theorem dX4_readNumber_27 : decode cX4_readNumber 27 = .ok (.istore_n 3, 1) := by decide +kernel
theorem dX4_readNumber_28 : decode cX4_readNumber 28 = .ok (.aload_n 0, 1) := by decide +kernel
theorem dX4_readNumber_29 : decode cX4_readNumber 29 = .ok (.getfield 19, 3) := by decide +kernel
theorem dX4_readNumber_32 : decode cX4_readNumber 32 = .ok (.aload_n 0, 1) := by decide +kernel
theorem dX4_readNumber_33 : decode cX4_readNumber 33 = .ok (.getfield 15, 3) := by decide +kernel
theorem dX4_readNumber_36 : decode cX4_readNumber 36 = .ok (.if_icmp .ge 28, 3) := by decide +kernel
theorem dX4_readNumber_39 : decode cX4_readNumber 39 = .ok (.aload_n 0, 1) := by decide +kernel
theorem dX4_readNumber_40 : decode cX4_readNumber 40 = .ok (.getfield 9, 3) := by decide +kernel
theorem dX4_readNumber_43 : decode cX4_readNumber 43 = .ok (.aload_n 0, 1) := by decide +kernel
theorem dX4_readNumber_44 : decode cX4_readNumber 44 = .ok (.getfield 19, 3) := by decide +kernel
theorem dX4_readNumber_47 : decode cX4_readNumber 47 = .ok (.caload, 1) := by decide +kernel
theorem dX4_readNumber_48 : decode cX4_readNumber 48 = .ok (.invokestatic 61, 3) := by decide +kernel
theorem dX4_readNumber_51 : decode cX4_readNumber 51 = .ok (.ifCond .eq 13, 3) := by decide +kernel
theorem dX4_readNumber_54 : decode cX4_readNumber 54 = .ok (.iload_n 3, 1) := by decide +kernel
theorem dX4_readNumber_55 : decode cX4_readNumber 55 = .ok (.bipush 10, 2) := by decide +kernel
theorem dX4_readNumber_57 : decode cX4_readNumber 57 = .ok (.imul, 1) := by decide +kernel
theorem dX4_readNumber_58 : decode cX4_readNumber 58 = .ok (.aload_n 0, 1) := by decide +kernel
theorem dX4_readNumber_59 : decode cX4_readNumber 59 = .ok (.invokevirtual 64, 3) := by decide +kernel
theorem dX4_readNumber_62 : decode cX4_readNumber 62 = .ok (.iadd, 1) := by decide +kernel
theorem dX4_readNumber_63 : decode cX4_readNumber 63 = .ok (.istore_n 3, 1) := by decide +kernel
theorem dX4_readNumber_64 : decode cX4_readNumber 64 = .ok (.iload_n 3, 1) := by decide +kernel
theorem dX4_readNumber_65 : decode cX4_readNumber 65 = .ok (.iload_n 1, 1) := by decide +kernel
theorem dX4_readNumber_66 : decode cX4_readNumber 66 = .ok (.if_icmp .le 8, 3) := by decide +kernel
theorem dX4_readNumber_69 : decode cX4_readNumber 69 = .ok (.aload_n 0, 1) := by decide +kernel
theorem dX4_readNumber_70 : decode cX4_readNumber 70 = .ok (.iload_n 2, 1) := by decide +kernel
theorem dX4_readNumber_71 : decode cX4_readNumber 71 = .ok (.invokevirtual 42, 3) := by decide +kernel
theorem dX4_readNumber_74 : decode cX4_readNumber 74 = .ok (.iload_n 3, 1) := by decide +kernel
theorem dX4_readNumber_75 : decode cX4_readNumber 75 = .ok (.ireturn, 1) := by decide +kernel
theorem dX4_takeDigit_0 : decode cX4_takeDigit 0 = .ok (.aload_n 0, 1) := by decide +kernel
theorem dX4_takeDigit_1 : decode cX4_takeDigit 1 = .ok (.getfield 22, 3) := by decide +kernel
theorem dX4_takeDigit_4 : decode cX4_takeDigit 4 = .ok (.ifCond .ne 29, 3) := by decide +kernel
theorem dX4_takeDigit_7 : decode cX4_takeDigit 7 = .ok (.aload_n 0, 1) := by decide +kernel
theorem dX4_takeDigit_8 : decode cX4_takeDigit 8 = .ok (.getfield 19, 3) := by decide +kernel
theorem dX4_takeDigit_11 : decode cX4_takeDigit 11 = .ok (.aload_n 0, 1) := by decide +kernel
theorem dX4_takeDigit_12 : decode cX4_takeDigit 12 = .ok (.getfield 15, 3) := by decide +kernel
theorem dX4_takeDigit_15 : decode cX4_takeDigit 15 = .ok (.if_icmp .ge 18, 3) := by decide +kernel
theorem dX4_takeDigit_18 : decode cX4_takeDigit 18 = .ok (.aload_n 0, 1) := by decide +kernel
theorem dX4_takeDigit_19 : decode cX4_takeDigit 19 = .ok (.getfield 9, 3) := by decide +kernel
theorem dX4_takeDigit_22 : decode cX4_takeDigit 22 = .ok (.aload_n 0, 1) := by decide +kernel
theorem dX4_takeDigit_23 : decode cX4_takeDigit 23 = .ok (.getfield 19, 3) := by decide +kernel
theorem dX4_takeDigit_26 : decode cX4_takeDigit 26 = .ok (.caload, 1) := by decide +kernel
theorem dX4_takeDigit_27 : decode cX4_takeDigit 27 = .ok (.invokestatic 61, 3) := by decide +kernel
theorem dX4_takeDigit_30 : decode cX4_takeDigit 30 = .ok (.ifCond .ne 5, 3) := by decide +kernel
theorem dX4_takeDigit_33 : decode cX4_takeDigit 33 = .ok (.iconst 0, 1) := by decide +kernel
theorem dX4_takeDigit_34 : decode cX4_takeDigit 34 = .ok (.ireturn, 1) := by decide +kernel
theorem dX4_takeDigit_35 : decode cX4_takeDigit 35 = .ok (.aload_n 0, 1) := by decide +kernel
theorem dX4_takeDigit_36 : decode cX4_takeDigit 36 = .ok (.getfield 9, 3) := by decide +kernel
theorem dX4_takeDigit_39 : decode cX4_takeDigit 39 = .ok (.aload_n 0, 1) := by decide +kernel
theorem dX4_takeDigit_40 : decode cX4_takeDigit 40 = .ok (.getfield 19, 3) := by decide +kernel
theorem dX4_takeDigit_43 : decode cX4_takeDigit 43 = .ok (.caload, 1) := by decide +kernel
theorem dX4_takeDigit_44 : decode cX4_takeDigit 44 = .ok (.bipush 48, 2) := by decide +kernel
theorem dX4_takeDigit_46 : decode cX4_takeDigit 46 = .ok (.isub, 1) := by decide +kernel
theorem dX4_takeDigit_47 : decode cX4_takeDigit 47 = .ok (.istore_n 1, 1) := by decide +kernel
theorem dX4_takeDigit_48 : decode cX4_takeDigit 48 = .ok (.aload_n 0, 1) := by decide +kernel
theorem dX4_takeDigit_49 : decode cX4_takeDigit 49 = .ok (.dup, 1) := by decide +kernel
theorem dX4_takeDigit_50 : decode cX4_takeDigit 50 = .ok (.getfield 19, 3) := by decide +kernel
theorem dX4_takeDigit_53 : decode cX4_takeDigit 53 = .ok (.iconst 1, 1) := by decide +kernel
theorem dX4_takeDigit_54 : decode cX4_takeDigit 54 = .ok (.iadd, 1) := by decide +kernel
theorem dX4_takeDigit_55 : decode cX4_takeDigit 55 = .ok (.putfield 19, 3) := by decide +kernel
theorem dX4_takeDigit_58 : decode cX4_takeDigit 58 = .ok (.iload_n 1, 1) := by decide +kernel
theorem dX4_takeDigit_59 : decode cX4_takeDigit 59 = .ok (.ireturn, 1) := by decide +kernel
theorem dX4_takes_0 : decode cX4_takes 0 = .ok (.aload_n 0, 1) := by decide +kernel
theorem dX4_takes_1 : decode cX4_takes 1 = .ok (.getfield 22, 3) := by decide +kernel
theorem dX4_takes_4 : decode cX4_takes 4 = .ok (.ifCond .ne 11, 3) := by decide +kernel
theorem dX4_takes_7 : decode cX4_takes 7 = .ok (.aload_n 0, 1) := by decide +kernel
theorem dX4_takes_8 : decode cX4_takes 8 = .ok (.invokevirtual 38, 3) := by decide +kernel
theorem dX4_takes_11 : decode cX4_takes 11 = .ok (.iload_n 1, 1) := by decide +kernel
theorem dX4_takes_12 : decode cX4_takes 12 = .ok (.if_icmp .eq 5, 3) := by decide +kernel
theorem dX4_takes_15 : decode cX4_takes 15 = .ok (.iconst 0, 1) := by decide +kernel
theorem dX4_takes_16 : decode cX4_takes 16 = .ok (.ireturn, 1) := by decide +kernel
theorem dX4_takes_17 : decode cX4_takes 17 = .ok (.aload_n 0, 1) := by decide +kernel
theorem dX4_takes_18 : decode cX4_takes 18 = .ok (.dup, 1) := by decide +kernel
theorem dX4_takes_19 : decode cX4_takes 19 = .ok (.getfield 19, 3) := by decide +kernel
theorem dX4_takes_22 : decode cX4_takes 22 = .ok (.iconst 1, 1) := by decide +kernel
theorem dX4_takes_23 : decode cX4_takes 23 = .ok (.iadd, 1) := by decide +kernel
theorem dX4_takes_24 : decode cX4_takes 24 = .ok (.putfield 19, 3) := by decide +kernel
theorem dX4_takes_27 : decode cX4_takes 27 = .ok (.iconst 1, 1) := by decide +kernel
theorem dX4_takes_28 : decode cX4_takes 28 = .ok (.ireturn, 1) := by decide +kernel
theorem dX4_comingLetter_0 : decode cX4_comingLetter 0 = .ok (.aload_n 0, 1) := by decide +kernel
theorem dX4_comingLetter_1 : decode cX4_comingLetter 1 = .ok (.getfield 19, 3) := by decide +kernel
theorem dX4_comingLetter_4 : decode cX4_comingLetter 4 = .ok (.aload_n 0, 1) := by decide +kernel
theorem dX4_comingLetter_5 : decode cX4_comingLetter 5 = .ok (.getfield 15, 3) := by decide +kernel
theorem dX4_comingLetter_8 : decode cX4_comingLetter 8 = .ok (.if_icmp .ge 30, 3) := by decide +kernel
theorem dX4_comingLetter_11 : decode cX4_comingLetter 11 = .ok (.aload_n 0, 1) := by decide +kernel
theorem dX4_comingLetter_12 : decode cX4_comingLetter 12 = .ok (.getfield 9, 3) := by decide +kernel
theorem dX4_comingLetter_15 : decode cX4_comingLetter 15 = .ok (.aload_n 0, 1) := by decide +kernel
theorem dX4_comingLetter_16 : decode cX4_comingLetter 16 = .ok (.getfield 19, 3) := by decide +kernel
theorem dX4_comingLetter_19 : decode cX4_comingLetter 19 = .ok (.caload, 1) := by decide +kernel
theorem dX4_comingLetter_20 : decode cX4_comingLetter 20 = .ok (.bipush 32, 2) := by decide +kernel
theorem dX4_comingLetter_22 : decode cX4_comingLetter 22 = .ok (.if_icmp .ne 16, 3) := by decide +kernel
theorem dX4_comingLetter_25 : decode cX4_comingLetter 25 = .ok (.aload_n 0, 1) := by decide +kernel
theorem dX4_comingLetter_26 : decode cX4_comingLetter 26 = .ok (.dup, 1) := by decide +kernel
theorem dX4_comingLetter_27 : decode cX4_comingLetter 27 = .ok (.getfield 19, 3) := by decide +kernel
theorem dX4_comingLetter_30 : decode cX4_comingLetter 30 = .ok (.iconst 1, 1) := by decide +kernel
theorem dX4_comingLetter_31 : decode cX4_comingLetter 31 = .ok (.iadd, 1) := by decide +kernel
theorem dX4_comingLetter_32 : decode cX4_comingLetter 32 = .ok (.putfield 19, 3) := by decide +kernel
theorem dX4_comingLetter_35 : decode cX4_comingLetter 35 = .ok (.goto (-35), 3) := by decide +kernel
theorem dX4_comingLetter_38 : decode cX4_comingLetter 38 = .ok (.aload_n 0, 1) := by decide +kernel
theorem dX4_comingLetter_39 : decode cX4_comingLetter 39 = .ok (.getfield 19, 3) := by decide +kernel
theorem dX4_comingLetter_42 : decode cX4_comingLetter 42 = .ok (.aload_n 0, 1) := by decide +kernel
theorem dX4_comingLetter_43 : decode cX4_comingLetter 43 = .ok (.getfield 15, 3) := by decide +kernel
theorem dX4_comingLetter_46 : decode cX4_comingLetter 46 = .ok (.if_icmp .ge 15, 3) := by decide +kernel
theorem dX4_comingLetter_49 : decode cX4_comingLetter 49 = .ok (.aload_n 0, 1) := by decide +kernel
theorem dX4_comingLetter_50 : decode cX4_comingLetter 50 = .ok (.getfield 9, 3) := by decide +kernel
theorem dX4_comingLetter_53 : decode cX4_comingLetter 53 = .ok (.aload_n 0, 1) := by decide +kernel
theorem dX4_comingLetter_54 : decode cX4_comingLetter 54 = .ok (.getfield 19, 3) := by decide +kernel
theorem dX4_comingLetter_57 : decode cX4_comingLetter 57 = .ok (.caload, 1) := by decide +kernel
theorem dX4_comingLetter_58 : decode cX4_comingLetter 58 = .ok (.goto 4, 3) := by decide +kernel
theorem dX4_comingLetter_61 : decode cX4_comingLetter 61 = .ok (.iconst 0, 1) := by decide +kernel
theorem dX4_comingLetter_62 : decode cX4_comingLetter 62 = .ok (.ireturn, 1) := by decide +kernel
theorem dX4_faultAt_0 : decode cX4_faultAt 0 = .ok (.aload_n 0, 1) := by decide +kernel
theorem dX4_faultAt_1 : decode cX4_faultAt 1 = .ok (.getfield 22, 3) := by decide +kernel
theorem dX4_faultAt_4 : decode cX4_faultAt 4 = .ok (.ifCond .ne 11, 3) := by decide +kernel
theorem dX4_faultAt_7 : decode cX4_faultAt 7 = .ok (.aload_n 0, 1) := by decide +kernel
theorem dX4_faultAt_8 : decode cX4_faultAt 8 = .ok (.bipush (-20), 2) := by decide +kernel
theorem dX4_faultAt_10 : decode cX4_faultAt 10 = .ok (.iload_n 1, 1) := by decide +kernel
theorem dX4_faultAt_11 : decode cX4_faultAt 11 = .ok (.isub, 1) := by decide +kernel
theorem dX4_faultAt_12 : decode cX4_faultAt 12 = .ok (.putfield 22, 3) := by decide +kernel
theorem dX4_faultAt_15 : decode cX4_faultAt 15 = .ok (.return_, 1) := by decide +kernel
theorem dX4_isDigit_0 : decode cX4_isDigit 0 = .ok (.iload_n 0, 1) := by decide +kernel
theorem dX4_isDigit_1 : decode cX4_isDigit 1 = .ok (.bipush 48, 2) := by decide +kernel
theorem dX4_isDigit_3 : decode cX4_isDigit 3 = .ok (.if_icmp .lt 13, 3) := by decide +kernel
theorem dX4_isDigit_6 : decode cX4_isDigit 6 = .ok (.iload_n 0, 1) := by decide +kernel
theorem dX4_isDigit_7 : decode cX4_isDigit 7 = .ok (.bipush 57, 2) := by decide +kernel
theorem dX4_isDigit_9 : decode cX4_isDigit 9 = .ok (.if_icmp .gt 7, 3) := by decide +kernel
theorem dX4_isDigit_12 : decode cX4_isDigit 12 = .ok (.iconst 1, 1) := by decide +kernel
theorem dX4_isDigit_13 : decode cX4_isDigit 13 = .ok (.goto 4, 3) := by decide +kernel
theorem dX4_isDigit_16 : decode cX4_isDigit 16 = .ok (.iconst 0, 1) := by decide +kernel
theorem dX4_isDigit_17 : decode cX4_isDigit 17 = .ok (.ireturn, 1) := by decide +kernel
theorem dX5_init_0 : decode cX5_init 0 = .ok (.aload_n 0, 1) := by decide +kernel
theorem dX5_init_1 : decode cX5_init 1 = .ok (.invokespecial 3, 3) := by decide +kernel
theorem dX5_init_4 : decode cX5_init 4 = .ok (.aload_n 0, 1) := by decide +kernel
theorem dX5_init_5 : decode cX5_init 5 = .ok (.bipush 6, 2) := by decide +kernel
theorem dX5_init_7 : decode cX5_init 7 = .ok (.newarray .int, 2) := by decide +kernel
theorem dX5_init_9 : decode cX5_init 9 = .ok (.putfield 9, 3) := by decide +kernel
theorem dX5_init_12 : decode cX5_init 12 = .ok (.aload_n 0, 1) := by decide +kernel
theorem dX5_init_13 : decode cX5_init 13 = .ok (.bipush 6, 2) := by decide +kernel
theorem dX5_init_15 : decode cX5_init 15 = .ok (.newarray .int, 2) := by decide +kernel
theorem dX5_init_17 : decode cX5_init 17 = .ok (.putfield 15, 3) := by decide +kernel
theorem dX5_init_20 : decode cX5_init 20 = .ok (.aload_n 0, 1) := by decide +kernel
theorem dX5_init_21 : decode cX5_init 21 = .ok (.bipush 6, 2) := by decide +kernel
theorem dX5_init_23 : decode cX5_init 23 = .ok (.newarray .int, 2) := by decide +kernel
theorem dX5_init_25 : decode cX5_init 25 = .ok (.putfield 18, 3) := by decide +kernel
theorem dX5_init_28 : decode cX5_init 28 = .ok (.aload_n 0, 1) := by decide +kernel
theorem dX5_init_29 : decode cX5_init 29 = .ok (.bipush 6, 2) := by decide +kernel
theorem dX5_init_31 : decode cX5_init 31 = .ok (.newarray .int, 2) := by decide +kernel
theorem dX5_init_33 : decode cX5_init 33 = .ok (.putfield 21, 3) := by decide +kernel
theorem dX5_init_36 : decode cX5_init 36 = .ok (.aload_n 0, 1) := by decide +kernel
theorem dX5_init_37 : decode cX5_init 37 = .ok (.bipush 6, 2) := by decide +kernel
theorem dX5_init_39 : decode cX5_init 39 = .ok (.newarray .int, 2) := by decide +kernel
theorem dX5_init_41 : decode cX5_init 41 = .ok (.putfield 24, 3) := by decide +kernel
theorem dX5_init_44 : decode cX5_init 44 = .ok (.aload_n 0, 1) := by decide +kernel
theorem dX5_init_45 : decode cX5_init 45 = .ok (.iconst 0, 1) := by decide +kernel
theorem dX5_init_46 : decode cX5_init 46 = .ok (.putfield 27, 3) := by decide +kernel
theorem dX5_init_49 : decode cX5_init 49 = .ok (.aload_n 0, 1) := by decide +kernel
theorem dX5_init_50 : decode cX5_init 50 = .ok (.iconst 0, 1) := by decide +kernel
theorem dX5_init_51 : decode cX5_init 51 = .ok (.putfield 31, 3) := by decide +kernel
theorem dX5_init_54 : decode cX5_init 54 = .ok (.aload_n 0, 1) := by decide +kernel
theorem dX5_init_55 : decode cX5_init 55 = .ok (.iconst 1, 1) := by decide +kernel
theorem dX5_init_56 : decode cX5_init 56 = .ok (.putfield 34, 3) := by decide +kernel
theorem dX5_init_59 : decode cX5_init 59 = .ok (.return_, 1) := by decide +kernel
theorem dX5_becomeLike_0 : decode cX5_becomeLike 0 = .ok (.aload_n 1, 1) := by decide +kernel
theorem dX5_becomeLike_1 : decode cX5_becomeLike 1 = .ok (.getfield 9, 3) := by decide +kernel
theorem dX5_becomeLike_4 : decode cX5_becomeLike 4 = .ok (.iconst 0, 1) := by decide +kernel
theorem dX5_becomeLike_5 : decode cX5_becomeLike 5 = .ok (.aload_n 0, 1) := by decide +kernel
theorem dX5_becomeLike_6 : decode cX5_becomeLike 6 = .ok (.getfield 9, 3) := by decide +kernel
theorem dX5_becomeLike_9 : decode cX5_becomeLike 9 = .ok (.iconst 0, 1) := by decide +kernel
theorem dX5_becomeLike_10 : decode cX5_becomeLike 10 = .ok (.bipush 6, 2) := by decide +kernel
theorem dX5_becomeLike_12 : decode cX5_becomeLike 12 = .ok (.invokestatic 37, 3) := by decide +kernel
theorem dX5_becomeLike_15 : decode cX5_becomeLike 15 = .ok (.aload_n 1, 1) := by decide +kernel
theorem dX5_becomeLike_16 : decode cX5_becomeLike 16 = .ok (.getfield 15, 3) := by decide +kernel
theorem dX5_becomeLike_19 : decode cX5_becomeLike 19 = .ok (.iconst 0, 1) := by decide +kernel
theorem dX5_becomeLike_20 : decode cX5_becomeLike 20 = .ok (.aload_n 0, 1) := by decide +kernel
theorem dX5_becomeLike_21 : decode cX5_becomeLike 21 = .ok (.getfield 15, 3) := by decide +kernel
theorem dX5_becomeLike_24 : decode cX5_becomeLike 24 = .ok (.iconst 0, 1) := by decide +kernel
theorem dX5_becomeLike_25 : decode cX5_becomeLike 25 = .ok (.bipush 6, 2) := by decide +kernel
theorem dX5_becomeLike_27 : decode cX5_becomeLike 27 = .ok (.invokestatic 37, 3) := by decide +kernel
theorem dX5_becomeLike_30 : decode cX5_becomeLike 30 = .ok (.aload_n 1, 1) := by decide +kernel
theorem dX5_becomeLike_31 : decode cX5_becomeLike 31 = .ok (.getfield 18, 3) := by decide +kernel
theorem dX5_becomeLike_34 : decode cX5_becomeLike 34 = .ok (.iconst 0, 1) := by decide +kernel
theorem dX5_becomeLike_35 : decode cX5_becomeLike 35 = .ok (.aload_n 0, 1) := by decide +kernel
theorem dX5_becomeLike_36 : decode cX5_becomeLike 36 = .ok (.getfield 18, 3) := by decide +kernel
theorem dX5_becomeLike_39 : decode cX5_becomeLike 39 = .ok (.iconst 0, 1) := by decide +kernel
theorem dX5_becomeLike_40 : decode cX5_becomeLike 40 = .ok (.bipush 6, 2) := by decide +kernel
theorem dX5_becomeLike_42 : decode cX5_becomeLike 42 = .ok (.invokestatic 37, 3) := by decide +kernel
theorem dX5_becomeLike_45 : decode cX5_becomeLike 45 = .ok (.aload_n 1, 1) := by decide +kernel
theorem dX5_becomeLike_46 : decode cX5_becomeLike 46 = .ok (.getfield 21, 3) := by decide +kernel
theorem dX5_becomeLike_49 : decode cX5_becomeLike 49 = .ok (.iconst 0, 1) := by decide +kernel
theorem dX5_becomeLike_50 : decode cX5_becomeLike 50 = .ok (.aload_n 0, 1) := by decide +kernel
theorem dX5_becomeLike_51 : decode cX5_becomeLike 51 = .ok (.getfield 21, 3) := by decide +kernel
theorem dX5_becomeLike_54 : decode cX5_becomeLike 54 = .ok (.iconst 0, 1) := by decide +kernel
theorem dX5_becomeLike_55 : decode cX5_becomeLike 55 = .ok (.bipush 6, 2) := by decide +kernel
theorem dX5_becomeLike_57 : decode cX5_becomeLike 57 = .ok (.invokestatic 37, 3) := by decide +kernel
theorem dX5_becomeLike_60 : decode cX5_becomeLike 60 = .ok (.aload_n 0, 1) := by decide +kernel
theorem dX5_becomeLike_61 : decode cX5_becomeLike 61 = .ok (.aload_n 1, 1) := by decide +kernel
theorem dX5_becomeLike_62 : decode cX5_becomeLike 62 = .ok (.getfield 27, 3) := by decide +kernel
theorem dX5_becomeLike_65 : decode cX5_becomeLike 65 = .ok (.putfield 27, 3) := by decide +kernel
theorem dX5_becomeLike_68 : decode cX5_becomeLike 68 = .ok (.aload_n 0, 1) := by decide +kernel
theorem dX5_becomeLike_69 : decode cX5_becomeLike 69 = .ok (.aload_n 1, 1) := by decide +kernel
theorem dX5_becomeLike_70 : decode cX5_becomeLike 70 = .ok (.getfield 31, 3) := by decide +kernel
theorem dX5_becomeLike_73 : decode cX5_becomeLike 73 = .ok (.putfield 31, 3) := by decide +kernel
theorem dX5_becomeLike_76 : decode cX5_becomeLike 76 = .ok (.aload_n 0, 1) := by decide +kernel
theorem dX5_becomeLike_77 : decode cX5_becomeLike 77 = .ok (.aload_n 1, 1) := by decide +kernel
theorem dX5_becomeLike_78 : decode cX5_becomeLike 78 = .ok (.getfield 34, 3) := by decide +kernel
theorem dX5_becomeLike_81 : decode cX5_becomeLike 81 = .ok (.putfield 34, 3) := by decide +kernel
theorem dX5_becomeLike_84 : decode cX5_becomeLike 84 = .ok (.return_, 1) := by decide +kernel
theorem dX5_clear_0 : decode cX5_clear 0 = .ok (.aload_n 0, 1) := by decide +kernel
theorem dX5_clear_1 : decode cX5_clear 1 = .ok (.iconst 0, 1) := by decide +kernel
theorem dX5_clear_2 : decode cX5_clear 2 = .ok (.putfield 27, 3) := by decide +kernel
theorem dX5_clear_5 : decode cX5_clear 5 = .ok (.aload_n 0, 1) := by decide +kernel
theorem dX5_clear_6 : decode cX5_clear 6 = .ok (.iconst 0, 1) := by decide +kernel
theorem dX5_clear_7 : decode cX5_clear 7 = .ok (.putfield 31, 3) := by decide +kernel
theorem dX5_clear_10 : decode cX5_clear 10 = .ok (.return_, 1) := by decide +kernel
theorem dX5_build_0 : decode cX5_build 0 = .ok (.aload_n 0, 1) := by decide +kernel
theorem dX5_build_1 : decode cX5_build 1 = .ok (.getfield 27, 3) := by decide +kernel
theorem dX5_build_4 : decode cX5_build 4 = .ok (.bipush 6, 2) := by decide +kernel
theorem dX5_build_6 : decode cX5_build 6 = .ok (.if_icmp .ge 54, 3) := by decide +kernel
theorem dX5_build_9 : decode cX5_build 9 = .ok (.aload_n 0, 1) := by decide +kernel
theorem dX5_build_10 : decode cX5_build 10 = .ok (.getfield 9, 3) := by decide +kernel
theorem dX5_build_13 : decode cX5_build 13 = .ok (.aload_n 0, 1) := by decide +kernel
theorem dX5_build_14 : decode cX5_build 14 = .ok (.getfield 27, 3) := by decide +kernel
theorem dX5_build_17 : decode cX5_build 17 = .ok (.iload_n 1, 1) := by decide +kernel
theorem dX5_build_18 : decode cX5_build 18 = .ok (.iastore, 1) := by decide +kernel
theorem dX5_build_19 : decode cX5_build 19 = .ok (.aload_n 0, 1) := by decide +kernel
theorem dX5_build_20 : decode cX5_build 20 = .ok (.getfield 15, 3) := by decide +kernel
theorem dX5_build_23 : decode cX5_build 23 = .ok (.aload_n 0, 1) := by decide +kernel
theorem dX5_build_24 : decode cX5_build 24 = .ok (.getfield 27, 3) := by decide +kernel
theorem dX5_build_27 : decode cX5_build 27 = .ok (.iload_n 2, 1) := by decide +kernel
theorem dX5_build_28 : decode cX5_build 28 = .ok (.iastore, 1) := by decide +kernel
theorem dX5_build_29 : decode cX5_build 29 = .ok (.aload_n 0, 1) := by decide +kernel
theorem dX5_build_30 : decode cX5_build 30 = .ok (.getfield 18, 3) := by decide +kernel
theorem dX5_build_33 : decode cX5_build 33 = .ok (.aload_n 0, 1) := by decide +kernel
theorem dX5_build_34 : decode cX5_build 34 = .ok (.getfield 27, 3) := by decide +kernel
theorem dX5_build_37 : decode cX5_build 37 = .ok (.iload_n 3, 1) := by decide +kernel
theorem dX5_build_38 : decode cX5_build 38 = .ok (.iastore, 1) := by decide +kernel
theorem dX5_build_39 : decode cX5_build 39 = .ok (.aload_n 0, 1) := by decide +kernel
theorem dX5_build_40 : decode cX5_build 40 = .ok (.getfield 21, 3) := by decide +kernel
theorem dX5_build_43 : decode cX5_build 43 = .ok (.aload_n 0, 1) := by decide +kernel
theorem dX5_build_44 : decode cX5_build 44 = .ok (.getfield 27, 3) := by decide +kernel
theorem dX5_build_47 : decode cX5_build 47 = .ok (.iload 4, 2) := by decide +kernel
theorem dX5_build_49 : decode cX5_build 49 = .ok (.iastore, 1) := by decide +kernel
theorem dX5_build_50 : decode cX5_build 50 = .ok (.aload_n 0, 1) := by decide +kernel
theorem dX5_build_51 : decode cX5_build 51 = .ok (.dup, 1) := by decide +kernel
theorem dX5_build_52 : decode cX5_build 52 = .ok (.getfield 27, 3) := by decide +kernel
theorem dX5_build_55 : decode cX5_build 55 = .ok (.iconst 1, 1) := by decide +kernel
theorem dX5_build_56 : decode cX5_build 56 = .ok (.iadd, 1) := by decide +kernel
theorem dX5_build_57 : decode cX5_build 57 = .ok (.putfield 27, 3) := by decide +kernel
theorem dX5_build_60 : decode cX5_build 60 = .ok (.return_, 1) := by decide +kernel
theorem dX5_has_0 : decode cX5_has 0 = .ok (.iload_n 1, 1) := by decide +kernel
theorem dX5_has_1 : decode cX5_has 1 = .ok (.ifCond .lt 15, 3) := by decide +kernel
theorem dX5_has_4 : decode cX5_has 4 = .ok (.iload_n 1, 1) := by decide +kernel
theorem dX5_has_5 : decode cX5_has 5 = .ok (.aload_n 0, 1) := by decide +kernel
theorem dX5_has_6 : decode cX5_has 6 = .ok (.getfield 27, 3) := by decide +kernel
theorem dX5_has_9 : decode cX5_has 9 = .ok (.if_icmp .ge 7, 3) := by decide +kernel
theorem dX5_has_12 : decode cX5_has 12 = .ok (.iconst 1, 1) := by decide +kernel
theorem dX5_has_13 : decode cX5_has 13 = .ok (.goto 4, 3) := by decide +kernel
theorem dX5_has_16 : decode cX5_has 16 = .ok (.iconst 0, 1) := by decide +kernel
theorem dX5_has_17 : decode cX5_has 17 = .ok (.ireturn, 1) := by decide +kernel
theorem dX5_hasBoth_0 : decode cX5_hasBoth 0 = .ok (.aload_n 0, 1) := by decide +kernel
theorem dX5_hasBoth_1 : decode cX5_hasBoth 1 = .ok (.iload_n 1, 1) := by decide +kernel
theorem dX5_hasBoth_2 : decode cX5_hasBoth 2 = .ok (.invokevirtual 43, 3) := by decide +kernel
theorem dX5_hasBoth_5 : decode cX5_hasBoth 5 = .ok (.ifCond .eq 20, 3) := by decide +kernel
theorem dX5_hasBoth_8 : decode cX5_hasBoth 8 = .ok (.aload_n 0, 1) := by decide +kernel
theorem dX5_hasBoth_9 : decode cX5_hasBoth 9 = .ok (.iload_n 2, 1) := by decide +kernel
theorem dX5_hasBoth_10 : decode cX5_hasBoth 10 = .ok (.invokevirtual 43, 3) := by decide +kernel
theorem dX5_hasBoth_13 : decode cX5_hasBoth 13 = .ok (.ifCond .eq 12, 3) := by decide +kernel
theorem dX5_hasBoth_16 : decode cX5_hasBoth 16 = .ok (.iload_n 1, 1) := by decide +kernel
theorem dX5_hasBoth_17 : decode cX5_hasBoth 17 = .ok (.iload_n 2, 1) := by decide +kernel
theorem dX5_hasBoth_18 : decode cX5_hasBoth 18 = .ok (.if_icmp .eq 7, 3) := by decide +kernel
theorem dX5_hasBoth_21 : decode cX5_hasBoth 21 = .ok (.iconst 1, 1) := by decide +kernel
theorem dX5_hasBoth_22 : decode cX5_hasBoth 22 = .ok (.goto 4, 3) := by decide +kernel
theorem dX5_hasBoth_25 : decode cX5_hasBoth 25 = .ok (.iconst 0, 1) := by decide +kernel
theorem dX5_hasBoth_26 : decode cX5_hasBoth 26 = .ok (.ireturn, 1) := by decide +kernel
theorem dX5_gapBetween_0 : decode cX5_gapBetween 0 = .ok (.aload_n 0, 1) := by decide +kernel
theorem dX5_gapBetween_1 : decode cX5_gapBetween 1 = .ok (.getfield 15, 3) := by decide +kernel
theorem dX5_gapBetween_4 : decode cX5_gapBetween 4 = .ok (.iload_n 1, 1) := by decide +kernel
theorem dX5_gapBetween_5 : decode cX5_gapBetween 5 = .ok (.iaload, 1) := by decide +kernel
theorem dX5_gapBetween_6 : decode cX5_gapBetween 6 = .ok (.aload_n 0, 1) := by decide +kernel
theorem dX5_gapBetween_7 : decode cX5_gapBetween 7 = .ok (.getfield 15, 3) := by decide +kernel
theorem dX5_gapBetween_10 : decode cX5_gapBetween 10 = .ok (.iload_n 2, 1) := by decide +kernel
theorem dX5_gapBetween_11 : decode cX5_gapBetween 11 = .ok (.iaload, 1) := by decide +kernel
theorem dX5_gapBetween_12 : decode cX5_gapBetween 12 = .ok (.invokestatic 47, 3) := by decide +kernel
theorem dX5_gapBetween_15 : decode cX5_gapBetween 15 = .ok (.ireturn, 1) := by decide +kernel
theorem dX5_leastGap_0 : decode cX5_leastGap 0 = .ok (.bipush 30, 2) := by decide +kernel
theorem dX5_leastGap_2 : decode cX5_leastGap 2 = .ok (.istore_n 1, 1) := by decide +kernel
theorem dX5_leastGap_3 : decode cX5_leastGap 3 = .ok (.iconst 1, 1) := by decide +kernel
theorem dX5_leastGap_4 : decode cX5_leastGap 4 = .ok (.istore_n 2, 1) := by decide +kernel
theorem dX5_leastGap_5 : decode cX5_leastGap 5 = .ok (.iload_n 2, 1) := by decide +kernel
theorem dX5_leastGap_6 : decode cX5_leastGap 6 = .ok (.aload_n 0, 1) := by decide +kernel
theorem dX5_leastGap_7 : decode cX5_leastGap 7 = .ok (.getfield 27, 3) := by decide +kernel
theorem dX5_leastGap_10 : decode cX5_leastGap 10 = .ok (.if_icmp .ge 33, 3) := by decide +kernel
theorem dX5_leastGap_13 : decode cX5_leastGap 13 = .ok (.iconst 0, 1) := by decide +kernel
theorem dX5_leastGap_14 : decode cX5_leastGap 14 = .ok (.istore_n 3, 1) := by decide +kernel
theorem dX5_leastGap_15 : decode cX5_leastGap 15 = .ok (.iload_n 3, 1) := by decide +kernel
theorem dX5_leastGap_16 : decode cX5_leastGap 16 = .ok (.iload_n 2, 1) := by decide +kernel
theorem dX5_leastGap_17 : decode cX5_leastGap 17 = .ok (.if_icmp .ge 20, 3) := by decide +kernel
theorem dX5_leastGap_20 : decode cX5_leastGap 20 = .ok (.iload_n 1, 1) := by decide +kernel
theorem dX5_leastGap_21 : decode cX5_leastGap 21 = .ok (.aload_n 0, 1) := by decide +kernel
theorem dX5_leastGap_22 : decode cX5_leastGap 22 = .ok (.iload_n 2, 1) := by decide +kernel
theorem dX5_leastGap_23 : decode cX5_leastGap 23 = .ok (.iload_n 3, 1) := by decide +kernel
theorem dX5_leastGap_24 : decode cX5_leastGap 24 = .ok (.invokevirtual 51, 3) := by decide +kernel
theorem dX5_leastGap_27 : decode cX5_leastGap 27 = .ok (.invokestatic 54, 3) := by decide +kernel
theorem dX5_leastGap_30 : decode cX5_leastGap 30 = .ok (.istore_n 1, 1) := by decide +kernel
theorem dX5_leastGap_31 : decode cX5_leastGap 31 = .ok (.iinc 3 1, 3) := by decide +kernel
theorem dX5_leastGap_34 : decode cX5_leastGap 34 = .ok (.goto (-19), 3) := by decide +kernel
theorem dX5_leastGap_37 : decode cX5_leastGap 37 = .ok (.iinc 2 1, 3) := by decide +kernel
theorem dX5_leastGap_40 : decode cX5_leastGap 40 = .ok (.goto (-35), 3) := by decide +kernel
theorem dX5_leastGap_43 : decode cX5_leastGap 43 = .ok (.iload_n 1, 1) := by decide +kernel
theorem dX5_leastGap_44 : decode cX5_leastGap 44 = .ok (.ireturn, 1) := by decide +kernel
theorem dX5_ringersWith_0 : decode cX5_ringersWith 0 = .ok (.iconst 0, 1) := by decide +kernel
theorem dX5_ringersWith_1 : decode cX5_ringersWith 1 = .ok (.istore_n 2, 1) := by decide +kernel
theorem dX5_ringersWith_2 : decode cX5_ringersWith 2 = .ok (.iconst 0, 1) := by decide +kernel
theorem dX5_ringersWith_3 : decode cX5_ringersWith 3 = .ok (.istore_n 3, 1) := by decide +kernel
theorem dX5_ringersWith_4 : decode cX5_ringersWith 4 = .ok (.iload_n 3, 1) := by decide +kernel
theorem dX5_ringersWith_5 : decode cX5_ringersWith 5 = .ok (.aload_n 0, 1) := by decide +kernel
theorem dX5_ringersWith_6 : decode cX5_ringersWith 6 = .ok (.getfield 27, 3) := by decide +kernel
theorem dX5_ringersWith_9 : decode cX5_ringersWith 9 = .ok (.if_icmp .ge 35, 3) := by decide +kernel
theorem dX5_ringersWith_12 : decode cX5_ringersWith 12 = .ok (.iload_n 3, 1) := by decide +kernel
theorem dX5_ringersWith_13 : decode cX5_ringersWith 13 = .ok (.iload_n 1, 1) := by decide +kernel
theorem dX5_ringersWith_14 : decode cX5_ringersWith 14 = .ok (.if_icmp .eq 24, 3) := by decide +kernel
theorem dX5_ringersWith_17 : decode cX5_ringersWith 17 = .ok (.aload_n 0, 1) := by decide +kernel
theorem dX5_ringersWith_18 : decode cX5_ringersWith 18 = .ok (.getfield 15, 3) := by decide +kernel
theorem dX5_ringersWith_21 : decode cX5_ringersWith 21 = .ok (.iload_n 3, 1) := by decide +kernel
theorem dX5_ringersWith_22 : decode cX5_ringersWith 22 = .ok (.iaload, 1) := by decide +kernel
theorem dX5_ringersWith_23 : decode cX5_ringersWith 23 = .ok (.aload_n 0, 1) := by decide +kernel
theorem dX5_ringersWith_24 : decode cX5_ringersWith 24 = .ok (.getfield 15, 3) := by decide +kernel
theorem dX5_ringersWith_27 : decode cX5_ringersWith 27 = .ok (.iload_n 1, 1) := by decide +kernel
theorem dX5_ringersWith_28 : decode cX5_ringersWith 28 = .ok (.iaload, 1) := by decide +kernel
theorem dX5_ringersWith_29 : decode cX5_ringersWith 29 = .ok (.if_icmp .ne 9, 3) := by decide +kernel
theorem dX5_ringersWith_32 : decode cX5_ringersWith 32 = .ok (.iload_n 2, 1) := by decide +kernel
theorem dX5_ringersWith_33 : decode cX5_ringersWith 33 = .ok (.iconst 1, 1) := by decide +kernel
theorem dX5_ringersWith_34 : decode cX5_ringersWith 34 = .ok (.iload_n 3, 1) := by decide +kernel
theorem dX5_ringersWith_35 : decode cX5_ringersWith 35 = .ok (.ishl, 1) := by decide +kernel
theorem dX5_ringersWith_36 : decode cX5_ringersWith 36 = .ok (.ior, 1) := by decide +kernel
theorem dX5_ringersWith_37 : decode cX5_ringersWith 37 = .ok (.istore_n 2, 1) := by decide +kernel
theorem dX5_ringersWith_38 : decode cX5_ringersWith 38 = .ok (.iinc 3 1, 3) := by decide +kernel
theorem dX5_ringersWith_41 : decode cX5_ringersWith 41 = .ok (.goto (-37), 3) := by decide +kernel
theorem dX5_ringersWith_44 : decode cX5_ringersWith 44 = .ok (.iload_n 2, 1) := by decide +kernel
theorem dX5_ringersWith_45 : decode cX5_ringersWith 45 = .ok (.ireturn, 1) := by decide +kernel
theorem dX5_ringers_0 : decode cX5_ringers 0 = .ok (.iconst 0, 1) := by decide +kernel
theorem dX5_ringers_1 : decode cX5_ringers 1 = .ok (.istore_n 1, 1) := by decide +kernel
theorem dX5_ringers_2 : decode cX5_ringers 2 = .ok (.iconst 0, 1) := by decide +kernel
theorem dX5_ringers_3 : decode cX5_ringers 3 = .ok (.istore_n 2, 1) := by decide +kernel
theorem dX5_ringers_4 : decode cX5_ringers 4 = .ok (.iload_n 2, 1) := by decide +kernel
theorem dX5_ringers_5 : decode cX5_ringers 5 = .ok (.aload_n 0, 1) := by decide +kernel
theorem dX5_ringers_6 : decode cX5_ringers 6 = .ok (.getfield 27, 3) := by decide +kernel
theorem dX5_ringers_9 : decode cX5_ringers 9 = .ok (.if_icmp .ge 17, 3) := by decide +kernel
theorem dX5_ringers_12 : decode cX5_ringers 12 = .ok (.iload_n 1, 1) := by decide +kernel
theorem dX5_ringers_13 : decode cX5_ringers 13 = .ok (.aload_n 0, 1) := by decide +kernel
theorem dX5_ringers_14 : decode cX5_ringers 14 = .ok (.iload_n 2, 1) := by decide +kernel
theorem dX5_ringers_15 : decode cX5_ringers 15 = .ok (.invokevirtual 59, 3) := by decide +kernel
theorem dX5_ringers_18 : decode cX5_ringers 18 = .ok (.ior, 1) := by decide +kernel
theorem dX5_ringers_19 : decode cX5_ringers 19 = .ok (.istore_n 1, 1) := by decide +kernel
theorem dX5_ringers_20 : decode cX5_ringers 20 = .ok (.iinc 2 1, 3) := by decide +kernel
theorem dX5_ringers_23 : decode cX5_ringers 23 = .ok (.goto (-19), 3) := by decide +kernel
theorem dX5_ringers_26 : decode cX5_ringers 26 = .ok (.iload_n 1, 1) := by decide +kernel
theorem dX5_ringers_27 : decode cX5_ringers 27 = .ok (.ireturn, 1) := by decide +kernel
theorem dX5_sumOf_0 : decode cX5_sumOf 0 = .ok (.iconst 0, 1) := by decide +kernel
theorem dX5_sumOf_1 : decode cX5_sumOf 1 = .ok (.istore_n 2, 1) := by decide +kernel
theorem dX5_sumOf_2 : decode cX5_sumOf 2 = .ok (.iconst 0, 1) := by decide +kernel
theorem dX5_sumOf_3 : decode cX5_sumOf 3 = .ok (.istore_n 3, 1) := by decide +kernel
theorem dX5_sumOf_4 : decode cX5_sumOf 4 = .ok (.iload_n 3, 1) := by decide +kernel
theorem dX5_sumOf_5 : decode cX5_sumOf 5 = .ok (.aload_n 0, 1) := by decide +kernel
theorem dX5_sumOf_6 : decode cX5_sumOf 6 = .ok (.getfield 27, 3) := by decide +kernel
theorem dX5_sumOf_9 : decode cX5_sumOf 9 = .ok (.if_icmp .ge 15, 3) := by decide +kernel
theorem dX5_sumOf_12 : decode cX5_sumOf 12 = .ok (.iload_n 2, 1) := by decide +kernel
theorem dX5_sumOf_13 : decode cX5_sumOf 13 = .ok (.aload_n 1, 1) := by decide +kernel
theorem dX5_sumOf_14 : decode cX5_sumOf 14 = .ok (.iload_n 3, 1) := by decide +kernel
theorem dX5_sumOf_15 : decode cX5_sumOf 15 = .ok (.iaload, 1) := by decide +kernel
theorem dX5_sumOf_16 : decode cX5_sumOf 16 = .ok (.iadd, 1) := by decide +kernel
theorem dX5_sumOf_17 : decode cX5_sumOf 17 = .ok (.istore_n 2, 1) := by decide +kernel
theorem dX5_sumOf_18 : decode cX5_sumOf 18 = .ok (.iinc 3 1, 3) := by decide +kernel
theorem dX5_sumOf_21 : decode cX5_sumOf 21 = .ok (.goto (-17), 3) := by decide +kernel
theorem dX5_sumOf_24 : decode cX5_sumOf 24 = .ok (.iload_n 2, 1) := by decide +kernel
theorem dX5_sumOf_25 : decode cX5_sumOf 25 = .ok (.ireturn, 1) := by decide +kernel
theorem dX5_freeMinutes_0 : decode cX5_freeMinutes 0 = .ok (.ldc2_w 63, 3) := by decide +kernel
theorem dX5_freeMinutes_3 : decode cX5_freeMinutes 3 = .ok (.lstore_n 2, 1) := by decide +kernel
theorem dX5_freeMinutes_4 : decode cX5_freeMinutes 4 = .ok (.iconst 0, 1) := by decide +kernel
theorem dX5_freeMinutes_5 : decode cX5_freeMinutes 5 = .ok (.istore 4, 2) := by decide +kernel
theorem dX5_freeMinutes_7 : decode cX5_freeMinutes 7 = .ok (.iload 4, 2) := by decide +kernel
theorem dX5_freeMinutes_9 : decode cX5_freeMinutes 9 = .ok (.aload_n 0, 1) := by decide +kernel
theorem dX5_freeMinutes_10 : decode cX5_freeMinutes 10 = .ok (.getfield 27, 3) := by decide +kernel
theorem dX5_freeMinutes_13 : decode cX5_freeMinutes 13 = .ok (.if_icmp .ge 27, 3) := by decide +kernel
theorem dX5_freeMinutes_16 : decode cX5_freeMinutes 16 = .ok (.lload_n 2, 1) := by decide +kernel
theorem dX5_freeMinutes_17 : decode cX5_freeMinutes 17 = .ok (.aload_n 0, 1) := by decide +kernel
theorem dX5_freeMinutes_18 : decode cX5_freeMinutes 18 = .ok (.getfield 15, 3) := by decide +kernel
theorem dX5_freeMinutes_21 : decode cX5_freeMinutes 21 = .ok (.iload 4, 2) := by decide +kernel
theorem dX5_freeMinutes_23 : decode cX5_freeMinutes 23 = .ok (.iaload, 1) := by decide +kernel
theorem dX5_freeMinutes_24 : decode cX5_freeMinutes 24 = .ok (.iload_n 1, 1) := by decide +kernel
theorem dX5_freeMinutes_25 : decode cX5_freeMinutes 25 = .ok (.invokestatic 65, 3) := by decide +kernel
theorem dX5_freeMinutes_28 : decode cX5_freeMinutes 28 = .ok (.ldc2_w 69, 3) := by decide +kernel
theorem dX5_freeMinutes_31 : decode cX5_freeMinutes 31 = .ok (.lxor, 1) := by decide +kernel
theorem dX5_freeMinutes_32 : decode cX5_freeMinutes 32 = .ok (.land, 1) := by decide +kernel
theorem dX5_freeMinutes_33 : decode cX5_freeMinutes 33 = .ok (.lstore_n 2, 1) := by decide +kernel
theorem dX5_freeMinutes_34 : decode cX5_freeMinutes 34 = .ok (.iinc 4 1, 3) := by decide +kernel
theorem dX5_freeMinutes_37 : decode cX5_freeMinutes 37 = .ok (.goto (-30), 3) := by decide +kernel
theorem dX5_freeMinutes_40 : decode cX5_freeMinutes 40 = .ok (.lload_n 2, 1) := by decide +kernel
theorem dX5_freeMinutes_41 : decode cX5_freeMinutes 41 = .ok (.lreturn, 1) := by decide +kernel
theorem dX5_isApartWith_0 : decode cX5_isApartWith 0 = .ok (.lconst 0, 1) := by decide +kernel
theorem dX5_isApartWith_1 : decode cX5_isApartWith 1 = .ok (.lstore_n 2, 1) := by decide +kernel
theorem dX5_isApartWith_2 : decode cX5_isApartWith 2 = .ok (.iconst 0, 1) := by decide +kernel
theorem dX5_isApartWith_3 : decode cX5_isApartWith 3 = .ok (.istore 4, 2) := by decide +kernel
theorem dX5_isApartWith_5 : decode cX5_isApartWith 5 = .ok (.iload 4, 2) := by decide +kernel
theorem dX5_isApartWith_7 : decode cX5_isApartWith 7 = .ok (.aload_n 0, 1) := by decide +kernel
theorem dX5_isApartWith_8 : decode cX5_isApartWith 8 = .ok (.getfield 27, 3) := by decide +kernel
theorem dX5_isApartWith_11 : decode cX5_isApartWith 11 = .ok (.if_icmp .ge 62, 3) := by decide +kernel
theorem dX5_isApartWith_14 : decode cX5_isApartWith 14 = .ok (.iload_n 1, 1) := by decide +kernel
theorem dX5_isApartWith_15 : decode cX5_isApartWith 15 = .ok (.iload 4, 2) := by decide +kernel
theorem dX5_isApartWith_17 : decode cX5_isApartWith 17 = .ok (.invokestatic 71, 3) := by decide +kernel
theorem dX5_isApartWith_20 : decode cX5_isApartWith 20 = .ok (.ifCond .eq 18, 3) := by decide +kernel
theorem dX5_isApartWith_23 : decode cX5_isApartWith 23 = .ok (.aload_n 0, 1) := by decide +kernel
