theorem dX5_isApartWith_24 : decode cX5_isApartWith 24 = .ok (.getfield 15, 3) := by decide +kernel
theorem dX5_isApartWith_27 : decode cX5_isApartWith 27 = .ok (.iload 4, 2) := by decide +kernel
theorem dX5_isApartWith_29 : decode cX5_isApartWith 29 = .ok (.iaload, 1) := by decide +kernel
theorem dX5_isApartWith_30 : decode cX5_isApartWith 30 = .ok (.iconst 1, 1) := by decide +kernel
theorem dX5_isApartWith_31 : decode cX5_isApartWith 31 = .ok (.iadd, 1) := by decide +kernel
theorem dX5_isApartWith_32 : decode cX5_isApartWith 32 = .ok (.invokestatic 75, 3) := by decide +kernel
theorem dX5_isApartWith_35 : decode cX5_isApartWith 35 = .ok (.goto 10, 3) := by decide +kernel
theorem dX5_isApartWith_38 : decode cX5_isApartWith 38 = .ok (.aload_n 0, 1) := by decide +kernel
theorem dX5_isApartWith_39 : decode cX5_isApartWith 39 = .ok (.getfield 15, 3) := by decide +kernel
theorem dX5_isApartWith_42 : decode cX5_isApartWith 42 = .ok (.iload 4, 2) := by decide +kernel
theorem dX5_isApartWith_44 : decode cX5_isApartWith 44 = .ok (.iaload, 1) := by decide +kernel
theorem dX5_isApartWith_45 : decode cX5_isApartWith 45 = .ok (.istore 5, 2) := by decide +kernel
theorem dX5_isApartWith_47 : decode cX5_isApartWith 47 = .ok (.lload_n 2, 1) := by decide +kernel
theorem dX5_isApartWith_48 : decode cX5_isApartWith 48 = .ok (.iload 5, 2) := by decide +kernel
theorem dX5_isApartWith_50 : decode cX5_isApartWith 50 = .ok (.lshr, 1) := by decide +kernel
theorem dX5_isApartWith_51 : decode cX5_isApartWith 51 = .ok (.lconst 1, 1) := by decide +kernel
theorem dX5_isApartWith_52 : decode cX5_isApartWith 52 = .ok (.land, 1) := by decide +kernel
theorem dX5_isApartWith_53 : decode cX5_isApartWith 53 = .ok (.lconst 0, 1) := by decide +kernel
theorem dX5_isApartWith_54 : decode cX5_isApartWith 54 = .ok (.lcmp, 1) := by decide +kernel
theorem dX5_isApartWith_55 : decode cX5_isApartWith 55 = .ok (.ifCond .eq 5, 3) := by decide +kernel
theorem dX5_isApartWith_58 : decode cX5_isApartWith 58 = .ok (.iconst 0, 1) := by decide +kernel
theorem dX5_isApartWith_59 : decode cX5_isApartWith 59 = .ok (.ireturn, 1) := by decide +kernel
theorem dX5_isApartWith_60 : decode cX5_isApartWith 60 = .ok (.lload_n 2, 1) := by decide +kernel
theorem dX5_isApartWith_61 : decode cX5_isApartWith 61 = .ok (.lconst 1, 1) := by decide +kernel
theorem dX5_isApartWith_62 : decode cX5_isApartWith 62 = .ok (.iload 5, 2) := by decide +kernel
theorem dX5_isApartWith_64 : decode cX5_isApartWith 64 = .ok (.lshl, 1) := by decide +kernel
theorem dX5_isApartWith_65 : decode cX5_isApartWith 65 = .ok (.lor, 1) := by decide +kernel
theorem dX5_isApartWith_66 : decode cX5_isApartWith 66 = .ok (.lstore_n 2, 1) := by decide +kernel
theorem dX5_isApartWith_67 : decode cX5_isApartWith 67 = .ok (.iinc 4 1, 3) := by decide +kernel
theorem dX5_isApartWith_70 : decode cX5_isApartWith 70 = .ok (.goto (-65), 3) := by decide +kernel
theorem dX5_isApartWith_73 : decode cX5_isApartWith 73 = .ok (.iconst 1, 1) := by decide +kernel
theorem dX5_isApartWith_74 : decode cX5_isApartWith 74 = .ok (.ireturn, 1) := by decide +kernel
theorem dX5_ringsLike_0 : decode cX5_ringsLike 0 = .ok (.iconst 0, 1) := by decide +kernel
theorem dX5_ringsLike_1 : decode cX5_ringsLike 1 = .ok (.istore_n 2, 1) := by decide +kernel
theorem dX5_ringsLike_2 : decode cX5_ringsLike 2 = .ok (.iload_n 2, 1) := by decide +kernel
theorem dX5_ringsLike_3 : decode cX5_ringsLike 3 = .ok (.aload_n 0, 1) := by decide +kernel
theorem dX5_ringsLike_4 : decode cX5_ringsLike 4 = .ok (.getfield 27, 3) := by decide +kernel
theorem dX5_ringsLike_7 : decode cX5_ringsLike 7 = .ok (.if_icmp .ge 26, 3) := by decide +kernel
theorem dX5_ringsLike_10 : decode cX5_ringsLike 10 = .ok (.aload_n 0, 1) := by decide +kernel
theorem dX5_ringsLike_11 : decode cX5_ringsLike 11 = .ok (.getfield 15, 3) := by decide +kernel
theorem dX5_ringsLike_14 : decode cX5_ringsLike 14 = .ok (.iload_n 2, 1) := by decide +kernel
theorem dX5_ringsLike_15 : decode cX5_ringsLike 15 = .ok (.iaload, 1) := by decide +kernel
theorem dX5_ringsLike_16 : decode cX5_ringsLike 16 = .ok (.aload_n 1, 1) := by decide +kernel
theorem dX5_ringsLike_17 : decode cX5_ringsLike 17 = .ok (.getfield 15, 3) := by decide +kernel
theorem dX5_ringsLike_20 : decode cX5_ringsLike 20 = .ok (.iload_n 2, 1) := by decide +kernel
theorem dX5_ringsLike_21 : decode cX5_ringsLike 21 = .ok (.iaload, 1) := by decide +kernel
theorem dX5_ringsLike_22 : decode cX5_ringsLike 22 = .ok (.if_icmp .eq 5, 3) := by decide +kernel
theorem dX5_ringsLike_25 : decode cX5_ringsLike 25 = .ok (.iconst 0, 1) := by decide +kernel
theorem dX5_ringsLike_26 : decode cX5_ringsLike 26 = .ok (.ireturn, 1) := by decide +kernel
theorem dX5_ringsLike_27 : decode cX5_ringsLike 27 = .ok (.iinc 2 1, 3) := by decide +kernel
theorem dX5_ringsLike_30 : decode cX5_ringsLike 30 = .ok (.goto (-28), 3) := by decide +kernel
theorem dX5_ringsLike_33 : decode cX5_ringsLike 33 = .ok (.iconst 1, 1) := by decide +kernel
theorem dX5_ringsLike_34 : decode cX5_ringsLike 34 = .ok (.ireturn, 1) := by decide +kernel
theorem dX5_laterBy_0 : decode cX5_laterBy 0 = .ok (.aload_n 0, 1) := by decide +kernel
theorem dX5_laterBy_1 : decode cX5_laterBy 1 = .ok (.getfield 9, 3) := by decide +kernel
theorem dX5_laterBy_4 : decode cX5_laterBy 4 = .ok (.iload_n 1, 1) := by decide +kernel
theorem dX5_laterBy_5 : decode cX5_laterBy 5 = .ok (.iaload, 1) := by decide +kernel
theorem dX5_laterBy_6 : decode cX5_laterBy 6 = .ok (.tableswitch 90 0 4 #[90, 34, 40, 46, 70], 34) := by decide +kernel
theorem dX5_laterBy_40 : decode cX5_laterBy 40 = .ok (.aload_n 0, 1) := by decide +kernel
theorem dX5_laterBy_41 : decode cX5_laterBy 41 = .ok (.iload_n 1, 1) := by decide +kernel
theorem dX5_laterBy_42 : decode cX5_laterBy 42 = .ok (.invokevirtual 78, 3) := by decide +kernel
theorem dX5_laterBy_45 : decode cX5_laterBy 45 = .ok (.ireturn, 1) := by decide +kernel
theorem dX5_laterBy_46 : decode cX5_laterBy 46 = .ok (.aload_n 0, 1) := by decide +kernel
theorem dX5_laterBy_47 : decode cX5_laterBy 47 = .ok (.iload_n 1, 1) := by decide +kernel
theorem dX5_laterBy_48 : decode cX5_laterBy 48 = .ok (.invokevirtual 81, 3) := by decide +kernel
theorem dX5_laterBy_51 : decode cX5_laterBy 51 = .ok (.ireturn, 1) := by decide +kernel
theorem dX5_laterBy_52 : decode cX5_laterBy 52 = .ok (.aload_n 0, 1) := by decide +kernel
theorem dX5_laterBy_53 : decode cX5_laterBy 53 = .ok (.getfield 31, 3) := by decide +kernel
theorem dX5_laterBy_56 : decode cX5_laterBy 56 = .ok (.iconst 2, 1) := by decide +kernel
theorem dX5_laterBy_57 : decode cX5_laterBy 57 = .ok (.irem, 1) := by decide +kernel
theorem dX5_laterBy_58 : decode cX5_laterBy 58 = .ok (.ifCond .ne 11, 3) := by decide +kernel
theorem dX5_laterBy_61 : decode cX5_laterBy 61 = .ok (.aload_n 0, 1) := by decide +kernel
theorem dX5_laterBy_62 : decode cX5_laterBy 62 = .ok (.iload_n 1, 1) := by decide +kernel
theorem dX5_laterBy_63 : decode cX5_laterBy 63 = .ok (.invokevirtual 78, 3) := by decide +kernel
theorem dX5_laterBy_66 : decode cX5_laterBy 66 = .ok (.goto 9, 3) := by decide +kernel
theorem dX5_laterBy_69 : decode cX5_laterBy 69 = .ok (.aload_n 0, 1) := by decide +kernel
theorem dX5_laterBy_70 : decode cX5_laterBy 70 = .ok (.iload_n 1, 1) := by decide +kernel
theorem dX5_laterBy_71 : decode cX5_laterBy 71 = .ok (.invokevirtual 78, 3) := by decide +kernel
theorem dX5_laterBy_74 : decode cX5_laterBy 74 = .ok (.ineg, 1) := by decide +kernel
theorem dX5_laterBy_75 : decode cX5_laterBy 75 = .ok (.ireturn, 1) := by decide +kernel
theorem dX5_laterBy_76 : decode cX5_laterBy 76 = .ok (.aload_n 0, 1) := by decide +kernel
theorem dX5_laterBy_77 : decode cX5_laterBy 77 = .ok (.iload_n 1, 1) := by decide +kernel
theorem dX5_laterBy_78 : decode cX5_laterBy 78 = .ok (.invokevirtual 81, 3) := by decide +kernel
theorem dX5_laterBy_81 : decode cX5_laterBy 81 = .ok (.aload_n 0, 1) := by decide +kernel
theorem dX5_laterBy_82 : decode cX5_laterBy 82 = .ok (.iload_n 1, 1) := by decide +kernel
theorem dX5_laterBy_83 : decode cX5_laterBy 83 = .ok (.invokevirtual 84, 3) := by decide +kernel
theorem dX5_laterBy_86 : decode cX5_laterBy 86 = .ok (.ifCond .eq 7, 3) := by decide +kernel
theorem dX5_laterBy_89 : decode cX5_laterBy 89 = .ok (.iconst 1, 1) := by decide +kernel
theorem dX5_laterBy_90 : decode cX5_laterBy 90 = .ok (.goto 4, 3) := by decide +kernel
theorem dX5_laterBy_93 : decode cX5_laterBy 93 = .ok (.iconst 0, 1) := by decide +kernel
theorem dX5_laterBy_94 : decode cX5_laterBy 94 = .ok (.iadd, 1) := by decide +kernel
theorem dX5_laterBy_95 : decode cX5_laterBy 95 = .ok (.ireturn, 1) := by decide +kernel
theorem dX5_laterBy_96 : decode cX5_laterBy 96 = .ok (.aload_n 0, 1) := by decide +kernel
theorem dX5_laterBy_97 : decode cX5_laterBy 97 = .ok (.getfield 18, 3) := by decide +kernel
theorem dX5_laterBy_100 : decode cX5_laterBy 100 = .ok (.iload_n 1, 1) := by decide +kernel
theorem dX5_laterBy_101 : decode cX5_laterBy 101 = .ok (.iaload, 1) := by decide +kernel
theorem dX5_laterBy_102 : decode cX5_laterBy 102 = .ok (.ireturn, 1) := by decide +kernel
theorem dX5_slowShift_0 : decode cX5_slowShift 0 = .ok (.aload_n 0, 1) := by decide +kernel
theorem dX5_slowShift_1 : decode cX5_slowShift 1 = .ok (.getfield 18, 3) := by decide +kernel
theorem dX5_slowShift_4 : decode cX5_slowShift 4 = .ok (.iload_n 1, 1) := by decide +kernel
theorem dX5_slowShift_5 : decode cX5_slowShift 5 = .ok (.iaload, 1) := by decide +kernel
theorem dX5_slowShift_6 : decode cX5_slowShift 6 = .ok (.iconst 2, 1) := by decide +kernel
theorem dX5_slowShift_7 : decode cX5_slowShift 7 = .ok (.idiv, 1) := by decide +kernel
theorem dX5_slowShift_8 : decode cX5_slowShift 8 = .ok (.ireturn, 1) := by decide +kernel
theorem dX5_hearerShift_0 : decode cX5_hearerShift 0 = .ok (.iconst 0, 1) := by decide +kernel
theorem dX5_hearerShift_1 : decode cX5_hearerShift 1 = .ok (.istore_n 2, 1) := by decide +kernel
theorem dX5_hearerShift_2 : decode cX5_hearerShift 2 = .ok (.iload_n 2, 1) := by decide +kernel
theorem dX5_hearerShift_3 : decode cX5_hearerShift 3 = .ok (.aload_n 0, 1) := by decide +kernel
theorem dX5_hearerShift_4 : decode cX5_hearerShift 4 = .ok (.getfield 27, 3) := by decide +kernel
theorem dX5_hearerShift_7 : decode cX5_hearerShift 7 = .ok (.if_icmp .ge 35, 3) := by decide +kernel
theorem dX5_hearerShift_10 : decode cX5_hearerShift 10 = .ok (.iload_n 2, 1) := by decide +kernel
theorem dX5_hearerShift_11 : decode cX5_hearerShift 11 = .ok (.iload_n 1, 1) := by decide +kernel
theorem dX5_hearerShift_12 : decode cX5_hearerShift 12 = .ok (.if_icmp .eq 24, 3) := by decide +kernel
theorem dX5_hearerShift_15 : decode cX5_hearerShift 15 = .ok (.aload_n 0, 1) := by decide +kernel
theorem dX5_hearerShift_16 : decode cX5_hearerShift 16 = .ok (.getfield 15, 3) := by decide +kernel
theorem dX5_hearerShift_19 : decode cX5_hearerShift 19 = .ok (.iload_n 1, 1) := by decide +kernel
theorem dX5_hearerShift_20 : decode cX5_hearerShift 20 = .ok (.iaload, 1) := by decide +kernel
theorem dX5_hearerShift_21 : decode cX5_hearerShift 21 = .ok (.aload_n 0, 1) := by decide +kernel
theorem dX5_hearerShift_22 : decode cX5_hearerShift 22 = .ok (.getfield 15, 3) := by decide +kernel
theorem dX5_hearerShift_25 : decode cX5_hearerShift 25 = .ok (.iload_n 2, 1) := by decide +kernel
theorem dX5_hearerShift_26 : decode cX5_hearerShift 26 = .ok (.iaload, 1) := by decide +kernel
theorem dX5_hearerShift_27 : decode cX5_hearerShift 27 = .ok (.invokestatic 47, 3) := by decide +kernel
theorem dX5_hearerShift_30 : decode cX5_hearerShift 30 = .ok (.iconst 3, 1) := by decide +kernel
theorem dX5_hearerShift_31 : decode cX5_hearerShift 31 = .ok (.if_icmp .gt 5, 3) := by decide +kernel
theorem dX5_hearerShift_34 : decode cX5_hearerShift 34 = .ok (.iconst 0, 1) := by decide +kernel
theorem dX5_hearerShift_35 : decode cX5_hearerShift 35 = .ok (.ireturn, 1) := by decide +kernel
theorem dX5_hearerShift_36 : decode cX5_hearerShift 36 = .ok (.iinc 2 1, 3) := by decide +kernel
theorem dX5_hearerShift_39 : decode cX5_hearerShift 39 = .ok (.goto (-37), 3) := by decide +kernel
theorem dX5_hearerShift_42 : decode cX5_hearerShift 42 = .ok (.aload_n 0, 1) := by decide +kernel
theorem dX5_hearerShift_43 : decode cX5_hearerShift 43 = .ok (.getfield 18, 3) := by decide +kernel
theorem dX5_hearerShift_46 : decode cX5_hearerShift 46 = .ok (.iload_n 1, 1) := by decide +kernel
theorem dX5_hearerShift_47 : decode cX5_hearerShift 47 = .ok (.iaload, 1) := by decide +kernel
theorem dX5_hearerShift_48 : decode cX5_hearerShift 48 = .ok (.ireturn, 1) := by decide +kernel
theorem dX5_isByTheOneBefore_0 : decode cX5_isByTheOneBefore 0 = .ok (.iload_n 1, 1) := by decide +kernel
theorem dX5_isByTheOneBefore_1 : decode cX5_isByTheOneBefore 1 = .ok (.ifCond .ne 12, 3) := by decide +kernel
theorem dX5_isByTheOneBefore_4 : decode cX5_isByTheOneBefore 4 = .ok (.aload_n 0, 1) := by decide +kernel
theorem dX5_isByTheOneBefore_5 : decode cX5_isByTheOneBefore 5 = .ok (.getfield 27, 3) := by decide +kernel
theorem dX5_isByTheOneBefore_8 : decode cX5_isByTheOneBefore 8 = .ok (.iconst 1, 1) := by decide +kernel
theorem dX5_isByTheOneBefore_9 : decode cX5_isByTheOneBefore 9 = .ok (.isub, 1) := by decide +kernel
theorem dX5_isByTheOneBefore_10 : decode cX5_isByTheOneBefore 10 = .ok (.goto 6, 3) := by decide +kernel
theorem dX5_isByTheOneBefore_13 : decode cX5_isByTheOneBefore 13 = .ok (.iload_n 1, 1) := by decide +kernel
theorem dX5_isByTheOneBefore_14 : decode cX5_isByTheOneBefore 14 = .ok (.iconst 1, 1) := by decide +kernel
theorem dX5_isByTheOneBefore_15 : decode cX5_isByTheOneBefore 15 = .ok (.isub, 1) := by decide +kernel
theorem dX5_isByTheOneBefore_16 : decode cX5_isByTheOneBefore 16 = .ok (.istore_n 2, 1) := by decide +kernel
theorem dX5_isByTheOneBefore_17 : decode cX5_isByTheOneBefore 17 = .ok (.iload_n 2, 1) := by decide +kernel
theorem dX5_isByTheOneBefore_18 : decode cX5_isByTheOneBefore 18 = .ok (.iload_n 1, 1) := by decide +kernel
theorem dX5_isByTheOneBefore_19 : decode cX5_isByTheOneBefore 19 = .ok (.if_icmp .eq 28, 3) := by decide +kernel
theorem dX5_isByTheOneBefore_22 : decode cX5_isByTheOneBefore 22 = .ok (.aload_n 0, 1) := by decide +kernel
theorem dX5_isByTheOneBefore_23 : decode cX5_isByTheOneBefore 23 = .ok (.getfield 21, 3) := by decide +kernel
theorem dX5_isByTheOneBefore_26 : decode cX5_isByTheOneBefore 26 = .ok (.iload_n 1, 1) := by decide +kernel
theorem dX5_isByTheOneBefore_27 : decode cX5_isByTheOneBefore 27 = .ok (.iaload, 1) := by decide +kernel
theorem dX5_isByTheOneBefore_28 : decode cX5_isByTheOneBefore 28 = .ok (.aload_n 0, 1) := by decide +kernel
theorem dX5_isByTheOneBefore_29 : decode cX5_isByTheOneBefore 29 = .ok (.getfield 21, 3) := by decide +kernel
theorem dX5_isByTheOneBefore_32 : decode cX5_isByTheOneBefore 32 = .ok (.iload_n 2, 1) := by decide +kernel
theorem dX5_isByTheOneBefore_33 : decode cX5_isByTheOneBefore 33 = .ok (.iaload, 1) := by decide +kernel
theorem dX5_isByTheOneBefore_34 : decode cX5_isByTheOneBefore 34 = .ok (.isub, 1) := by decide +kernel
theorem dX5_isByTheOneBefore_35 : decode cX5_isByTheOneBefore 35 = .ok (.invokestatic 87, 3) := by decide +kernel
theorem dX5_isByTheOneBefore_38 : decode cX5_isByTheOneBefore 38 = .ok (.bipush 10, 2) := by decide +kernel
theorem dX5_isByTheOneBefore_40 : decode cX5_isByTheOneBefore 40 = .ok (.if_icmp .gt 7, 3) := by decide +kernel
theorem dX5_isByTheOneBefore_43 : decode cX5_isByTheOneBefore 43 = .ok (.iconst 1, 1) := by decide +kernel
theorem dX5_isByTheOneBefore_44 : decode cX5_isByTheOneBefore 44 = .ok (.goto 4, 3) := by decide +kernel
theorem dX5_isByTheOneBefore_47 : decode cX5_isByTheOneBefore 47 = .ok (.iconst 0, 1) := by decide +kernel
theorem dX5_isByTheOneBefore_48 : decode cX5_isByTheOneBefore 48 = .ok (.ireturn, 1) := by decide +kernel
theorem dX5_passDay_0 : decode cX5_passDay 0 = .ok (.iconst 0, 1) := by decide +kernel
theorem dX5_passDay_1 : decode cX5_passDay 1 = .ok (.istore_n 1, 1) := by decide +kernel
theorem dX5_passDay_2 : decode cX5_passDay 2 = .ok (.iload_n 1, 1) := by decide +kernel
theorem dX5_passDay_3 : decode cX5_passDay 3 = .ok (.aload_n 0, 1) := by decide +kernel
theorem dX5_passDay_4 : decode cX5_passDay 4 = .ok (.getfield 27, 3) := by decide +kernel
theorem dX5_passDay_7 : decode cX5_passDay 7 = .ok (.if_icmp .ge 20, 3) := by decide +kernel
theorem dX5_passDay_10 : decode cX5_passDay 10 = .ok (.aload_n 0, 1) := by decide +kernel
theorem dX5_passDay_11 : decode cX5_passDay 11 = .ok (.getfield 24, 3) := by decide +kernel
theorem dX5_passDay_14 : decode cX5_passDay 14 = .ok (.iload_n 1, 1) := by decide +kernel
theorem dX5_passDay_15 : decode cX5_passDay 15 = .ok (.aload_n 0, 1) := by decide +kernel
theorem dX5_passDay_16 : decode cX5_passDay 16 = .ok (.iload_n 1, 1) := by decide +kernel
theorem dX5_passDay_17 : decode cX5_passDay 17 = .ok (.invokevirtual 90, 3) := by decide +kernel
theorem dX5_passDay_20 : decode cX5_passDay 20 = .ok (.iastore, 1) := by decide +kernel
theorem dX5_passDay_21 : decode cX5_passDay 21 = .ok (.iinc 1 1, 3) := by decide +kernel
theorem dX5_passDay_24 : decode cX5_passDay 24 = .ok (.goto (-22), 3) := by decide +kernel
theorem dX5_passDay_27 : decode cX5_passDay 27 = .ok (.iconst 0, 1) := by decide +kernel
theorem dX5_passDay_28 : decode cX5_passDay 28 = .ok (.istore_n 1, 1) := by decide +kernel
theorem dX5_passDay_29 : decode cX5_passDay 29 = .ok (.iload_n 1, 1) := by decide +kernel
theorem dX5_passDay_30 : decode cX5_passDay 30 = .ok (.aload_n 0, 1) := by decide +kernel
theorem dX5_passDay_31 : decode cX5_passDay 31 = .ok (.getfield 27, 3) := by decide +kernel
theorem dX5_passDay_34 : decode cX5_passDay 34 = .ok (.if_icmp .ge 31, 3) := by decide +kernel
theorem dX5_passDay_37 : decode cX5_passDay 37 = .ok (.aload_n 0, 1) := by decide +kernel
theorem dX5_passDay_38 : decode cX5_passDay 38 = .ok (.getfield 15, 3) := by decide +kernel
theorem dX5_passDay_41 : decode cX5_passDay 41 = .ok (.iload_n 1, 1) := by decide +kernel
theorem dX5_passDay_42 : decode cX5_passDay 42 = .ok (.aload_n 0, 1) := by decide +kernel
theorem dX5_passDay_43 : decode cX5_passDay 43 = .ok (.getfield 15, 3) := by decide +kernel
theorem dX5_passDay_46 : decode cX5_passDay 46 = .ok (.iload_n 1, 1) := by decide +kernel
theorem dX5_passDay_47 : decode cX5_passDay 47 = .ok (.iaload, 1) := by decide +kernel
theorem dX5_passDay_48 : decode cX5_passDay 48 = .ok (.aload_n 0, 1) := by decide +kernel
theorem dX5_passDay_49 : decode cX5_passDay 49 = .ok (.getfield 24, 3) := by decide +kernel
theorem dX5_passDay_52 : decode cX5_passDay 52 = .ok (.iload_n 1, 1) := by decide +kernel
theorem dX5_passDay_53 : decode cX5_passDay 53 = .ok (.iaload, 1) := by decide +kernel
theorem dX5_passDay_54 : decode cX5_passDay 54 = .ok (.iadd, 1) := by decide +kernel
theorem dX5_passDay_55 : decode cX5_passDay 55 = .ok (.invokestatic 75, 3) := by decide +kernel
theorem dX5_passDay_58 : decode cX5_passDay 58 = .ok (.iastore, 1) := by decide +kernel
theorem dX5_passDay_59 : decode cX5_passDay 59 = .ok (.iinc 1 1, 3) := by decide +kernel
theorem dX5_passDay_62 : decode cX5_passDay 62 = .ok (.goto (-33), 3) := by decide +kernel
theorem dX5_passDay_65 : decode cX5_passDay 65 = .ok (.aload_n 0, 1) := by decide +kernel
theorem dX5_passDay_66 : decode cX5_passDay 66 = .ok (.dup, 1) := by decide +kernel
theorem dX5_passDay_67 : decode cX5_passDay 67 = .ok (.getfield 31, 3) := by decide +kernel
theorem dX5_passDay_70 : decode cX5_passDay 70 = .ok (.iconst 1, 1) := by decide +kernel
theorem dX5_passDay_71 : decode cX5_passDay 71 = .ok (.iadd, 1) := by decide +kernel
theorem dX5_passDay_72 : decode cX5_passDay 72 = .ok (.putfield 31, 3) := by decide +kernel
theorem dX5_passDay_75 : decode cX5_passDay 75 = .ok (.return_, 1) := by decide +kernel
theorem dX5_drawRinger_0 : decode cX5_drawRinger 0 = .ok (.aload_n 0, 1) := by decide +kernel
theorem dX5_drawRinger_1 : decode cX5_drawRinger 1 = .ok (.aload_n 0, 1) := by decide +kernel
theorem dX5_drawRinger_2 : decode cX5_drawRinger 2 = .ok (.getfield 34, 3) := by decide +kernel
theorem dX5_drawRinger_5 : decode cX5_drawRinger 5 = .ok (.ldc 93, 2) := by decide +kernel
theorem dX5_drawRinger_7 : decode cX5_drawRinger 7 = .ok (.imul, 1) := by decide +kernel
theorem dX5_drawRinger_8 : decode cX5_drawRinger 8 = .ok (.sipush 12345, 3) := by decide +kernel
theorem dX5_drawRinger_11 : decode cX5_drawRinger 11 = .ok (.iadd, 1) := by decide +kernel
theorem dX5_drawRinger_12 : decode cX5_drawRinger 12 = .ok (.ldc 94, 2) := by decide +kernel
theorem dX5_drawRinger_14 : decode cX5_drawRinger 14 = .ok (.iand, 1) := by decide +kernel
theorem dX5_drawRinger_15 : decode cX5_drawRinger 15 = .ok (.putfield 34, 3) := by decide +kernel
theorem dX5_drawRinger_18 : decode cX5_drawRinger 18 = .ok (.aload_n 0, 1) := by decide +kernel
theorem dX5_drawRinger_19 : decode cX5_drawRinger 19 = .ok (.getfield 27, 3) := by decide +kernel
theorem dX5_drawRinger_22 : decode cX5_drawRinger 22 = .ok (.ifCond .le 42, 3) := by decide +kernel
theorem dX5_drawRinger_25 : decode cX5_drawRinger 25 = .ok (.aload_n 0, 1) := by decide +kernel
theorem dX5_drawRinger_26 : decode cX5_drawRinger 26 = .ok (.getfield 34, 3) := by decide +kernel
theorem dX5_drawRinger_29 : decode cX5_drawRinger 29 = .ok (.ldc 95, 2) := by decide +kernel
theorem dX5_drawRinger_31 : decode cX5_drawRinger 31 = .ok (.idiv, 1) := by decide +kernel
theorem dX5_drawRinger_32 : decode cX5_drawRinger 32 = .ok (.aload_n 0, 1) := by decide +kernel
theorem dX5_drawRinger_33 : decode cX5_drawRinger 33 = .ok (.getfield 27, 3) := by decide +kernel
theorem dX5_drawRinger_36 : decode cX5_drawRinger 36 = .ok (.irem, 1) := by decide +kernel
theorem dX5_drawRinger_37 : decode cX5_drawRinger 37 = .ok (.istore_n 1, 1) := by decide +kernel
theorem dX5_drawRinger_38 : decode cX5_drawRinger 38 = .ok (.aload_n 0, 1) := by decide +kernel
theorem dX5_drawRinger_39 : decode cX5_drawRinger 39 = .ok (.getfield 15, 3) := by decide +kernel
theorem dX5_drawRinger_42 : decode cX5_drawRinger 42 = .ok (.iload_n 1, 1) := by decide +kernel
theorem dX5_drawRinger_43 : decode cX5_drawRinger 43 = .ok (.aload_n 0, 1) := by decide +kernel
theorem dX5_drawRinger_44 : decode cX5_drawRinger 44 = .ok (.getfield 15, 3) := by decide +kernel
theorem dX5_drawRinger_47 : decode cX5_drawRinger 47 = .ok (.iload_n 1, 1) := by decide +kernel
theorem dX5_drawRinger_48 : decode cX5_drawRinger 48 = .ok (.iaload, 1) := by decide +kernel
theorem dX5_drawRinger_49 : decode cX5_drawRinger 49 = .ok (.aload_n 0, 1) := by decide +kernel
theorem dX5_drawRinger_50 : decode cX5_drawRinger 50 = .ok (.getfield 34, 3) := by decide +kernel
theorem dX5_drawRinger_53 : decode cX5_drawRinger 53 = .ok (.sipush 128, 3) := by decide +kernel
theorem dX5_drawRinger_56 : decode cX5_drawRinger 56 = .ok (.idiv, 1) := by decide +kernel
theorem dX5_drawRinger_57 : decode cX5_drawRinger 57 = .ok (.iconst 5, 1) := by decide +kernel
theorem dX5_drawRinger_58 : decode cX5_drawRinger 58 = .ok (.irem, 1) := by decide +kernel
theorem dX5_drawRinger_59 : decode cX5_drawRinger 59 = .ok (.iadd, 1) := by decide +kernel
theorem dX5_drawRinger_60 : decode cX5_drawRinger 60 = .ok (.invokestatic 75, 3) := by decide +kernel
theorem dX5_drawRinger_63 : decode cX5_drawRinger 63 = .ok (.iastore, 1) := by decide +kernel
theorem dX5_drawRinger_64 : decode cX5_drawRinger 64 = .ok (.return_, 1) := by decide +kernel
theorem dX5_passDaysUntilTogether_0 : decode cX5_passDaysUntilTogether 0 = .ok (.iconst 0, 1) := by decide +kernel
theorem dX5_passDaysUntilTogether_1 : decode cX5_passDaysUntilTogether 1 = .ok (.istore_n 1, 1) := by decide +kernel
theorem dX5_passDaysUntilTogether_2 : decode cX5_passDaysUntilTogether 2 = .ok (.iload_n 1, 1) := by decide +kernel
theorem dX5_passDaysUntilTogether_3 : decode cX5_passDaysUntilTogether 3 = .ok (.bipush 60, 2) := by decide +kernel
theorem dX5_passDaysUntilTogether_5 : decode cX5_passDaysUntilTogether 5 = .ok (.if_icmp .gt 22, 3) := by decide +kernel
theorem dX5_passDaysUntilTogether_8 : decode cX5_passDaysUntilTogether 8 = .ok (.aload_n 0, 1) := by decide +kernel
theorem dX5_passDaysUntilTogether_9 : decode cX5_passDaysUntilTogether 9 = .ok (.invokevirtual 96, 3) := by decide +kernel
theorem dX5_passDaysUntilTogether_12 : decode cX5_passDaysUntilTogether 12 = .ok (.ifCond .eq 5, 3) := by decide +kernel
theorem dX5_passDaysUntilTogether_15 : decode cX5_passDaysUntilTogether 15 = .ok (.iload_n 1, 1) := by decide +kernel
theorem dX5_passDaysUntilTogether_16 : decode cX5_passDaysUntilTogether 16 = .ok (.ireturn, 1) := by decide +kernel
theorem dX5_passDaysUntilTogether_17 : decode cX5_passDaysUntilTogether 17 = .ok (.aload_n 0, 1) := by decide +kernel
theorem dX5_passDaysUntilTogether_18 : decode cX5_passDaysUntilTogether 18 = .ok (.invokevirtual 100, 3) := by decide +kernel
theorem dX5_passDaysUntilTogether_21 : decode cX5_passDaysUntilTogether 21 = .ok (.iinc 1 1, 3) := by decide +kernel
theorem dX5_passDaysUntilTogether_24 : decode cX5_passDaysUntilTogether 24 = .ok (.goto (-22), 3) := by decide +kernel
theorem dX5_passDaysUntilTogether_27 : decode cX5_passDaysUntilTogether 27 = .ok (.bipush 61, 2) := by decide +kernel
theorem dX5_passDaysUntilTogether_29 : decode cX5_passDaysUntilTogether 29 = .ok (.ireturn, 1) := by decide +kernel
theorem dX6_init_0 : decode cX6_init 0 = .ok (.aload_n 0, 1) := by decide +kernel
theorem dX6_init_1 : decode cX6_init 1 = .ok (.invokespecial 3, 3) := by decide +kernel
theorem dX6_init_4 : decode cX6_init 4 = .ok (.aload_n 0, 1) := by decide +kernel
theorem dX6_init_5 : decode cX6_init 5 = .ok (.new 9, 3) := by decide +kernel
theorem dX6_init_8 : decode cX6_init 8 = .ok (.dup, 1) := by decide +kernel
theorem dX6_init_9 : decode cX6_init 9 = .ok (.invokespecial 11, 3) := by decide +kernel
theorem dX6_init_12 : decode cX6_init 12 = .ok (.putfield 12, 3) := by decide +kernel
theorem dX6_init_15 : decode cX6_init 15 = .ok (.aload_n 0, 1) := by decide +kernel
theorem dX6_init_16 : decode cX6_init 16 = .ok (.new 16, 3) := by decide +kernel
theorem dX6_init_19 : decode cX6_init 19 = .ok (.dup, 1) := by decide +kernel
theorem dX6_init_20 : decode cX6_init 20 = .ok (.invokespecial 18, 3) := by decide +kernel
theorem dX6_init_23 : decode cX6_init 23 = .ok (.putfield 19, 3) := by decide +kernel
theorem dX6_init_26 : decode cX6_init 26 = .ok (.aload_n 0, 1) := by decide +kernel
theorem dX6_init_27 : decode cX6_init 27 = .ok (.new 9, 3) := by decide +kernel
theorem dX6_init_30 : decode cX6_init 30 = .ok (.dup, 1) := by decide +kernel
theorem dX6_init_31 : decode cX6_init 31 = .ok (.invokespecial 11, 3) := by decide +kernel
theorem dX6_init_34 : decode cX6_init 34 = .ok (.putfield 23, 3) := by decide +kernel
theorem dX6_init_37 : decode cX6_init 37 = .ok (.aload_n 0, 1) := by decide +kernel
theorem dX6_init_38 : decode cX6_init 38 = .ok (.new 16, 3) := by decide +kernel
theorem dX6_init_41 : decode cX6_init 41 = .ok (.dup, 1) := by decide +kernel
theorem dX6_init_42 : decode cX6_init 42 = .ok (.invokespecial 18, 3) := by decide +kernel
theorem dX6_init_45 : decode cX6_init 45 = .ok (.putfield 26, 3) := by decide +kernel
theorem dX6_init_48 : decode cX6_init 48 = .ok (.aload_n 0, 1) := by decide +kernel
theorem dX6_init_49 : decode cX6_init 49 = .ok (.new 9, 3) := by decide +kernel
theorem dX6_init_52 : decode cX6_init 52 = .ok (.dup, 1) := by decide +kernel
theorem dX6_init_53 : decode cX6_init 53 = .ok (.invokespecial 11, 3) := by decide +kernel
theorem dX6_init_56 : decode cX6_init 56 = .ok (.putfield 29, 3) := by decide +kernel
theorem dX6_init_59 : decode cX6_init 59 = .ok (.aload_n 0, 1) := by decide +kernel
theorem dX6_init_60 : decode cX6_init 60 = .ok (.new 32, 3) := by decide +kernel
theorem dX6_init_63 : decode cX6_init 63 = .ok (.dup, 1) := by decide +kernel
theorem dX6_init_64 : decode cX6_init 64 = .ok (.invokespecial 34, 3) := by decide +kernel
theorem dX6_init_67 : decode cX6_init 67 = .ok (.putfield 35, 3) := by decide +kernel
theorem dX6_init_70 : decode cX6_init 70 = .ok (.aload_n 0, 1) := by decide +kernel
theorem dX6_init_71 : decode cX6_init 71 = .ok (.new 39, 3) := by decide +kernel
theorem dX6_init_74 : decode cX6_init 74 = .ok (.dup, 1) := by decide +kernel
theorem dX6_init_75 : decode cX6_init 75 = .ok (.invokespecial 41, 3) := by decide +kernel
theorem dX6_init_78 : decode cX6_init 78 = .ok (.putfield 42, 3) := by decide +kernel
theorem dX6_init_81 : decode cX6_init 81 = .ok (.aload_n 0, 1) := by decide +kernel
theorem dX6_init_82 : decode cX6_init 82 = .ok (.new 46, 3) := by decide +kernel
theorem dX6_init_85 : decode cX6_init 85 = .ok (.dup, 1) := by decide +kernel
theorem dX6_init_86 : decode cX6_init 86 = .ok (.invokespecial 48, 3) := by decide +kernel
theorem dX6_init_89 : decode cX6_init 89 = .ok (.putfield 49, 3) := by decide +kernel
theorem dX6_init_92 : decode cX6_init 92 = .ok (.aload_n 0, 1) := by decide +kernel
theorem dX6_init_93 : decode cX6_init 93 = .ok (.iconst 4, 1) := by decide +kernel
theorem dX6_init_94 : decode cX6_init 94 = .ok (.anewarray 53, 3) := by decide +kernel
theorem dX6_init_97 : decode cX6_init 97 = .ok (.dup, 1) := by decide +kernel
theorem dX6_init_98 : decode cX6_init 98 = .ok (.iconst 0, 1) := by decide +kernel
theorem dX6_init_99 : decode cX6_init 99 = .ok (.new 53, 3) := by decide +kernel
theorem dX6_init_102 : decode cX6_init 102 = .ok (.dup, 1) := by decide +kernel
theorem dX6_init_103 : decode cX6_init 103 = .ok (.invokespecial 55, 3) := by decide +kernel
theorem dX6_init_106 : decode cX6_init 106 = .ok (.aastore, 1) := by decide +kernel
theorem dX6_init_107 : decode cX6_init 107 = .ok (.dup, 1) := by decide +kernel
theorem dX6_init_108 : decode cX6_init 108 = .ok (.iconst 1, 1) := by decide +kernel
theorem dX6_init_109 : decode cX6_init 109 = .ok (.new 53, 3) := by decide +kernel
theorem dX6_init_112 : decode cX6_init 112 = .ok (.dup, 1) := by decide +kernel
theorem dX6_init_113 : decode cX6_init 113 = .ok (.invokespecial 55, 3) := by decide +kernel
theorem dX6_init_116 : decode cX6_init 116 = .ok (.aastore, 1) := by decide +kernel
theorem dX6_init_117 : decode cX6_init 117 = .ok (.dup, 1) := by decide +kernel
theorem dX6_init_118 : decode cX6_init 118 = .ok (.iconst 2, 1) := by decide +kernel
theorem dX6_init_119 : decode cX6_init 119 = .ok (.new 53, 3) := by decide +kernel
theorem dX6_init_122 : decode cX6_init 122 = .ok (.dup, 1) := by decide +kernel
theorem dX6_init_123 : decode cX6_init 123 = .ok (.invokespecial 55, 3) := by decide +kernel
theorem dX6_init_126 : decode cX6_init 126 = .ok (.aastore, 1) := by decide +kernel
theorem dX6_init_127 : decode cX6_init 127 = .ok (.dup, 1) := by decide +kernel
theorem dX6_init_128 : decode cX6_init 128 = .ok (.iconst 3, 1) := by decide +kernel
theorem dX6_init_129 : decode cX6_init 129 = .ok (.new 53, 3) := by decide +kernel
theorem dX6_init_132 : decode cX6_init 132 = .ok (.dup, 1) := by decide +kernel
theorem dX6_init_133 : decode cX6_init 133 = .ok (.invokespecial 55, 3) := by decide +kernel
theorem dX6_init_136 : decode cX6_init 136 = .ok (.aastore, 1) := by decide +kernel
theorem dX6_init_137 : decode cX6_init 137 = .ok (.putfield 56, 3) := by decide +kernel
theorem dX6_init_140 : decode cX6_init 140 = .ok (.return_, 1) := by decide +kernel
theorem dX6_village_0 : decode cX6_village 0 = .ok (.iload_n 1, 1) := by decide +kernel
theorem dX6_village_1 : decode cX6_village 1 = .ok (.iconst 0, 1) := by decide +kernel
theorem dX6_village_2 : decode cX6_village 2 = .ok (.iconst 4, 1) := by decide +kernel
theorem dX6_village_3 : decode cX6_village 3 = .ok (.invokestatic 60, 3) := by decide +kernel
theorem dX6_village_6 : decode cX6_village 6 = .ok (.ifCond .eq 21, 3) := by decide +kernel
theorem dX6_village_9 : decode cX6_village 9 = .ok (.iload_n 2, 1) := by decide +kernel
theorem dX6_village_10 : decode cX6_village 10 = .ok (.invokestatic 64, 3) := by decide +kernel
theorem dX6_village_13 : decode cX6_village 13 = .ok (.ifCond .eq 14, 3) := by decide +kernel
theorem dX6_village_16 : decode cX6_village 16 = .ok (.iload_n 3, 1) := by decide +kernel
theorem dX6_village_17 : decode cX6_village 17 = .ok (.bipush (-9), 2) := by decide +kernel
theorem dX6_village_19 : decode cX6_village 19 = .ok (.bipush 9, 2) := by decide +kernel
theorem dX6_village_21 : decode cX6_village 21 = .ok (.invokestatic 60, 3) := by decide +kernel
theorem dX6_village_24 : decode cX6_village 24 = .ok (.ifCond .ne 5, 3) := by decide +kernel
theorem dX6_village_27 : decode cX6_village 27 = .ok (.iconst (-1), 1) := by decide +kernel
theorem dX6_village_28 : decode cX6_village 28 = .ok (.ireturn, 1) := by decide +kernel
theorem dX6_village_29 : decode cX6_village 29 = .ok (.aload_n 0, 1) := by decide +kernel
theorem dX6_village_30 : decode cX6_village 30 = .ok (.getfield 12, 3) := by decide +kernel
theorem dX6_village_33 : decode cX6_village 33 = .ok (.getfield 68, 3) := by decide +kernel
theorem dX6_village_36 : decode cX6_village 36 = .ok (.bipush 6, 2) := by decide +kernel
theorem dX6_village_38 : decode cX6_village 38 = .ok (.if_icmp .lt 6, 3) := by decide +kernel
theorem dX6_village_41 : decode cX6_village 41 = .ok (.bipush (-3), 2) := by decide +kernel
theorem dX6_village_43 : decode cX6_village 43 = .ok (.ireturn, 1) := by decide +kernel
theorem dX6_village_44 : decode cX6_village 44 = .ok (.aload_n 0, 1) := by decide +kernel
theorem dX6_village_45 : decode cX6_village 45 = .ok (.getfield 12, 3) := by decide +kernel
theorem dX6_village_48 : decode cX6_village 48 = .ok (.iload_n 1, 1) := by decide +kernel
theorem dX6_village_49 : decode cX6_village 49 = .ok (.iload_n 2, 1) := by decide +kernel
theorem dX6_village_50 : decode cX6_village 50 = .ok (.iload_n 3, 1) := by decide +kernel
theorem dX6_village_51 : decode cX6_village 51 = .ok (.iconst 0, 1) := by decide +kernel
theorem dX6_village_52 : decode cX6_village 52 = .ok (.invokevirtual 72, 3) := by decide +kernel
theorem dX6_village_55 : decode cX6_village 55 = .ok (.aload_n 0, 1) := by decide +kernel
theorem dX6_village_56 : decode cX6_village 56 = .ok (.getfield 19, 3) := by decide +kernel
theorem dX6_village_59 : decode cX6_village 59 = .ok (.invokevirtual 76, 3) := by decide +kernel
theorem dX6_village_62 : decode cX6_village 62 = .ok (.aload_n 0, 1) := by decide +kernel
theorem dX6_village_63 : decode cX6_village 63 = .ok (.getfield 12, 3) := by decide +kernel
theorem dX6_village_66 : decode cX6_village 66 = .ok (.getfield 68, 3) := by decide +kernel
theorem dX6_village_69 : decode cX6_village 69 = .ok (.iconst 1, 1) := by decide +kernel
theorem dX6_village_70 : decode cX6_village 70 = .ok (.isub, 1) := by decide +kernel
theorem dX6_village_71 : decode cX6_village 71 = .ok (.ireturn, 1) := by decide +kernel
theorem dX6_of_0 : decode cX6_of 0 = .ok (.aload_n 0, 1) := by decide +kernel
theorem dX6_of_1 : decode cX6_of 1 = .ok (.getfield 12, 3) := by decide +kernel
theorem dX6_of_4 : decode cX6_of 4 = .ok (.iload_n 1, 1) := by decide +kernel
theorem dX6_of_5 : decode cX6_of 5 = .ok (.invokevirtual 79, 3) := by decide +kernel
theorem dX6_of_8 : decode cX6_of 8 = .ok (.ifCond .ne 5, 3) := by decide +kernel
theorem dX6_of_11 : decode cX6_of 11 = .ok (.iconst (-1), 1) := by decide +kernel
theorem dX6_of_12 : decode cX6_of 12 = .ok (.ireturn, 1) := by decide +kernel
theorem dX6_of_13 : decode cX6_of 13 = .ok (.iload_n 2, 1) := by decide +kernel
theorem dX6_of_14 : decode cX6_of 14 = .ok (.tableswitch 102 0 5 #[38, 48, 58, 71, 81, 93], 38) := by decide +kernel
theorem dX6_of_52 : decode cX6_of 52 = .ok (.aload_n 0, 1) := by decide +kernel
theorem dX6_of_53 : decode cX6_of 53 = .ok (.getfield 12, 3) := by decide +kernel
theorem dX6_of_56 : decode cX6_of 56 = .ok (.getfield 82, 3) := by decide +kernel
theorem dX6_of_59 : decode cX6_of 59 = .ok (.iload_n 1, 1) := by decide +kernel
theorem dX6_of_60 : decode cX6_of 60 = .ok (.iaload, 1) := by decide +kernel
theorem dX6_of_61 : decode cX6_of 61 = .ok (.ireturn, 1) := by decide +kernel
theorem dX6_of_62 : decode cX6_of 62 = .ok (.aload_n 0, 1) := by decide +kernel
theorem dX6_of_63 : decode cX6_of 63 = .ok (.getfield 12, 3) := by decide +kernel
theorem dX6_of_66 : decode cX6_of 66 = .ok (.getfield 86, 3) := by decide +kernel
theorem dX6_of_69 : decode cX6_of 69 = .ok (.iload_n 1, 1) := by decide +kernel
theorem dX6_of_70 : decode cX6_of 70 = .ok (.iaload, 1) := by decide +kernel
theorem dX6_of_71 : decode cX6_of 71 = .ok (.ireturn, 1) := by decide +kernel
theorem dX6_of_72 : decode cX6_of 72 = .ok (.aload_n 0, 1) := by decide +kernel
theorem dX6_of_73 : decode cX6_of 73 = .ok (.getfield 12, 3) := by decide +kernel
theorem dX6_of_76 : decode cX6_of 76 = .ok (.getfield 89, 3) := by decide +kernel
theorem dX6_of_79 : decode cX6_of 79 = .ok (.iload_n 1, 1) := by decide +kernel
theorem dX6_of_80 : decode cX6_of 80 = .ok (.iaload, 1) := by decide +kernel
theorem dX6_of_81 : decode cX6_of 81 = .ok (.bipush 9, 2) := by decide +kernel
theorem dX6_of_83 : decode cX6_of 83 = .ok (.iadd, 1) := by decide +kernel
theorem dX6_of_84 : decode cX6_of 84 = .ok (.ireturn, 1) := by decide +kernel
theorem dX6_of_85 : decode cX6_of 85 = .ok (.aload_n 0, 1) := by decide +kernel
theorem dX6_of_86 : decode cX6_of 86 = .ok (.getfield 12, 3) := by decide +kernel
theorem dX6_of_89 : decode cX6_of 89 = .ok (.getfield 92, 3) := by decide +kernel
theorem dX6_of_92 : decode cX6_of 92 = .ok (.iload_n 1, 1) := by decide +kernel
theorem dX6_of_93 : decode cX6_of 93 = .ok (.iaload, 1) := by decide +kernel
theorem dX6_of_94 : decode cX6_of 94 = .ok (.ireturn, 1) := by decide +kernel
theorem dX6_of_95 : decode cX6_of 95 = .ok (.aload_n 0, 1) := by decide +kernel
theorem dX6_of_96 : decode cX6_of 96 = .ok (.getfield 12, 3) := by decide +kernel
theorem dX6_of_99 : decode cX6_of 99 = .ok (.iload_n 1, 1) := by decide +kernel
theorem dX6_of_100 : decode cX6_of 100 = .ok (.invokevirtual 95, 3) := by decide +kernel
theorem dX6_of_103 : decode cX6_of 103 = .ok (.bipush 30, 2) := by decide +kernel
theorem dX6_of_105 : decode cX6_of 105 = .ok (.iadd, 1) := by decide +kernel
theorem dX6_of_106 : decode cX6_of 106 = .ok (.ireturn, 1) := by decide +kernel
theorem dX6_of_107 : decode cX6_of 107 = .ok (.aload_n 0, 1) := by decide +kernel
theorem dX6_of_108 : decode cX6_of 108 = .ok (.getfield 12, 3) := by decide +kernel
theorem dX6_of_111 : decode cX6_of 111 = .ok (.iload_n 1, 1) := by decide +kernel
theorem dX6_of_112 : decode cX6_of 112 = .ok (.invokevirtual 99, 3) := by decide +kernel
theorem dX6_of_115 : decode cX6_of 115 = .ok (.ireturn, 1) := by decide +kernel
theorem dX6_of_116 : decode cX6_of 116 = .ok (.iconst (-1), 1) := by decide +kernel
theorem dX6_of_117 : decode cX6_of 117 = .ok (.ireturn, 1) := by decide +kernel
theorem dX6_gap_0 : decode cX6_gap 0 = .ok (.aload_n 0, 1) := by decide +kernel
theorem dX6_gap_1 : decode cX6_gap 1 = .ok (.getfield 12, 3) := by decide +kernel
theorem dX6_gap_4 : decode cX6_gap 4 = .ok (.iload_n 1, 1) := by decide +kernel
theorem dX6_gap_5 : decode cX6_gap 5 = .ok (.iload_n 2, 1) := by decide +kernel
theorem dX6_gap_6 : decode cX6_gap 6 = .ok (.invokevirtual 102, 3) := by decide +kernel
theorem dX6_gap_9 : decode cX6_gap 9 = .ok (.ifCond .eq 15, 3) := by decide +kernel
theorem dX6_gap_12 : decode cX6_gap 12 = .ok (.aload_n 0, 1) := by decide +kernel
theorem dX6_gap_13 : decode cX6_gap 13 = .ok (.getfield 12, 3) := by decide +kernel
theorem dX6_gap_16 : decode cX6_gap 16 = .ok (.iload_n 1, 1) := by decide +kernel
theorem dX6_gap_17 : decode cX6_gap 17 = .ok (.iload_n 2, 1) := by decide +kernel
theorem dX6_gap_18 : decode cX6_gap 18 = .ok (.invokevirtual 106, 3) := by decide +kernel
theorem dX6_gap_21 : decode cX6_gap 21 = .ok (.goto 4, 3) := by decide +kernel
theorem dX6_gap_24 : decode cX6_gap 24 = .ok (.iconst (-1), 1) := by decide +kernel
theorem dX6_gap_25 : decode cX6_gap 25 = .ok (.ireturn, 1) := by decide +kernel
theorem dX6_type_0 : decode cX6_type 0 = .ok (.iload_n 1, 1) := by decide +kernel
theorem dX6_type_1 : decode cX6_type 1 = .ok (.bipush 32, 2) := by decide +kernel
theorem dX6_type_3 : decode cX6_type 3 = .ok (.bipush 126, 2) := by decide +kernel
theorem dX6_type_5 : decode cX6_type 5 = .ok (.invokestatic 60, 3) := by decide +kernel
theorem dX6_type_8 : decode cX6_type 8 = .ok (.ifCond .ne 5, 3) := by decide +kernel
theorem dX6_type_11 : decode cX6_type 11 = .ok (.iconst (-1), 1) := by decide +kernel
theorem dX6_type_12 : decode cX6_type 12 = .ok (.ireturn, 1) := by decide +kernel
theorem dX6_type_13 : decode cX6_type 13 = .ok (.aload_n 0, 1) := by decide +kernel
theorem dX6_type_14 : decode cX6_type 14 = .ok (.getfield 49, 3) := by decide +kernel
theorem dX6_type_17 : decode cX6_type 17 = .ok (.iload_n 1, 1) := by decide +kernel
theorem dX6_type_18 : decode cX6_type 18 = .ok (.i2c, 1) := by decide +kernel
theorem dX6_type_19 : decode cX6_type 19 = .ok (.invokevirtual 110, 3) := by decide +kernel
theorem dX6_type_22 : decode cX6_type 22 = .ok (.ifCond .eq 13, 3) := by decide +kernel
theorem dX6_type_25 : decode cX6_type 25 = .ok (.aload_n 0, 1) := by decide +kernel
theorem dX6_type_26 : decode cX6_type 26 = .ok (.getfield 49, 3) := by decide +kernel
theorem dX6_type_29 : decode cX6_type 29 = .ok (.getfield 114, 3) := by decide +kernel
theorem dX6_type_32 : decode cX6_type 32 = .ok (.goto 5, 3) := by decide +kernel
theorem dX6_type_35 : decode cX6_type 35 = .ok (.bipush (-3), 2) := by decide +kernel
theorem dX6_type_37 : decode cX6_type 37 = .ok (.ireturn, 1) := by decide +kernel
theorem dX6_valley_0 : decode cX6_valley 0 = .ok (.aload_n 0, 1) := by decide +kernel
theorem dX6_valley_1 : decode cX6_valley 1 = .ok (.getfield 29, 3) := by decide +kernel
theorem dX6_valley_4 : decode cX6_valley 4 = .ok (.aload_n 0, 1) := by decide +kernel
theorem dX6_valley_5 : decode cX6_valley 5 = .ok (.getfield 12, 3) := by decide +kernel
theorem dX6_valley_8 : decode cX6_valley 8 = .ok (.invokevirtual 117, 3) := by decide +kernel
theorem dX6_valley_11 : decode cX6_valley 11 = .ok (.aload_n 0, 1) := by decide +kernel
theorem dX6_valley_12 : decode cX6_valley 12 = .ok (.getfield 49, 3) := by decide +kernel
theorem dX6_valley_15 : decode cX6_valley 15 = .ok (.aload_n 0, 1) := by decide +kernel
theorem dX6_valley_16 : decode cX6_valley 16 = .ok (.getfield 29, 3) := by decide +kernel
theorem dX6_valley_19 : decode cX6_valley 19 = .ok (.invokevirtual 121, 3) := by decide +kernel
theorem dX6_valley_22 : decode cX6_valley 22 = .ok (.istore_n 1, 1) := by decide +kernel
theorem dX6_valley_23 : decode cX6_valley 23 = .ok (.aload_n 0, 1) := by decide +kernel
theorem dX6_valley_24 : decode cX6_valley 24 = .ok (.getfield 49, 3) := by decide +kernel
theorem dX6_valley_27 : decode cX6_valley 27 = .ok (.iconst 0, 1) := by decide +kernel
theorem dX6_valley_28 : decode cX6_valley 28 = .ok (.putfield 114, 3) := by decide +kernel
theorem dX6_valley_31 : decode cX6_valley 31 = .ok (.iload_n 1, 1) := by decide +kernel
theorem dX6_valley_32 : decode cX6_valley 32 = .ok (.ifCond .eq 5, 3) := by decide +kernel
theorem dX6_valley_35 : decode cX6_valley 35 = .ok (.iload_n 1, 1) := by decide +kernel
theorem dX6_valley_36 : decode cX6_valley 36 = .ok (.ireturn, 1) := by decide +kernel
theorem dX6_valley_37 : decode cX6_valley 37 = .ok (.aload_n 0, 1) := by decide +kernel
theorem dX6_valley_38 : decode cX6_valley 38 = .ok (.getfield 12, 3) := by decide +kernel
theorem dX6_valley_41 : decode cX6_valley 41 = .ok (.aload_n 0, 1) := by decide +kernel
theorem dX6_valley_42 : decode cX6_valley 42 = .ok (.getfield 29, 3) := by decide +kernel
theorem dX6_valley_45 : decode cX6_valley 45 = .ok (.invokevirtual 117, 3) := by decide +kernel
theorem dX6_valley_48 : decode cX6_valley 48 = .ok (.aload_n 0, 1) := by decide +kernel
theorem dX6_valley_49 : decode cX6_valley 49 = .ok (.getfield 19, 3) := by decide +kernel
theorem dX6_valley_52 : decode cX6_valley 52 = .ok (.invokevirtual 76, 3) := by decide +kernel
theorem dX6_valley_55 : decode cX6_valley 55 = .ok (.aload_n 0, 1) := by decide +kernel
theorem dX6_valley_56 : decode cX6_valley 56 = .ok (.getfield 12, 3) := by decide +kernel
theorem dX6_valley_59 : decode cX6_valley 59 = .ok (.getfield 68, 3) := by decide +kernel
theorem dX6_valley_62 : decode cX6_valley 62 = .ok (.ireturn, 1) := by decide +kernel
theorem dX6_count_0 : decode cX6_count 0 = .ok (.iload_n 1, 1) := by decide +kernel
theorem dX6_count_1 : decode cX6_count 1 = .ok (.tableswitch 113 0 6 #[43, 51, 59, 67, 75, 90, 105], 43) := by decide +kernel
theorem dX6_count_44 : decode cX6_count 44 = .ok (.aload_n 0, 1) := by decide +kernel
theorem dX6_count_45 : decode cX6_count 45 = .ok (.getfield 12, 3) := by decide +kernel
theorem dX6_count_48 : decode cX6_count 48 = .ok (.getfield 68, 3) := by decide +kernel
theorem dX6_count_51 : decode cX6_count 51 = .ok (.ireturn, 1) := by decide +kernel
theorem dX6_count_52 : decode cX6_count 52 = .ok (.aload_n 0, 1) := by decide +kernel
theorem dX6_count_53 : decode cX6_count 53 = .ok (.getfield 12, 3) := by decide +kernel
theorem dX6_count_56 : decode cX6_count 56 = .ok (.getfield 125, 3) := by decide +kernel
theorem dX6_count_59 : decode cX6_count 59 = .ok (.ireturn, 1) := by decide +kernel
theorem dX6_count_60 : decode cX6_count 60 = .ok (.aload_n 0, 1) := by decide +kernel
theorem dX6_count_61 : decode cX6_count 61 = .ok (.getfield 12, 3) := by decide +kernel
theorem dX6_count_64 : decode cX6_count 64 = .ok (.invokevirtual 128, 3) := by decide +kernel
theorem dX6_count_67 : decode cX6_count 67 = .ok (.ireturn, 1) := by decide +kernel
theorem dX6_count_68 : decode cX6_count 68 = .ok (.aload_n 0, 1) := by decide +kernel
theorem dX6_count_69 : decode cX6_count 69 = .ok (.getfield 12, 3) := by decide +kernel
theorem dX6_count_72 : decode cX6_count 72 = .ok (.invokevirtual 132, 3) := by decide +kernel
theorem dX6_count_75 : decode cX6_count 75 = .ok (.ireturn, 1) := by decide +kernel
theorem dX6_count_76 : decode cX6_count 76 = .ok (.aload_n 0, 1) := by decide +kernel
theorem dX6_count_77 : decode cX6_count 77 = .ok (.getfield 12, 3) := by decide +kernel
theorem dX6_count_80 : decode cX6_count 80 = .ok (.aload_n 0, 1) := by decide +kernel
theorem dX6_count_81 : decode cX6_count 81 = .ok (.getfield 12, 3) := by decide +kernel
theorem dX6_count_84 : decode cX6_count 84 = .ok (.getfield 86, 3) := by decide +kernel
theorem dX6_count_87 : decode cX6_count 87 = .ok (.invokevirtual 135, 3) := by decide +kernel
theorem dX6_count_90 : decode cX6_count 90 = .ok (.ireturn, 1) := by decide +kernel
theorem dX6_count_91 : decode cX6_count 91 = .ok (.aload_n 0, 1) := by decide +kernel
theorem dX6_count_92 : decode cX6_count 92 = .ok (.getfield 12, 3) := by decide +kernel
theorem dX6_count_95 : decode cX6_count 95 = .ok (.aload_n 0, 1) := by decide +kernel
theorem dX6_count_96 : decode cX6_count 96 = .ok (.getfield 12, 3) := by decide +kernel
theorem dX6_count_99 : decode cX6_count 99 = .ok (.getfield 92, 3) := by decide +kernel
theorem dX6_count_102 : decode cX6_count 102 = .ok (.invokevirtual 135, 3) := by decide +kernel
theorem dX6_count_105 : decode cX6_count 105 = .ok (.ireturn, 1) := by decide +kernel
theorem dX6_count_106 : decode cX6_count 106 = .ok (.aload_n 0, 1) := by decide +kernel
theorem dX6_count_107 : decode cX6_count 107 = .ok (.getfield 19, 3) := by decide +kernel
theorem dX6_count_110 : decode cX6_count 110 = .ok (.getfield 139, 3) := by decide +kernel
theorem dX6_count_113 : decode cX6_count 113 = .ok (.ireturn, 1) := by decide +kernel
theorem dX6_count_114 : decode cX6_count 114 = .ok (.iconst (-1), 1) := by decide +kernel
theorem dX6_count_115 : decode cX6_count 115 = .ok (.ireturn, 1) := by decide +kernel
theorem dX6_days_0 : decode cX6_days 0 = .ok (.aload_n 0, 1) := by decide +kernel
theorem dX6_days_1 : decode cX6_days 1 = .ok (.iload_n 1, 1) := by decide +kernel
theorem dX6_days_2 : decode cX6_days 2 = .ok (.iconst 0, 1) := by decide +kernel
theorem dX6_days_3 : decode cX6_days 3 = .ok (.invokevirtual 142, 3) := by decide +kernel
theorem dX6_days_6 : decode cX6_days 6 = .ok (.ireturn, 1) := by decide +kernel
theorem dX6_set_0 : decode cX6_set 0 = .ok (.aload_n 0, 1) := by decide +kernel
theorem dX6_set_1 : decode cX6_set 1 = .ok (.getfield 12, 3) := by decide +kernel
theorem dX6_set_4 : decode cX6_set 4 = .ok (.iload_n 1, 1) := by decide +kernel
theorem dX6_set_5 : decode cX6_set 5 = .ok (.invokevirtual 79, 3) := by decide +kernel
theorem dX6_set_8 : decode cX6_set 8 = .ok (.ifCond .eq 10, 3) := by decide +kernel
theorem dX6_set_11 : decode cX6_set 11 = .ok (.iload_n 2, 1) := by decide +kernel
theorem dX6_set_12 : decode cX6_set 12 = .ok (.invokestatic 64, 3) := by decide +kernel
theorem dX6_set_15 : decode cX6_set 15 = .ok (.ifCond .ne 5, 3) := by decide +kernel
theorem dX6_set_18 : decode cX6_set 18 = .ok (.iconst (-1), 1) := by decide +kernel
theorem dX6_set_19 : decode cX6_set 19 = .ok (.ireturn, 1) := by decide +kernel
theorem dX6_set_20 : decode cX6_set 20 = .ok (.aload_n 0, 1) := by decide +kernel
theorem dX6_set_21 : decode cX6_set 21 = .ok (.getfield 12, 3) := by decide +kernel
theorem dX6_set_24 : decode cX6_set 24 = .ok (.getfield 86, 3) := by decide +kernel
theorem dX6_set_27 : decode cX6_set 27 = .ok (.iload_n 1, 1) := by decide +kernel
theorem dX6_set_28 : decode cX6_set 28 = .ok (.iaload, 1) := by decide +kernel
theorem dX6_set_29 : decode cX6_set 29 = .ok (.istore_n 3, 1) := by decide +kernel
theorem dX6_set_30 : decode cX6_set 30 = .ok (.iload_n 3, 1) := by decide +kernel
theorem dX6_set_31 : decode cX6_set 31 = .ok (.iload_n 2, 1) := by decide +kernel
theorem dX6_set_32 : decode cX6_set 32 = .ok (.if_icmp .ne 6, 3) := by decide +kernel
theorem dX6_set_35 : decode cX6_set 35 = .ok (.bipush (-2), 2) := by decide +kernel
theorem dX6_set_37 : decode cX6_set 37 = .ok (.ireturn, 1) := by decide +kernel
theorem dX6_set_38 : decode cX6_set 38 = .ok (.aload_n 0, 1) := by decide +kernel
theorem dX6_set_39 : decode cX6_set 39 = .ok (.getfield 19, 3) := by decide +kernel
theorem dX6_set_42 : decode cX6_set 42 = .ok (.aload_n 0, 1) := by decide +kernel
theorem dX6_set_43 : decode cX6_set 43 = .ok (.getfield 12, 3) := by decide +kernel
theorem dX6_set_46 : decode cX6_set 46 = .ok (.invokevirtual 146, 3) := by decide +kernel
theorem dX6_set_49 : decode cX6_set 49 = .ok (.aload_n 0, 1) := by decide +kernel
theorem dX6_set_50 : decode cX6_set 50 = .ok (.getfield 12, 3) := by decide +kernel
theorem dX6_set_53 : decode cX6_set 53 = .ok (.getfield 86, 3) := by decide +kernel
theorem dX6_set_56 : decode cX6_set 56 = .ok (.iload_n 1, 1) := by decide +kernel
theorem dX6_set_57 : decode cX6_set 57 = .ok (.iload_n 2, 1) := by decide +kernel
theorem dX6_set_58 : decode cX6_set 58 = .ok (.iastore, 1) := by decide +kernel
theorem dX6_set_59 : decode cX6_set 59 = .ok (.iload_n 3, 1) := by decide +kernel
theorem dX6_set_60 : decode cX6_set 60 = .ok (.ireturn, 1) := by decide +kernel
theorem dX6_move_0 : decode cX6_move 0 = .ok (.aload_n 0, 1) := by decide +kernel
theorem dX6_move_1 : decode cX6_move 1 = .ok (.getfield 12, 3) := by decide +kernel
theorem dX6_move_4 : decode cX6_move 4 = .ok (.iload_n 1, 1) := by decide +kernel
theorem dX6_move_5 : decode cX6_move 5 = .ok (.invokevirtual 79, 3) := by decide +kernel
theorem dX6_move_8 : decode cX6_move 8 = .ok (.ifCond .eq 13, 3) := by decide +kernel
theorem dX6_move_11 : decode cX6_move 11 = .ok (.iload_n 2, 1) := by decide +kernel
theorem dX6_move_12 : decode cX6_move 12 = .ok (.iconst 0, 1) := by decide +kernel
theorem dX6_move_13 : decode cX6_move 13 = .ok (.bipush 40, 2) := by decide +kernel
theorem dX6_move_15 : decode cX6_move 15 = .ok (.invokestatic 60, 3) := by decide +kernel
theorem dX6_move_18 : decode cX6_move 18 = .ok (.ifCond .ne 5, 3) := by decide +kernel
theorem dX6_move_21 : decode cX6_move 21 = .ok (.iconst (-1), 1) := by decide +kernel
theorem dX6_move_22 : decode cX6_move 22 = .ok (.ireturn, 1) := by decide +kernel
theorem dX6_move_23 : decode cX6_move 23 = .ok (.aload_n 0, 1) := by decide +kernel
theorem dX6_move_24 : decode cX6_move 24 = .ok (.getfield 12, 3) := by decide +kernel
theorem dX6_move_27 : decode cX6_move 27 = .ok (.getfield 92, 3) := by decide +kernel
theorem dX6_move_30 : decode cX6_move 30 = .ok (.iload_n 1, 1) := by decide +kernel
theorem dX6_move_31 : decode cX6_move 31 = .ok (.iaload, 1) := by decide +kernel
theorem dX6_move_32 : decode cX6_move 32 = .ok (.istore_n 3, 1) := by decide +kernel
theorem dX6_move_33 : decode cX6_move 33 = .ok (.iload_n 3, 1) := by decide +kernel
theorem dX6_move_34 : decode cX6_move 34 = .ok (.iload_n 2, 1) := by decide +kernel
theorem dX6_move_35 : decode cX6_move 35 = .ok (.if_icmp .ne 6, 3) := by decide +kernel
theorem dX6_move_38 : decode cX6_move 38 = .ok (.bipush (-2), 2) := by decide +kernel
theorem dX6_move_40 : decode cX6_move 40 = .ok (.ireturn, 1) := by decide +kernel
theorem dX6_move_41 : decode cX6_move 41 = .ok (.aload_n 0, 1) := by decide +kernel
theorem dX6_move_42 : decode cX6_move 42 = .ok (.getfield 19, 3) := by decide +kernel
theorem dX6_move_45 : decode cX6_move 45 = .ok (.aload_n 0, 1) := by decide +kernel
theorem dX6_move_46 : decode cX6_move 46 = .ok (.getfield 12, 3) := by decide +kernel
theorem dX6_move_49 : decode cX6_move 49 = .ok (.invokevirtual 146, 3) := by decide +kernel
theorem dX6_move_52 : decode cX6_move 52 = .ok (.aload_n 0, 1) := by decide +kernel
theorem dX6_move_53 : decode cX6_move 53 = .ok (.getfield 12, 3) := by decide +kernel
theorem dX6_move_56 : decode cX6_move 56 = .ok (.getfield 92, 3) := by decide +kernel
theorem dX6_move_59 : decode cX6_move 59 = .ok (.iload_n 1, 1) := by decide +kernel
theorem dX6_move_60 : decode cX6_move 60 = .ok (.iload_n 2, 1) := by decide +kernel
theorem dX6_move_61 : decode cX6_move 61 = .ok (.iastore, 1) := by decide +kernel
theorem dX6_move_62 : decode cX6_move 62 = .ok (.iload_n 3, 1) := by decide +kernel
theorem dX6_move_63 : decode cX6_move 63 = .ok (.ireturn, 1) := by decide +kernel
theorem dX6_tune_0 : decode cX6_tune 0 = .ok (.aload_n 0, 1) := by decide +kernel
theorem dX6_tune_1 : decode cX6_tune 1 = .ok (.getfield 12, 3) := by decide +kernel
theorem dX6_tune_4 : decode cX6_tune 4 = .ok (.iload_n 1, 1) := by decide +kernel
theorem dX6_tune_5 : decode cX6_tune 5 = .ok (.invokevirtual 79, 3) := by decide +kernel
theorem dX6_tune_8 : decode cX6_tune 8 = .ok (.ifCond .eq 13, 3) := by decide +kernel
theorem dX6_tune_11 : decode cX6_tune 11 = .ok (.iload_n 2, 1) := by decide +kernel
theorem dX6_tune_12 : decode cX6_tune 12 = .ok (.iconst 0, 1) := by decide +kernel
theorem dX6_tune_13 : decode cX6_tune 13 = .ok (.bipush 18, 2) := by decide +kernel
theorem dX6_tune_15 : decode cX6_tune 15 = .ok (.invokestatic 60, 3) := by decide +kernel
theorem dX6_tune_18 : decode cX6_tune 18 = .ok (.ifCond .ne 5, 3) := by decide +kernel
theorem dX6_tune_21 : decode cX6_tune 21 = .ok (.iconst (-1), 1) := by decide +kernel
theorem dX6_tune_22 : decode cX6_tune 22 = .ok (.ireturn, 1) := by decide +kernel
theorem dX6_tune_23 : decode cX6_tune 23 = .ok (.aload_n 0, 1) := by decide +kernel
theorem dX6_tune_24 : decode cX6_tune 24 = .ok (.getfield 12, 3) := by decide +kernel
theorem dX6_tune_27 : decode cX6_tune 27 = .ok (.getfield 89, 3) := by decide +kernel
theorem dX6_tune_30 : decode cX6_tune 30 = .ok (.iload_n 1, 1) := by decide +kernel
theorem dX6_tune_31 : decode cX6_tune 31 = .ok (.iaload, 1) := by decide +kernel
theorem dX6_tune_32 : decode cX6_tune 32 = .ok (.bipush 9, 2) := by decide +kernel
theorem dX6_tune_34 : decode cX6_tune 34 = .ok (.iadd, 1) := by decide +kernel
theorem dX6_tune_35 : decode cX6_tune 35 = .ok (.istore_n 3, 1) := by decide +kernel
theorem dX6_tune_36 : decode cX6_tune 36 = .ok (.iload_n 3, 1) := by decide +kernel
theorem dX6_tune_37 : decode cX6_tune 37 = .ok (.iload_n 2, 1) := by decide +kernel
theorem dX6_tune_38 : decode cX6_tune 38 = .ok (.if_icmp .ne 6, 3) := by decide +kernel
theorem dX6_tune_41 : decode cX6_tune 41 = .ok (.bipush (-2), 2) := by decide +kernel
theorem dX6_tune_43 : decode cX6_tune 43 = .ok (.ireturn, 1) := by decide +kernel
theorem dX6_tune_44 : decode cX6_tune 44 = .ok (.aload_n 0, 1) := by decide +kernel
theorem dX6_tune_45 : decode cX6_tune 45 = .ok (.getfield 19, 3) := by decide +kernel
theorem dX6_tune_48 : decode cX6_tune 48 = .ok (.aload_n 0, 1) := by decide +kernel
theorem dX6_tune_49 : decode cX6_tune 49 = .ok (.getfield 12, 3) := by decide +kernel
theorem dX6_tune_52 : decode cX6_tune 52 = .ok (.invokevirtual 146, 3) := by decide +kernel
theorem dX6_tune_55 : decode cX6_tune 55 = .ok (.aload_n 0, 1) := by decide +kernel
theorem dX6_tune_56 : decode cX6_tune 56 = .ok (.getfield 12, 3) := by decide +kernel
theorem dX6_tune_59 : decode cX6_tune 59 = .ok (.getfield 89, 3) := by decide +kernel
theorem dX6_tune_62 : decode cX6_tune 62 = .ok (.iload_n 1, 1) := by decide +kernel
theorem dX6_tune_63 : decode cX6_tune 63 = .ok (.iload_n 2, 1) := by decide +kernel
theorem dX6_tune_64 : decode cX6_tune 64 = .ok (.bipush 9, 2) := by decide +kernel
theorem dX6_tune_66 : decode cX6_tune 66 = .ok (.isub, 1) := by decide +kernel
theorem dX6_tune_67 : decode cX6_tune 67 = .ok (.iastore, 1) := by decide +kernel
theorem dX6_tune_68 : decode cX6_tune 68 = .ok (.iload_n 3, 1) := by decide +kernel
theorem dX6_tune_69 : decode cX6_tune 69 = .ok (.ireturn, 1) := by decide +kernel
theorem dX6_storm_0 : decode cX6_storm 0 = .ok (.aload_n 0, 1) := by decide +kernel
theorem dX6_storm_1 : decode cX6_storm 1 = .ok (.iload_n 1, 1) := by decide +kernel
theorem dX6_storm_2 : decode cX6_storm 2 = .ok (.iconst 1, 1) := by decide +kernel
theorem dX6_storm_3 : decode cX6_storm 3 = .ok (.invokevirtual 142, 3) := by decide +kernel
theorem dX6_storm_6 : decode cX6_storm 6 = .ok (.ireturn, 1) := by decide +kernel
theorem dX6_undo_0 : decode cX6_undo 0 = .ok (.aload_n 0, 1) := by decide +kernel
theorem dX6_undo_1 : decode cX6_undo 1 = .ok (.getfield 19, 3) := by decide +kernel
theorem dX6_undo_4 : decode cX6_undo 4 = .ok (.aload_n 0, 1) := by decide +kernel
theorem dX6_undo_5 : decode cX6_undo 5 = .ok (.getfield 12, 3) := by decide +kernel
theorem dX6_undo_8 : decode cX6_undo 8 = .ok (.invokevirtual 149, 3) := by decide +kernel
theorem dX6_undo_11 : decode cX6_undo 11 = .ok (.ifCond .eq 13, 3) := by decide +kernel
theorem dX6_undo_14 : decode cX6_undo 14 = .ok (.aload_n 0, 1) := by decide +kernel
theorem dX6_undo_15 : decode cX6_undo 15 = .ok (.getfield 19, 3) := by decide +kernel
theorem dX6_undo_18 : decode cX6_undo 18 = .ok (.getfield 139, 3) := by decide +kernel
theorem dX6_undo_21 : decode cX6_undo 21 = .ok (.goto 5, 3) := by decide +kernel
theorem dX6_undo_24 : decode cX6_undo 24 = .ok (.bipush (-4), 2) := by decide +kernel
theorem dX6_undo_26 : decode cX6_undo 26 = .ok (.ireturn, 1) := by decide +kernel
theorem dX6_seed_0 : decode cX6_seed 0 = .ok (.iload_n 1, 1) := by decide +kernel
theorem dX6_seed_1 : decode cX6_seed 1 = .ok (.ifCond .ge 5, 3) := by decide +kernel
theorem dX6_seed_4 : decode cX6_seed 4 = .ok (.iconst (-1), 1) := by decide +kernel
theorem dX6_seed_5 : decode cX6_seed 5 = .ok (.ireturn, 1) := by decide +kernel
theorem dX6_seed_6 : decode cX6_seed 6 = .ok (.aload_n 0, 1) := by decide +kernel
theorem dX6_seed_7 : decode cX6_seed 7 = .ok (.getfield 12, 3) := by decide +kernel
theorem dX6_seed_10 : decode cX6_seed 10 = .ok (.getfield 153, 3) := by decide +kernel
theorem dX6_seed_13 : decode cX6_seed 13 = .ok (.istore_n 2, 1) := by decide +kernel
theorem dX6_seed_14 : decode cX6_seed 14 = .ok (.aload_n 0, 1) := by decide +kernel
theorem dX6_seed_15 : decode cX6_seed 15 = .ok (.getfield 12, 3) := by decide +kernel
theorem dX6_seed_18 : decode cX6_seed 18 = .ok (.iload_n 1, 1) := by decide +kernel
theorem dX6_seed_19 : decode cX6_seed 19 = .ok (.putfield 153, 3) := by decide +kernel
theorem dX6_seed_22 : decode cX6_seed 22 = .ok (.iload_n 2, 1) := by decide +kernel
theorem dX6_seed_23 : decode cX6_seed 23 = .ok (.ireturn, 1) := by decide +kernel
theorem dX6_passDays_0 : decode cX6_passDays 0 = .ok (.iload_n 1, 1) := by decide +kernel
theorem dX6_passDays_1 : decode cX6_passDays 1 = .ok (.iconst 1, 1) := by decide +kernel
theorem dX6_passDays_2 : decode cX6_passDays 2 = .ok (.bipush 40, 2) := by decide +kernel
theorem dX6_passDays_4 : decode cX6_passDays 4 = .ok (.invokestatic 60, 3) := by decide +kernel
theorem dX6_passDays_7 : decode cX6_passDays 7 = .ok (.ifCond .ne 5, 3) := by decide +kernel
theorem dX6_passDays_10 : decode cX6_passDays 10 = .ok (.iconst (-1), 1) := by decide +kernel
theorem dX6_passDays_11 : decode cX6_passDays 11 = .ok (.ireturn, 1) := by decide +kernel
theorem dX6_passDays_12 : decode cX6_passDays 12 = .ok (.aload_n 0, 1) := by decide +kernel
theorem dX6_passDays_13 : decode cX6_passDays 13 = .ok (.getfield 12, 3) := by decide +kernel
theorem dX6_passDays_16 : decode cX6_passDays 16 = .ok (.getfield 125, 3) := by decide +kernel
theorem dX6_passDays_19 : decode cX6_passDays 19 = .ok (.iload_n 1, 1) := by decide +kernel
theorem dX6_passDays_20 : decode cX6_passDays 20 = .ok (.iadd, 1) := by decide +kernel
theorem dX6_passDays_21 : decode cX6_passDays 21 = .ok (.sipush 9999, 3) := by decide +kernel
theorem dX6_passDays_24 : decode cX6_passDays 24 = .ok (.if_icmp .le 6, 3) := by decide +kernel
theorem dX6_passDays_27 : decode cX6_passDays 27 = .ok (.bipush (-3), 2) := by decide +kernel
theorem dX6_passDays_29 : decode cX6_passDays 29 = .ok (.ireturn, 1) := by decide +kernel
theorem dX6_passDays_30 : decode cX6_passDays 30 = .ok (.iconst 0, 1) := by decide +kernel
theorem dX6_passDays_31 : decode cX6_passDays 31 = .ok (.istore_n 3, 1) := by decide +kernel
theorem dX6_passDays_32 : decode cX6_passDays 32 = .ok (.iload_n 3, 1) := by decide +kernel
theorem dX6_passDays_33 : decode cX6_passDays 33 = .ok (.iload_n 1, 1) := by decide +kernel
theorem dX6_passDays_34 : decode cX6_passDays 34 = .ok (.if_icmp .ge 38, 3) := by decide +kernel
theorem dX6_passDays_37 : decode cX6_passDays 37 = .ok (.aload_n 0, 1) := by decide +kernel
theorem dX6_passDays_38 : decode cX6_passDays 38 = .ok (.getfield 19, 3) := by decide +kernel
theorem dX6_passDays_41 : decode cX6_passDays 41 = .ok (.aload_n 0, 1) := by decide +kernel
theorem dX6_passDays_42 : decode cX6_passDays 42 = .ok (.getfield 12, 3) := by decide +kernel
theorem dX6_passDays_45 : decode cX6_passDays 45 = .ok (.invokevirtual 146, 3) := by decide +kernel
theorem dX6_passDays_48 : decode cX6_passDays 48 = .ok (.iload_n 2, 1) := by decide +kernel
theorem dX6_passDays_49 : decode cX6_passDays 49 = .ok (.ifCond .eq 10, 3) := by decide +kernel
theorem dX6_passDays_52 : decode cX6_passDays 52 = .ok (.aload_n 0, 1) := by decide +kernel
theorem dX6_passDays_53 : decode cX6_passDays 53 = .ok (.getfield 12, 3) := by decide +kernel
theorem dX6_passDays_56 : decode cX6_passDays 56 = .ok (.invokevirtual 156, 3) := by decide +kernel
theorem dX6_passDays_59 : decode cX6_passDays 59 = .ok (.aload_n 0, 1) := by decide +kernel
theorem dX6_passDays_60 : decode cX6_passDays 60 = .ok (.getfield 12, 3) := by decide +kernel
theorem dX6_passDays_63 : decode cX6_passDays 63 = .ok (.invokevirtual 159, 3) := by decide +kernel
theorem dX6_passDays_66 : decode cX6_passDays 66 = .ok (.iinc 3 1, 3) := by decide +kernel
theorem dX6_passDays_69 : decode cX6_passDays 69 = .ok (.goto (-37), 3) := by decide +kernel
theorem dX6_passDays_72 : decode cX6_passDays 72 = .ok (.aload_n 0, 1) := by decide +kernel
theorem dX6_passDays_73 : decode cX6_passDays 73 = .ok (.getfield 12, 3) := by decide +kernel
theorem dX6_passDays_76 : decode cX6_passDays 76 = .ok (.invokevirtual 128, 3) := by decide +kernel
theorem dX6_passDays_79 : decode cX6_passDays 79 = .ok (.ireturn, 1) := by decide +kernel
theorem dX6_ahead_0 : decode cX6_ahead 0 = .ok (.aload_n 0, 1) := by decide +kernel
theorem dX6_ahead_1 : decode cX6_ahead 1 = .ok (.getfield 12, 3) := by decide +kernel
theorem dX6_ahead_4 : decode cX6_ahead 4 = .ok (.iload_n 1, 1) := by decide +kernel
theorem dX6_ahead_5 : decode cX6_ahead 5 = .ok (.invokevirtual 79, 3) := by decide +kernel
theorem dX6_ahead_8 : decode cX6_ahead 8 = .ok (.ifCond .eq 13, 3) := by decide +kernel
theorem dX6_ahead_11 : decode cX6_ahead 11 = .ok (.iload_n 2, 1) := by decide +kernel
theorem dX6_ahead_12 : decode cX6_ahead 12 = .ok (.iconst 0, 1) := by decide +kernel
theorem dX6_ahead_13 : decode cX6_ahead 13 = .ok (.bipush 60, 2) := by decide +kernel
theorem dX6_ahead_15 : decode cX6_ahead 15 = .ok (.invokestatic 60, 3) := by decide +kernel
theorem dX6_ahead_18 : decode cX6_ahead 18 = .ok (.ifCond .ne 5, 3) := by decide +kernel
theorem dX6_ahead_21 : decode cX6_ahead 21 = .ok (.iconst (-1), 1) := by decide +kernel
theorem dX6_ahead_22 : decode cX6_ahead 22 = .ok (.ireturn, 1) := by decide +kernel
theorem dX6_ahead_23 : decode cX6_ahead 23 = .ok (.aload_n 0, 1) := by decide +kernel
theorem dX6_ahead_24 : decode cX6_ahead 24 = .ok (.iload_n 2, 1) := by decide +kernel
theorem dX6_ahead_25 : decode cX6_ahead 25 = .ok (.invokevirtual 162, 3) := by decide +kernel
theorem dX6_ahead_28 : decode cX6_ahead 28 = .ok (.aload_n 0, 1) := by decide +kernel
theorem dX6_ahead_29 : decode cX6_ahead 29 = .ok (.getfield 29, 3) := by decide +kernel
theorem dX6_ahead_32 : decode cX6_ahead 32 = .ok (.getfield 86, 3) := by decide +kernel
theorem dX6_ahead_35 : decode cX6_ahead 35 = .ok (.iload_n 1, 1) := by decide +kernel
theorem dX6_ahead_36 : decode cX6_ahead 36 = .ok (.iaload, 1) := by decide +kernel
theorem dX6_ahead_37 : decode cX6_ahead 37 = .ok (.ireturn, 1) := by decide +kernel
theorem dX6_near_0 : decode cX6_near 0 = .ok (.iload_n 1, 1) := by decide +kernel
theorem dX6_near_1 : decode cX6_near 1 = .ok (.iconst 0, 1) := by decide +kernel
theorem dX6_near_2 : decode cX6_near 2 = .ok (.bipush 60, 2) := by decide +kernel
theorem dX6_near_4 : decode cX6_near 4 = .ok (.invokestatic 60, 3) := by decide +kernel
theorem dX6_near_7 : decode cX6_near 7 = .ok (.ifCond .ne 5, 3) := by decide +kernel
theorem dX6_near_10 : decode cX6_near 10 = .ok (.iconst (-1), 1) := by decide +kernel
theorem dX6_near_11 : decode cX6_near 11 = .ok (.ireturn, 1) := by decide +kernel
theorem dX6_near_12 : decode cX6_near 12 = .ok (.aload_n 0, 1) := by decide +kernel
theorem dX6_near_13 : decode cX6_near 13 = .ok (.iload_n 1, 1) := by decide +kernel
theorem dX6_near_14 : decode cX6_near 14 = .ok (.invokevirtual 162, 3) := by decide +kernel
theorem dX6_near_17 : decode cX6_near 17 = .ok (.aload_n 0, 1) := by decide +kernel
theorem dX6_near_18 : decode cX6_near 18 = .ok (.getfield 29, 3) := by decide +kernel
theorem dX6_near_21 : decode cX6_near 21 = .ok (.invokevirtual 128, 3) := by decide +kernel
theorem dX6_near_24 : decode cX6_near 24 = .ok (.ireturn, 1) := by decide +kernel
theorem dX6_meet_0 : decode cX6_meet 0 = .ok (.aload_n 0, 1) := by decide +kernel
theorem dX6_meet_1 : decode cX6_meet 1 = .ok (.getfield 12, 3) := by decide +kernel
theorem dX6_meet_4 : decode cX6_meet 4 = .ok (.iload_n 1, 1) := by decide +kernel
theorem dX6_meet_5 : decode cX6_meet 5 = .ok (.iload_n 2, 1) := by decide +kernel
theorem dX6_meet_6 : decode cX6_meet 6 = .ok (.invokevirtual 102, 3) := by decide +kernel
theorem dX6_meet_9 : decode cX6_meet 9 = .ok (.ifCond .ne 5, 3) := by decide +kernel
theorem dX6_meet_12 : decode cX6_meet 12 = .ok (.iconst (-1), 1) := by decide +kernel
theorem dX6_meet_13 : decode cX6_meet 13 = .ok (.ireturn, 1) := by decide +kernel
theorem dX6_meet_14 : decode cX6_meet 14 = .ok (.aload_n 0, 1) := by decide +kernel
theorem dX6_meet_15 : decode cX6_meet 15 = .ok (.getfield 29, 3) := by decide +kernel
theorem dX6_meet_18 : decode cX6_meet 18 = .ok (.aload_n 0, 1) := by decide +kernel
theorem dX6_meet_19 : decode cX6_meet 19 = .ok (.getfield 12, 3) := by decide +kernel
theorem dX6_meet_22 : decode cX6_meet 22 = .ok (.invokevirtual 117, 3) := by decide +kernel
theorem dX6_meet_25 : decode cX6_meet 25 = .ok (.iconst 0, 1) := by decide +kernel
theorem dX6_meet_26 : decode cX6_meet 26 = .ok (.istore_n 3, 1) := by decide +kernel
theorem dX6_meet_27 : decode cX6_meet 27 = .ok (.iload_n 3, 1) := by decide +kernel
theorem dX6_meet_28 : decode cX6_meet 28 = .ok (.bipush 60, 2) := by decide +kernel
theorem dX6_meet_30 : decode cX6_meet 30 = .ok (.if_icmp .gt 30, 3) := by decide +kernel
theorem dX6_meet_33 : decode cX6_meet 33 = .ok (.aload_n 0, 1) := by decide +kernel
theorem dX6_meet_34 : decode cX6_meet 34 = .ok (.getfield 29, 3) := by decide +kernel
theorem dX6_meet_37 : decode cX6_meet 37 = .ok (.iload_n 1, 1) := by decide +kernel
theorem dX6_meet_38 : decode cX6_meet 38 = .ok (.iload_n 2, 1) := by decide +kernel
theorem dX6_meet_39 : decode cX6_meet 39 = .ok (.invokevirtual 106, 3) := by decide +kernel
theorem dX6_meet_42 : decode cX6_meet 42 = .ok (.ifCond .ne 5, 3) := by decide +kernel
theorem dX6_meet_45 : decode cX6_meet 45 = .ok (.iload_n 3, 1) := by decide +kernel
theorem dX6_meet_46 : decode cX6_meet 46 = .ok (.ireturn, 1) := by decide +kernel
theorem dX6_meet_47 : decode cX6_meet 47 = .ok (.aload_n 0, 1) := by decide +kernel
theorem dX6_meet_48 : decode cX6_meet 48 = .ok (.getfield 29, 3) := by decide +kernel
theorem dX6_meet_51 : decode cX6_meet 51 = .ok (.invokevirtual 159, 3) := by decide +kernel
theorem dX6_meet_54 : decode cX6_meet 54 = .ok (.iinc 3 1, 3) := by decide +kernel
theorem dX6_meet_57 : decode cX6_meet 57 = .ok (.goto (-30), 3) := by decide +kernel
theorem dX6_meet_60 : decode cX6_meet 60 = .ok (.bipush (-4), 2) := by decide +kernel
theorem dX6_meet_62 : decode cX6_meet 62 = .ok (.ireturn, 1) := by decide +kernel
theorem dX6_together_0 : decode cX6_together 0 = .ok (.iload_n 1, 1) := by decide +kernel
theorem dX6_together_1 : decode cX6_together 1 = .ok (.iconst 0, 1) := by decide +kernel
theorem dX6_together_2 : decode cX6_together 2 = .ok (.iconst 1, 1) := by decide +kernel
theorem dX6_together_3 : decode cX6_together 3 = .ok (.invokestatic 60, 3) := by decide +kernel
theorem dX6_together_6 : decode cX6_together 6 = .ok (.ifCond .ne 5, 3) := by decide +kernel
theorem dX6_together_9 : decode cX6_together 9 = .ok (.iconst (-1), 1) := by decide +kernel
theorem dX6_together_10 : decode cX6_together 10 = .ok (.ireturn, 1) := by decide +kernel
theorem dX6_together_11 : decode cX6_together 11 = .ok (.aload_n 0, 1) := by decide +kernel
theorem dX6_together_12 : decode cX6_together 12 = .ok (.getfield 29, 3) := by decide +kernel
theorem dX6_together_15 : decode cX6_together 15 = .ok (.aload_n 0, 1) := by decide +kernel
theorem dX6_together_16 : decode cX6_together 16 = .ok (.getfield 12, 3) := by decide +kernel
theorem dX6_together_19 : decode cX6_together 19 = .ok (.invokevirtual 117, 3) := by decide +kernel
theorem dX6_together_22 : decode cX6_together 22 = .ok (.aload_n 0, 1) := by decide +kernel
theorem dX6_together_23 : decode cX6_together 23 = .ok (.getfield 29, 3) := by decide +kernel
theorem dX6_together_26 : decode cX6_together 26 = .ok (.invokevirtual 166, 3) := by decide +kernel
theorem dX6_together_29 : decode cX6_together 29 = .ok (.istore_n 2, 1) := by decide +kernel
theorem dX6_together_30 : decode cX6_together 30 = .ok (.iload_n 2, 1) := by decide +kernel
theorem dX6_together_31 : decode cX6_together 31 = .ok (.bipush 61, 2) := by decide +kernel
theorem dX6_together_33 : decode cX6_together 33 = .ok (.if_icmp .ne 14, 3) := by decide +kernel
theorem dX6_together_36 : decode cX6_together 36 = .ok (.iload_n 1, 1) := by decide +kernel
theorem dX6_together_37 : decode cX6_together 37 = .ok (.ifCond .ne 8, 3) := by decide +kernel
theorem dX6_together_40 : decode cX6_together 40 = .ok (.bipush (-4), 2) := by decide +kernel
theorem dX6_together_42 : decode cX6_together 42 = .ok (.goto 4, 3) := by decide +kernel
theorem dX6_together_45 : decode cX6_together 45 = .ok (.iconst 0, 1) := by decide +kernel
theorem dX6_together_46 : decode cX6_together 46 = .ok (.ireturn, 1) := by decide +kernel
theorem dX6_together_47 : decode cX6_together 47 = .ok (.iload_n 1, 1) := by decide +kernel
theorem dX6_together_48 : decode cX6_together 48 = .ok (.ifCond .ne 7, 3) := by decide +kernel
theorem dX6_together_51 : decode cX6_together 51 = .ok (.iload_n 2, 1) := by decide +kernel
theorem dX6_together_52 : decode cX6_together 52 = .ok (.goto 10, 3) := by decide +kernel
theorem dX6_together_55 : decode cX6_together 55 = .ok (.aload_n 0, 1) := by decide +kernel
theorem dX6_together_56 : decode cX6_together 56 = .ok (.getfield 29, 3) := by decide +kernel
theorem dX6_together_59 : decode cX6_together 59 = .ok (.invokevirtual 132, 3) := by decide +kernel
theorem dX6_together_62 : decode cX6_together 62 = .ok (.ireturn, 1) := by decide +kernel
theorem dX6_fix_0 : decode cX6_fix 0 = .ok (.iload_n 1, 1) := by decide +kernel
theorem dX6_fix_1 : decode cX6_fix 1 = .ok (.iconst 1, 1) := by decide +kernel
theorem dX6_fix_2 : decode cX6_fix 2 = .ok (.bipush 12, 2) := by decide +kernel
theorem dX6_fix_4 : decode cX6_fix 4 = .ok (.invokestatic 60, 3) := by decide +kernel
theorem dX6_fix_7 : decode cX6_fix 7 = .ok (.ifCond .eq 19, 3) := by decide +kernel
theorem dX6_fix_10 : decode cX6_fix 10 = .ok (.iload_n 2, 1) := by decide +kernel
theorem dX6_fix_11 : decode cX6_fix 11 = .ok (.iconst (-1), 1) := by decide +kernel
theorem dX6_fix_12 : decode cX6_fix 12 = .ok (.if_icmp .eq 16, 3) := by decide +kernel
theorem dX6_fix_15 : decode cX6_fix 15 = .ok (.aload_n 0, 1) := by decide +kernel
theorem dX6_fix_16 : decode cX6_fix 16 = .ok (.getfield 12, 3) := by decide +kernel
theorem dX6_fix_19 : decode cX6_fix 19 = .ok (.iload_n 2, 1) := by decide +kernel
theorem dX6_fix_20 : decode cX6_fix 20 = .ok (.invokevirtual 79, 3) := by decide +kernel
theorem dX6_fix_23 : decode cX6_fix 23 = .ok (.ifCond .ne 5, 3) := by decide +kernel
theorem dX6_fix_26 : decode cX6_fix 26 = .ok (.iconst (-1), 1) := by decide +kernel
theorem dX6_fix_27 : decode cX6_fix 27 = .ok (.ireturn, 1) := by decide +kernel
theorem dX6_fix_28 : decode cX6_fix 28 = .ok (.aload_n 0, 1) := by decide +kernel
theorem dX6_fix_29 : decode cX6_fix 29 = .ok (.getfield 35, 3) := by decide +kernel
theorem dX6_fix_32 : decode cX6_fix 32 = .ok (.aload_n 0, 1) := by decide +kernel
theorem dX6_fix_33 : decode cX6_fix 33 = .ok (.getfield 12, 3) := by decide +kernel
theorem dX6_fix_36 : decode cX6_fix 36 = .ok (.iload_n 1, 1) := by decide +kernel
theorem dX6_fix_37 : decode cX6_fix 37 = .ok (.invokevirtual 169, 3) := by decide +kernel
theorem dX6_fix_40 : decode cX6_fix 40 = .ok (.istore_n 3, 1) := by decide +kernel
theorem dX6_fix_41 : decode cX6_fix 41 = .ok (.iload_n 3, 1) := by decide +kernel
theorem dX6_fix_42 : decode cX6_fix 42 = .ok (.bipush (-4), 2) := by decide +kernel
theorem dX6_fix_44 : decode cX6_fix 44 = .ok (.if_icmp .eq 8, 3) := by decide +kernel
theorem dX6_fix_47 : decode cX6_fix 47 = .ok (.iload_n 2, 1) := by decide +kernel
theorem dX6_fix_48 : decode cX6_fix 48 = .ok (.iconst (-1), 1) := by decide +kernel
theorem dX6_fix_49 : decode cX6_fix 49 = .ok (.if_icmp .ne 5, 3) := by decide +kernel
theorem dX6_fix_52 : decode cX6_fix 52 = .ok (.iload_n 3, 1) := by decide +kernel
theorem dX6_fix_53 : decode cX6_fix 53 = .ok (.ireturn, 1) := by decide +kernel
theorem dX6_fix_54 : decode cX6_fix 54 = .ok (.aload_n 0, 1) := by decide +kernel
theorem dX6_fix_55 : decode cX6_fix 55 = .ok (.getfield 35, 3) := by decide +kernel
theorem dX6_fix_58 : decode cX6_fix 58 = .ok (.getfield 173, 3) := by decide +kernel
theorem dX6_fix_61 : decode cX6_fix 61 = .ok (.iload_n 2, 1) := by decide +kernel
theorem dX6_fix_62 : decode cX6_fix 62 = .ok (.iaload, 1) := by decide +kernel
theorem dX6_fix_63 : decode cX6_fix 63 = .ok (.iconst 2, 1) := by decide +kernel
theorem dX6_fix_64 : decode cX6_fix 64 = .ok (.iadd, 1) := by decide +kernel
theorem dX6_fix_65 : decode cX6_fix 65 = .ok (.ireturn, 1) := by decide +kernel
theorem dX6_free_0 : decode cX6_free 0 = .ok (.iload_n 1, 1) := by decide +kernel
theorem dX6_free_1 : decode cX6_free 1 = .ok (.iconst 1, 1) := by decide +kernel
theorem dX6_free_2 : decode cX6_free 2 = .ok (.bipush 30, 2) := by decide +kernel
theorem dX6_free_4 : decode cX6_free 4 = .ok (.invokestatic 60, 3) := by decide +kernel
theorem dX6_free_7 : decode cX6_free 7 = .ok (.ifCond .eq 12, 3) := by decide +kernel
theorem dX6_free_10 : decode cX6_free 10 = .ok (.iload_n 2, 1) := by decide +kernel
theorem dX6_free_11 : decode cX6_free 11 = .ok (.iconst 0, 1) := by decide +kernel
theorem dX6_free_12 : decode cX6_free 12 = .ok (.iconst 2, 1) := by decide +kernel
theorem dX6_free_13 : decode cX6_free 13 = .ok (.invokestatic 60, 3) := by decide +kernel
theorem dX6_free_16 : decode cX6_free 16 = .ok (.ifCond .ne 7, 3) := by decide +kernel
theorem dX6_free_19 : decode cX6_free 19 = .ok (.ldc2_w 176, 3) := by decide +kernel
theorem dX6_free_22 : decode cX6_free 22 = .ok (.lreturn, 1) := by decide +kernel
theorem dX6_free_23 : decode cX6_free 23 = .ok (.aload_n 0, 1) := by decide +kernel
theorem dX6_free_24 : decode cX6_free 24 = .ok (.getfield 12, 3) := by decide +kernel
theorem dX6_free_27 : decode cX6_free 27 = .ok (.iload_n 1, 1) := by decide +kernel
theorem dX6_free_28 : decode cX6_free 28 = .ok (.invokevirtual 178, 3) := by decide +kernel
theorem dX6_free_31 : decode cX6_free 31 = .ok (.lstore_n 3, 1) := by decide +kernel
theorem dX6_free_32 : decode cX6_free 32 = .ok (.iload_n 2, 1) := by decide +kernel
theorem dX6_free_33 : decode cX6_free 33 = .ok (.ifCond .ne 5, 3) := by decide +kernel
theorem dX6_free_36 : decode cX6_free 36 = .ok (.lload_n 3, 1) := by decide +kernel
theorem dX6_free_37 : decode cX6_free 37 = .ok (.lreturn, 1) := by decide +kernel
theorem dX6_free_38 : decode cX6_free 38 = .ok (.iload_n 2, 1) := by decide +kernel
theorem dX6_free_39 : decode cX6_free 39 = .ok (.iconst 1, 1) := by decide +kernel
theorem dX6_free_40 : decode cX6_free 40 = .ok (.if_icmp .ne 9, 3) := by decide +kernel
theorem dX6_free_43 : decode cX6_free 43 = .ok (.lload_n 3, 1) := by decide +kernel
theorem dX6_free_44 : decode cX6_free 44 = .ok (.invokestatic 182, 3) := by decide +kernel
theorem dX6_free_47 : decode cX6_free 47 = .ok (.i2l, 1) := by decide +kernel
theorem dX6_free_48 : decode cX6_free 48 = .ok (.lreturn, 1) := by decide +kernel
theorem dX6_free_49 : decode cX6_free 49 = .ok (.lload_n 3, 1) := by decide +kernel
theorem dX6_free_50 : decode cX6_free 50 = .ok (.lconst 0, 1) := by decide +kernel
theorem dX6_free_51 : decode cX6_free 51 = .ok (.lcmp, 1) := by decide +kernel
theorem dX6_free_52 : decode cX6_free 52 = .ok (.ifCond .ne 9, 3) := by decide +kernel
theorem dX6_free_55 : decode cX6_free 55 = .ok (.ldc2_w 188, 3) := by decide +kernel
theorem dX6_free_58 : decode cX6_free 58 = .ok (.goto 8, 3) := by decide +kernel
theorem dX6_free_61 : decode cX6_free 61 = .ok (.lload_n 3, 1) := by decide +kernel
theorem dX6_free_62 : decode cX6_free 62 = .ok (.invokestatic 190, 3) := by decide +kernel
theorem dX6_free_65 : decode cX6_free 65 = .ok (.i2l, 1) := by decide +kernel
theorem dX6_free_66 : decode cX6_free 66 = .ok (.lreturn, 1) := by decide +kernel
theorem dX6_hear_0 : decode cX6_hear 0 = .ok (.aload_n 0, 1) := by decide +kernel
theorem dX6_hear_1 : decode cX6_hear 1 = .ok (.getfield 12, 3) := by decide +kernel
theorem dX6_hear_4 : decode cX6_hear 4 = .ok (.iload_n 1, 1) := by decide +kernel
theorem dX6_hear_5 : decode cX6_hear 5 = .ok (.invokevirtual 79, 3) := by decide +kernel
theorem dX6_hear_8 : decode cX6_hear 8 = .ok (.ifCond .eq 26, 3) := by decide +kernel
theorem dX6_hear_11 : decode cX6_hear 11 = .ok (.iload_n 2, 1) := by decide +kernel
theorem dX6_hear_12 : decode cX6_hear 12 = .ok (.invokestatic 64, 3) := by decide +kernel
theorem dX6_hear_15 : decode cX6_hear 15 = .ok (.ifCond .eq 19, 3) := by decide +kernel
theorem dX6_hear_18 : decode cX6_hear 18 = .ok (.iload_n 3, 1) := by decide +kernel
theorem dX6_hear_19 : decode cX6_hear 19 = .ok (.iconst 1, 1) := by decide +kernel
theorem dX6_hear_20 : decode cX6_hear 20 = .ok (.bipush 9, 2) := by decide +kernel
theorem dX6_hear_22 : decode cX6_hear 22 = .ok (.invokestatic 60, 3) := by decide +kernel
theorem dX6_hear_25 : decode cX6_hear 25 = .ok (.ifCond .eq 9, 3) := by decide +kernel
theorem dX6_hear_28 : decode cX6_hear 28 = .ok (.iload 4, 2) := by decide +kernel
theorem dX6_hear_30 : decode cX6_hear 30 = .ok (.iconst (-1), 1) := by decide +kernel
theorem dX6_hear_31 : decode cX6_hear 31 = .ok (.if_icmp .ge 5, 3) := by decide +kernel
theorem dX6_hear_34 : decode cX6_hear 34 = .ok (.iconst (-1), 1) := by decide +kernel
theorem dX6_hear_35 : decode cX6_hear 35 = .ok (.ireturn, 1) := by decide +kernel
theorem dX6_hear_36 : decode cX6_hear 36 = .ok (.iload 4, 2) := by decide +kernel
theorem dX6_hear_38 : decode cX6_hear 38 = .ok (.aload_n 0, 1) := by decide +kernel
theorem dX6_hear_39 : decode cX6_hear 39 = .ok (.getfield 12, 3) := by decide +kernel
theorem dX6_hear_42 : decode cX6_hear 42 = .ok (.getfield 68, 3) := by decide +kernel
theorem dX6_hear_45 : decode cX6_hear 45 = .ok (.if_icmp .lt 6, 3) := by decide +kernel
theorem dX6_hear_48 : decode cX6_hear 48 = .ok (.bipush (-4), 2) := by decide +kernel
theorem dX6_hear_50 : decode cX6_hear 50 = .ok (.ireturn, 1) := by decide +kernel
theorem dX6_hear_51 : decode cX6_hear 51 = .ok (.aload_n 0, 1) := by decide +kernel
theorem dX6_hear_52 : decode cX6_hear 52 = .ok (.getfield 42, 3) := by decide +kernel
theorem dX6_hear_55 : decode cX6_hear 55 = .ok (.aload_n 0, 1) := by decide +kernel
theorem dX6_hear_56 : decode cX6_hear 56 = .ok (.getfield 12, 3) := by decide +kernel
theorem dX6_hear_59 : decode cX6_hear 59 = .ok (.iload_n 1, 1) := by decide +kernel
theorem dX6_hear_60 : decode cX6_hear 60 = .ok (.iload_n 2, 1) := by decide +kernel
theorem dX6_hear_61 : decode cX6_hear 61 = .ok (.iload_n 3, 1) := by decide +kernel
theorem dX6_hear_62 : decode cX6_hear 62 = .ok (.invokevirtual 193, 3) := by decide +kernel
theorem dX6_hear_65 : decode cX6_hear 65 = .ok (.istore 5, 2) := by decide +kernel
theorem dX6_hear_67 : decode cX6_hear 67 = .ok (.iload 4, 2) := by decide +kernel
theorem dX6_hear_69 : decode cX6_hear 69 = .ok (.iconst (-1), 1) := by decide +kernel
theorem dX6_hear_70 : decode cX6_hear 70 = .ok (.if_icmp .ne 8, 3) := by decide +kernel
theorem dX6_hear_73 : decode cX6_hear 73 = .ok (.iload 5, 2) := by decide +kernel
theorem dX6_hear_75 : decode cX6_hear 75 = .ok (.goto 13, 3) := by decide +kernel
theorem dX6_hear_78 : decode cX6_hear 78 = .ok (.aload_n 0, 1) := by decide +kernel
theorem dX6_hear_79 : decode cX6_hear 79 = .ok (.getfield 42, 3) := by decide +kernel
theorem dX6_hear_82 : decode cX6_hear 82 = .ok (.getfield 197, 3) := by decide +kernel
theorem dX6_hear_85 : decode cX6_hear 85 = .ok (.iload 4, 2) := by decide +kernel
theorem dX6_hear_87 : decode cX6_hear 87 = .ok (.iaload, 1) := by decide +kernel
theorem dX6_hear_88 : decode cX6_hear 88 = .ok (.ireturn, 1) := by decide +kernel
theorem dX6_again_0 : decode cX6_again 0 = .ok (.aload_n 0, 1) := by decide +kernel
theorem dX6_again_1 : decode cX6_again 1 = .ok (.getfield 29, 3) := by decide +kernel
theorem dX6_again_4 : decode cX6_again 4 = .ok (.aload_n 0, 1) := by decide +kernel
theorem dX6_again_5 : decode cX6_again 5 = .ok (.getfield 12, 3) := by decide +kernel
theorem dX6_again_8 : decode cX6_again 8 = .ok (.invokevirtual 117, 3) := by decide +kernel
theorem dX6_again_11 : decode cX6_again 11 = .ok (.iconst 1, 1) := by decide +kernel
theorem dX6_again_12 : decode cX6_again 12 = .ok (.istore_n 1, 1) := by decide +kernel
theorem dX6_again_13 : decode cX6_again 13 = .ok (.iload_n 1, 1) := by decide +kernel
theorem dX6_again_14 : decode cX6_again 14 = .ok (.sipush 240, 3) := by decide +kernel
theorem dX6_again_17 : decode cX6_again 17 = .ok (.if_icmp .gt 38, 3) := by decide +kernel
theorem dX6_again_20 : decode cX6_again 20 = .ok (.aload_n 0, 1) := by decide +kernel
theorem dX6_again_21 : decode cX6_again 21 = .ok (.getfield 29, 3) := by decide +kernel
theorem dX6_again_24 : decode cX6_again 24 = .ok (.invokevirtual 159, 3) := by decide +kernel
theorem dX6_again_27 : decode cX6_again 27 = .ok (.iload_n 1, 1) := by decide +kernel
theorem dX6_again_28 : decode cX6_again 28 = .ok (.iconst 2, 1) := by decide +kernel
theorem dX6_again_29 : decode cX6_again 29 = .ok (.irem, 1) := by decide +kernel
theorem dX6_again_30 : decode cX6_again 30 = .ok (.ifCond .ne 19, 3) := by decide +kernel
theorem dX6_again_33 : decode cX6_again 33 = .ok (.aload_n 0, 1) := by decide +kernel
theorem dX6_again_34 : decode cX6_again 34 = .ok (.getfield 29, 3) := by decide +kernel
theorem dX6_again_37 : decode cX6_again 37 = .ok (.aload_n 0, 1) := by decide +kernel
theorem dX6_again_38 : decode cX6_again 38 = .ok (.getfield 12, 3) := by decide +kernel
theorem dX6_again_41 : decode cX6_again 41 = .ok (.invokevirtual 200, 3) := by decide +kernel
theorem dX6_again_44 : decode cX6_again 44 = .ok (.ifCond .eq 5, 3) := by decide +kernel
theorem dX6_again_47 : decode cX6_again 47 = .ok (.iload_n 1, 1) := by decide +kernel
theorem dX6_again_48 : decode cX6_again 48 = .ok (.ireturn, 1) := by decide +kernel
theorem dX6_again_49 : decode cX6_again 49 = .ok (.iinc 1 1, 3) := by decide +kernel
theorem dX6_again_52 : decode cX6_again 52 = .ok (.goto (-39), 3) := by decide +kernel
theorem dX6_again_55 : decode cX6_again 55 = .ok (.bipush (-4), 2) := by decide +kernel
theorem dX6_again_57 : decode cX6_again 57 = .ok (.ireturn, 1) := by decide +kernel
theorem dX6_worst_0 : decode cX6_worst 0 = .ok (.iload_n 1, 1) := by decide +kernel
theorem dX6_worst_1 : decode cX6_worst 1 = .ok (.iconst 0, 1) := by decide +kernel
theorem dX6_worst_2 : decode cX6_worst 2 = .ok (.iconst 1, 1) := by decide +kernel
theorem dX6_worst_3 : decode cX6_worst 3 = .ok (.invokestatic 60, 3) := by decide +kernel
theorem dX6_worst_6 : decode cX6_worst 6 = .ok (.ifCond .ne 5, 3) := by decide +kernel
theorem dX6_worst_9 : decode cX6_worst 9 = .ok (.iconst (-1), 1) := by decide +kernel
theorem dX6_worst_10 : decode cX6_worst 10 = .ok (.ireturn, 1) := by decide +kernel
theorem dX6_worst_11 : decode cX6_worst 11 = .ok (.bipush (-4), 2) := by decide +kernel
theorem dX6_worst_13 : decode cX6_worst 13 = .ok (.istore_n 2, 1) := by decide +kernel
theorem dX6_worst_14 : decode cX6_worst 14 = .ok (.bipush (-4), 2) := by decide +kernel
theorem dX6_worst_16 : decode cX6_worst 16 = .ok (.istore_n 3, 1) := by decide +kernel
theorem dX6_worst_17 : decode cX6_worst 17 = .ok (.iconst 0, 1) := by decide +kernel
theorem dX6_worst_18 : decode cX6_worst 18 = .ok (.istore 4, 2) := by decide +kernel
theorem dX6_worst_20 : decode cX6_worst 20 = .ok (.iload 4, 2) := by decide +kernel
theorem dX6_worst_22 : decode cX6_worst 22 = .ok (.aload_n 0, 1) := by decide +kernel
theorem dX6_worst_23 : decode cX6_worst 23 = .ok (.getfield 12, 3) := by decide +kernel
theorem dX6_worst_26 : decode cX6_worst 26 = .ok (.getfield 68, 3) := by decide +kernel
theorem dX6_worst_29 : decode cX6_worst 29 = .ok (.if_icmp .ge 29, 3) := by decide +kernel
theorem dX6_worst_32 : decode cX6_worst 32 = .ok (.aload_n 0, 1) := by decide +kernel
theorem dX6_worst_33 : decode cX6_worst 33 = .ok (.iload 4, 2) := by decide +kernel
theorem dX6_worst_35 : decode cX6_worst 35 = .ok (.invokevirtual 203, 3) := by decide +kernel
theorem dX6_worst_38 : decode cX6_worst 38 = .ok (.istore 5, 2) := by decide +kernel
theorem dX6_worst_40 : decode cX6_worst 40 = .ok (.iload 5, 2) := by decide +kernel
theorem dX6_worst_42 : decode cX6_worst 42 = .ok (.iload_n 3, 1) := by decide +kernel
theorem dX6_worst_43 : decode cX6_worst 43 = .ok (.if_icmp .le 9, 3) := by decide +kernel
theorem dX6_worst_46 : decode cX6_worst 46 = .ok (.iload 5, 2) := by decide +kernel
theorem dX6_worst_48 : decode cX6_worst 48 = .ok (.istore_n 3, 1) := by decide +kernel
theorem dX6_worst_49 : decode cX6_worst 49 = .ok (.iload 4, 2) := by decide +kernel
theorem dX6_worst_51 : decode cX6_worst 51 = .ok (.istore_n 2, 1) := by decide +kernel
theorem dX6_worst_52 : decode cX6_worst 52 = .ok (.iinc 4 1, 3) := by decide +kernel
theorem dX6_worst_55 : decode cX6_worst 55 = .ok (.goto (-35), 3) := by decide +kernel
theorem dX6_worst_58 : decode cX6_worst 58 = .ok (.iload_n 1, 1) := by decide +kernel
theorem dX6_worst_59 : decode cX6_worst 59 = .ok (.ifCond .ne 5, 3) := by decide +kernel
theorem dX6_worst_62 : decode cX6_worst 62 = .ok (.iload_n 2, 1) := by decide +kernel
theorem dX6_worst_63 : decode cX6_worst 63 = .ok (.ireturn, 1) := by decide +kernel
theorem dX6_worst_64 : decode cX6_worst 64 = .ok (.iload_n 3, 1) := by decide +kernel
theorem dX6_worst_65 : decode cX6_worst 65 = .ok (.bipush 61, 2) := by decide +kernel
theorem dX6_worst_67 : decode cX6_worst 67 = .ok (.if_icmp .ne 8, 3) := by decide +kernel
theorem dX6_worst_70 : decode cX6_worst 70 = .ok (.bipush (-4), 2) := by decide +kernel
theorem dX6_worst_72 : decode cX6_worst 72 = .ok (.goto 4, 3) := by decide +kernel
theorem dX6_worst_75 : decode cX6_worst 75 = .ok (.iload_n 3, 1) := by decide +kernel
theorem dX6_worst_76 : decode cX6_worst 76 = .ok (.ireturn, 1) := by decide +kernel
theorem dX6_fog_0 : decode cX6_fog 0 = .ok (.iload_n 1, 1) := by decide +kernel
theorem dX6_fog_1 : decode cX6_fog 1 = .ok (.iconst 0, 1) := by decide +kernel
theorem dX6_fog_2 : decode cX6_fog 2 = .ok (.bipush 10, 2) := by decide +kernel
theorem dX6_fog_4 : decode cX6_fog 4 = .ok (.invokestatic 60, 3) := by decide +kernel
theorem dX6_fog_7 : decode cX6_fog 7 = .ok (.ifCond .eq 12, 3) := by decide +kernel
theorem dX6_fog_10 : decode cX6_fog 10 = .ok (.iload_n 2, 1) := by decide +kernel
theorem dX6_fog_11 : decode cX6_fog 11 = .ok (.iconst 0, 1) := by decide +kernel
theorem dX6_fog_12 : decode cX6_fog 12 = .ok (.iconst 1, 1) := by decide +kernel
theorem dX6_fog_13 : decode cX6_fog 13 = .ok (.invokestatic 60, 3) := by decide +kernel
theorem dX6_fog_16 : decode cX6_fog 16 = .ok (.ifCond .ne 5, 3) := by decide +kernel
theorem dX6_fog_19 : decode cX6_fog 19 = .ok (.iconst (-1), 1) := by decide +kernel
theorem dX6_fog_20 : decode cX6_fog 20 = .ok (.ireturn, 1) := by decide +kernel
theorem dX6_fog_21 : decode cX6_fog 21 = .ok (.aload_n 0, 1) := by decide +kernel
theorem dX6_fog_22 : decode cX6_fog 22 = .ok (.iload_n 1, 1) := by decide +kernel
theorem dX6_fog_23 : decode cX6_fog 23 = .ok (.invokevirtual 206, 3) := by decide +kernel
theorem dX6_fog_26 : decode cX6_fog 26 = .ok (.istore_n 3, 1) := by decide +kernel
theorem dX6_fog_27 : decode cX6_fog 27 = .ok (.iconst 1, 1) := by decide +kernel
theorem dX6_fog_28 : decode cX6_fog 28 = .ok (.istore 4, 2) := by decide +kernel
theorem dX6_fog_30 : decode cX6_fog 30 = .ok (.iconst 0, 1) := by decide +kernel
theorem dX6_fog_31 : decode cX6_fog 31 = .ok (.istore 5, 2) := by decide +kernel
theorem dX6_fog_33 : decode cX6_fog 33 = .ok (.iload 5, 2) := by decide +kernel
theorem dX6_fog_35 : decode cX6_fog 35 = .ok (.aload_n 0, 1) := by decide +kernel
theorem dX6_fog_36 : decode cX6_fog 36 = .ok (.getfield 12, 3) := by decide +kernel
theorem dX6_fog_39 : decode cX6_fog 39 = .ok (.getfield 68, 3) := by decide +kernel
theorem dX6_fog_42 : decode cX6_fog 42 = .ok (.if_icmp .ge 16, 3) := by decide +kernel
theorem dX6_fog_45 : decode cX6_fog 45 = .ok (.iload 4, 2) := by decide +kernel
theorem dX6_fog_47 : decode cX6_fog 47 = .ok (.bipush 10, 2) := by decide +kernel
theorem dX6_fog_49 : decode cX6_fog 49 = .ok (.imul, 1) := by decide +kernel
theorem dX6_fog_50 : decode cX6_fog 50 = .ok (.istore 4, 2) := by decide +kernel
theorem dX6_fog_52 : decode cX6_fog 52 = .ok (.iinc 5 1, 3) := by decide +kernel
theorem dX6_fog_55 : decode cX6_fog 55 = .ok (.goto (-22), 3) := by decide +kernel
theorem dX6_fog_58 : decode cX6_fog 58 = .ok (.iconst 1, 1) := by decide +kernel
theorem dX6_fog_59 : decode cX6_fog 59 = .ok (.iload_n 3, 1) := by decide +kernel
theorem dX6_fog_60 : decode cX6_fog 60 = .ok (.iload 4, 2) := by decide +kernel
theorem dX6_fog_62 : decode cX6_fog 62 = .ok (.invokestatic 209, 3) := by decide +kernel
theorem dX6_fog_65 : decode cX6_fog 65 = .ok (.invokestatic 212, 3) := by decide +kernel
theorem dX6_fog_68 : decode cX6_fog 68 = .ok (.istore 5, 2) := by decide +kernel
theorem dX6_fog_70 : decode cX6_fog 70 = .ok (.iload_n 2, 1) := by decide +kernel
theorem dX6_fog_71 : decode cX6_fog 71 = .ok (.ifCond .ne 10, 3) := by decide +kernel
theorem dX6_fog_74 : decode cX6_fog 74 = .ok (.iload_n 3, 1) := by decide +kernel
theorem dX6_fog_75 : decode cX6_fog 75 = .ok (.iload 5, 2) := by decide +kernel
theorem dX6_fog_77 : decode cX6_fog 77 = .ok (.idiv, 1) := by decide +kernel
theorem dX6_fog_78 : decode cX6_fog 78 = .ok (.goto 8, 3) := by decide +kernel
theorem dX6_fog_81 : decode cX6_fog 81 = .ok (.iload 4, 2) := by decide +kernel
theorem dX6_fog_83 : decode cX6_fog 83 = .ok (.iload 5, 2) := by decide +kernel
theorem dX6_fog_85 : decode cX6_fog 85 = .ok (.idiv, 1) := by decide +kernel
theorem dX6_fog_86 : decode cX6_fog 86 = .ok (.ireturn, 1) := by decide +kernel
theorem dX6_image_0 : decode cX6_image 0 = .ok (.aload_n 0, 1) := by decide +kernel
theorem dX6_image_1 : decode cX6_image 1 = .ok (.getfield 23, 3) := by decide +kernel
theorem dX6_image_4 : decode cX6_image 4 = .ok (.aload_n 0, 1) := by decide +kernel
theorem dX6_image_5 : decode cX6_image 5 = .ok (.getfield 12, 3) := by decide +kernel
theorem dX6_image_8 : decode cX6_image 8 = .ok (.invokevirtual 117, 3) := by decide +kernel
theorem dX6_image_11 : decode cX6_image 11 = .ok (.aload_n 0, 1) := by decide +kernel
theorem dX6_image_12 : decode cX6_image 12 = .ok (.getfield 26, 3) := by decide +kernel
theorem dX6_image_15 : decode cX6_image 15 = .ok (.aload_n 0, 1) := by decide +kernel
theorem dX6_image_16 : decode cX6_image 16 = .ok (.getfield 19, 3) := by decide +kernel
theorem dX6_image_19 : decode cX6_image 19 = .ok (.invokevirtual 217, 3) := by decide +kernel
theorem dX6_image_22 : decode cX6_image 22 = .ok (.aload_n 0, 1) := by decide +kernel
theorem dX6_image_23 : decode cX6_image 23 = .ok (.iconst 1, 1) := by decide +kernel
theorem dX6_image_24 : decode cX6_image 24 = .ok (.putfield 220, 3) := by decide +kernel
theorem dX6_image_27 : decode cX6_image 27 = .ok (.iconst 1, 1) := by decide +kernel
theorem dX6_image_28 : decode cX6_image 28 = .ok (.ireturn, 1) := by decide +kernel
theorem dX6_restore_0 : decode cX6_restore 0 = .ok (.aload_n 0, 1) := by decide +kernel
theorem dX6_restore_1 : decode cX6_restore 1 = .ok (.getfield 220, 3) := by decide +kernel
theorem dX6_restore_4 : decode cX6_restore 4 = .ok (.ifCond .ne 6, 3) := by decide +kernel
theorem dX6_restore_7 : decode cX6_restore 7 = .ok (.bipush (-4), 2) := by decide +kernel
theorem dX6_restore_9 : decode cX6_restore 9 = .ok (.ireturn, 1) := by decide +kernel
theorem dX6_restore_10 : decode cX6_restore 10 = .ok (.aload_n 0, 1) := by decide +kernel
theorem dX6_restore_11 : decode cX6_restore 11 = .ok (.getfield 12, 3) := by decide +kernel
theorem dX6_restore_14 : decode cX6_restore 14 = .ok (.aload_n 0, 1) := by decide +kernel
theorem dX6_restore_15 : decode cX6_restore 15 = .ok (.getfield 23, 3) := by decide +kernel
theorem dX6_restore_18 : decode cX6_restore 18 = .ok (.invokevirtual 117, 3) := by decide +kernel
theorem dX6_restore_21 : decode cX6_restore 21 = .ok (.aload_n 0, 1) := by decide +kernel
theorem dX6_restore_22 : decode cX6_restore 22 = .ok (.getfield 19, 3) := by decide +kernel
theorem dX6_restore_25 : decode cX6_restore 25 = .ok (.aload_n 0, 1) := by decide +kernel
theorem dX6_restore_26 : decode cX6_restore 26 = .ok (.getfield 26, 3) := by decide +kernel
theorem dX6_restore_29 : decode cX6_restore 29 = .ok (.invokevirtual 217, 3) := by decide +kernel
theorem dX6_restore_32 : decode cX6_restore 32 = .ok (.iconst 1, 1) := by decide +kernel
theorem dX6_restore_33 : decode cX6_restore 33 = .ok (.ireturn, 1) := by decide +kernel
theorem dX6_foretell_0 : decode cX6_foretell 0 = .ok (.aload_n 0, 1) := by decide +kernel
theorem dX6_foretell_1 : decode cX6_foretell 1 = .ok (.getfield 29, 3) := by decide +kernel
theorem dX6_foretell_4 : decode cX6_foretell 4 = .ok (.aload_n 0, 1) := by decide +kernel
theorem dX6_foretell_5 : decode cX6_foretell 5 = .ok (.getfield 12, 3) := by decide +kernel
theorem dX6_foretell_8 : decode cX6_foretell 8 = .ok (.invokevirtual 117, 3) := by decide +kernel
theorem dX6_foretell_11 : decode cX6_foretell 11 = .ok (.iconst 0, 1) := by decide +kernel
theorem dX6_foretell_12 : decode cX6_foretell 12 = .ok (.istore_n 2, 1) := by decide +kernel
theorem dX6_foretell_13 : decode cX6_foretell 13 = .ok (.iload_n 2, 1) := by decide +kernel
theorem dX6_foretell_14 : decode cX6_foretell 14 = .ok (.iload_n 1, 1) := by decide +kernel
theorem dX6_foretell_15 : decode cX6_foretell 15 = .ok (.if_icmp .ge 16, 3) := by decide +kernel
theorem dX6_foretell_18 : decode cX6_foretell 18 = .ok (.aload_n 0, 1) := by decide +kernel
theorem dX6_foretell_19 : decode cX6_foretell 19 = .ok (.getfield 29, 3) := by decide +kernel
theorem dX6_foretell_22 : decode cX6_foretell 22 = .ok (.invokevirtual 159, 3) := by decide +kernel
theorem dX6_foretell_25 : decode cX6_foretell 25 = .ok (.iinc 2 1, 3) := by decide +kernel
theorem dX6_foretell_28 : decode cX6_foretell 28 = .ok (.goto (-15), 3) := by decide +kernel
theorem dX6_foretell_31 : decode cX6_foretell 31 = .ok (.return_, 1) := by decide +kernel
theorem dX6_togetherWithoutDriftOf_0 : decode cX6_togetherWithoutDriftOf 0 = .ok (.aload_n 0, 1) := by decide +kernel
theorem dX6_togetherWithoutDriftOf_1 : decode cX6_togetherWithoutDriftOf 1 = .ok (.getfield 29, 3) := by decide +kernel
theorem dX6_togetherWithoutDriftOf_4 : decode cX6_togetherWithoutDriftOf 4 = .ok (.aload_n 0, 1) := by decide +kernel
theorem dX6_togetherWithoutDriftOf_5 : decode cX6_togetherWithoutDriftOf 5 = .ok (.getfield 12, 3) := by decide +kernel
theorem dX6_togetherWithoutDriftOf_8 : decode cX6_togetherWithoutDriftOf 8 = .ok (.invokevirtual 117, 3) := by decide +kernel
