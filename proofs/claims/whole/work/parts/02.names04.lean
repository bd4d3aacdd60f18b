theorem dX6_togetherWithoutDriftOf_11 : decode cX6_togetherWithoutDriftOf 11 = .ok (.aload_n 0, 1) := by decide +kernel
theorem dX6_togetherWithoutDriftOf_12 : decode cX6_togetherWithoutDriftOf 12 = .ok (.getfield 29, 3) := by decide +kernel
theorem dX6_togetherWithoutDriftOf_15 : decode cX6_togetherWithoutDriftOf 15 = .ok (.getfield 89, 3) := by decide +kernel
theorem dX6_togetherWithoutDriftOf_18 : decode cX6_togetherWithoutDriftOf 18 = .ok (.iload_n 1, 1) := by decide +kernel
theorem dX6_togetherWithoutDriftOf_19 : decode cX6_togetherWithoutDriftOf 19 = .ok (.iconst 0, 1) := by decide +kernel
theorem dX6_togetherWithoutDriftOf_20 : decode cX6_togetherWithoutDriftOf 20 = .ok (.iastore, 1) := by decide +kernel
theorem dX6_togetherWithoutDriftOf_21 : decode cX6_togetherWithoutDriftOf 21 = .ok (.aload_n 0, 1) := by decide +kernel
theorem dX6_togetherWithoutDriftOf_22 : decode cX6_togetherWithoutDriftOf 22 = .ok (.getfield 29, 3) := by decide +kernel
theorem dX6_togetherWithoutDriftOf_25 : decode cX6_togetherWithoutDriftOf 25 = .ok (.invokevirtual 166, 3) := by decide +kernel
theorem dX6_togetherWithoutDriftOf_28 : decode cX6_togetherWithoutDriftOf 28 = .ok (.ireturn, 1) := by decide +kernel
theorem dX6_fogWaysApart_0 : decode cX6_fogWaysApart 0 = .ok (.iconst 0, 1) := by decide +kernel
theorem dX6_fogWaysApart_1 : decode cX6_fogWaysApart 1 = .ok (.istore_n 2, 1) := by decide +kernel
theorem dX6_fogWaysApart_2 : decode cX6_fogWaysApart 2 = .ok (.iconst 1, 1) := by decide +kernel
theorem dX6_fogWaysApart_3 : decode cX6_fogWaysApart 3 = .ok (.aload_n 0, 1) := by decide +kernel
theorem dX6_fogWaysApart_4 : decode cX6_fogWaysApart 4 = .ok (.getfield 12, 3) := by decide +kernel
theorem dX6_fogWaysApart_7 : decode cX6_fogWaysApart 7 = .ok (.getfield 68, 3) := by decide +kernel
theorem dX6_fogWaysApart_10 : decode cX6_fogWaysApart 10 = .ok (.ishl, 1) := by decide +kernel
theorem dX6_fogWaysApart_11 : decode cX6_fogWaysApart 11 = .ok (.istore_n 3, 1) := by decide +kernel
theorem dX6_fogWaysApart_12 : decode cX6_fogWaysApart 12 = .ok (.iconst 0, 1) := by decide +kernel
theorem dX6_fogWaysApart_13 : decode cX6_fogWaysApart 13 = .ok (.istore 4, 2) := by decide +kernel
theorem dX6_fogWaysApart_15 : decode cX6_fogWaysApart 15 = .ok (.iload 4, 2) := by decide +kernel
theorem dX6_fogWaysApart_17 : decode cX6_fogWaysApart 17 = .ok (.iload_n 3, 1) := by decide +kernel
theorem dX6_fogWaysApart_18 : decode cX6_fogWaysApart 18 = .ok (.if_icmp .ge 73, 3) := by decide +kernel
theorem dX6_fogWaysApart_21 : decode cX6_fogWaysApart 21 = .ok (.aload_n 0, 1) := by decide +kernel
theorem dX6_fogWaysApart_22 : decode cX6_fogWaysApart 22 = .ok (.getfield 12, 3) := by decide +kernel
theorem dX6_fogWaysApart_25 : decode cX6_fogWaysApart 25 = .ok (.iload 4, 2) := by decide +kernel
theorem dX6_fogWaysApart_27 : decode cX6_fogWaysApart 27 = .ok (.invokevirtual 224, 3) := by decide +kernel
theorem dX6_fogWaysApart_30 : decode cX6_fogWaysApart 30 = .ok (.ifCond .eq 55, 3) := by decide +kernel
theorem dX6_fogWaysApart_33 : decode cX6_fogWaysApart 33 = .ok (.iconst 1, 1) := by decide +kernel
theorem dX6_fogWaysApart_34 : decode cX6_fogWaysApart 34 = .ok (.istore 5, 2) := by decide +kernel
theorem dX6_fogWaysApart_36 : decode cX6_fogWaysApart 36 = .ok (.iconst 0, 1) := by decide +kernel
theorem dX6_fogWaysApart_37 : decode cX6_fogWaysApart 37 = .ok (.istore 6, 2) := by decide +kernel
theorem dX6_fogWaysApart_39 : decode cX6_fogWaysApart 39 = .ok (.iload 6, 2) := by decide +kernel
theorem dX6_fogWaysApart_41 : decode cX6_fogWaysApart 41 = .ok (.aload_n 0, 1) := by decide +kernel
theorem dX6_fogWaysApart_42 : decode cX6_fogWaysApart 42 = .ok (.getfield 12, 3) := by decide +kernel
theorem dX6_fogWaysApart_45 : decode cX6_fogWaysApart 45 = .ok (.getfield 68, 3) := by decide +kernel
theorem dX6_fogWaysApart_48 : decode cX6_fogWaysApart 48 = .ok (.if_icmp .ge 32, 3) := by decide +kernel
theorem dX6_fogWaysApart_51 : decode cX6_fogWaysApart 51 = .ok (.iload 5, 2) := by decide +kernel
theorem dX6_fogWaysApart_53 : decode cX6_fogWaysApart 53 = .ok (.iload 4, 2) := by decide +kernel
theorem dX6_fogWaysApart_55 : decode cX6_fogWaysApart 55 = .ok (.iload 6, 2) := by decide +kernel
theorem dX6_fogWaysApart_57 : decode cX6_fogWaysApart 57 = .ok (.invokestatic 227, 3) := by decide +kernel
theorem dX6_fogWaysApart_60 : decode cX6_fogWaysApart 60 = .ok (.ifCond .eq 7, 3) := by decide +kernel
theorem dX6_fogWaysApart_63 : decode cX6_fogWaysApart 63 = .ok (.iload_n 1, 1) := by decide +kernel
theorem dX6_fogWaysApart_64 : decode cX6_fogWaysApart 64 = .ok (.goto 7, 3) := by decide +kernel
theorem dX6_fogWaysApart_67 : decode cX6_fogWaysApart 67 = .ok (.bipush 10, 2) := by decide +kernel
theorem dX6_fogWaysApart_69 : decode cX6_fogWaysApart 69 = .ok (.iload_n 1, 1) := by decide +kernel
theorem dX6_fogWaysApart_70 : decode cX6_fogWaysApart 70 = .ok (.isub, 1) := by decide +kernel
theorem dX6_fogWaysApart_71 : decode cX6_fogWaysApart 71 = .ok (.imul, 1) := by decide +kernel
theorem dX6_fogWaysApart_72 : decode cX6_fogWaysApart 72 = .ok (.istore 5, 2) := by decide +kernel
theorem dX6_fogWaysApart_74 : decode cX6_fogWaysApart 74 = .ok (.iinc 6 1, 3) := by decide +kernel
theorem dX6_fogWaysApart_77 : decode cX6_fogWaysApart 77 = .ok (.goto (-38), 3) := by decide +kernel
theorem dX6_fogWaysApart_80 : decode cX6_fogWaysApart 80 = .ok (.iload_n 2, 1) := by decide +kernel
theorem dX6_fogWaysApart_81 : decode cX6_fogWaysApart 81 = .ok (.iload 5, 2) := by decide +kernel
theorem dX6_fogWaysApart_83 : decode cX6_fogWaysApart 83 = .ok (.iadd, 1) := by decide +kernel
theorem dX6_fogWaysApart_84 : decode cX6_fogWaysApart 84 = .ok (.istore_n 2, 1) := by decide +kernel
theorem dX6_fogWaysApart_85 : decode cX6_fogWaysApart 85 = .ok (.iinc 4 1, 3) := by decide +kernel
theorem dX6_fogWaysApart_88 : decode cX6_fogWaysApart 88 = .ok (.goto (-73), 3) := by decide +kernel
theorem dX6_fogWaysApart_91 : decode cX6_fogWaysApart 91 = .ok (.iload_n 2, 1) := by decide +kernel
theorem dX6_fogWaysApart_92 : decode cX6_fogWaysApart 92 = .ok (.ireturn, 1) := by decide +kernel
theorem dX6_heard_0 : decode cX6_heard 0 = .ok (.aload_n 0, 1) := by decide +kernel
theorem dX6_heard_1 : decode cX6_heard 1 = .ok (.getfield 12, 3) := by decide +kernel
theorem dX6_heard_4 : decode cX6_heard 4 = .ok (.iload_n 1, 1) := by decide +kernel
theorem dX6_heard_5 : decode cX6_heard 5 = .ok (.invokevirtual 79, 3) := by decide +kernel
theorem dX6_heard_8 : decode cX6_heard 8 = .ok (.ifCond .eq 32, 3) := by decide +kernel
theorem dX6_heard_11 : decode cX6_heard 11 = .ok (.iload_n 2, 1) := by decide +kernel
theorem dX6_heard_12 : decode cX6_heard 12 = .ok (.iload_n 3, 1) := by decide +kernel
theorem dX6_heard_13 : decode cX6_heard 13 = .ok (.invokestatic 230, 3) := by decide +kernel
theorem dX6_heard_16 : decode cX6_heard 16 = .ok (.ifCond .eq 24, 3) := by decide +kernel
theorem dX6_heard_19 : decode cX6_heard 19 = .ok (.iload 5, 2) := by decide +kernel
theorem dX6_heard_21 : decode cX6_heard 21 = .ok (.iconst 1, 1) := by decide +kernel
theorem dX6_heard_22 : decode cX6_heard 22 = .ok (.bipush 8, 2) := by decide +kernel
theorem dX6_heard_24 : decode cX6_heard 24 = .ok (.invokestatic 60, 3) := by decide +kernel
theorem dX6_heard_27 : decode cX6_heard 27 = .ok (.ifCond .eq 13, 3) := by decide +kernel
theorem dX6_heard_30 : decode cX6_heard 30 = .ok (.iload 6, 2) := by decide +kernel
theorem dX6_heard_32 : decode cX6_heard 32 = .ok (.iconst 0, 1) := by decide +kernel
theorem dX6_heard_33 : decode cX6_heard 33 = .ok (.iconst 1, 1) := by decide +kernel
theorem dX6_heard_34 : decode cX6_heard 34 = .ok (.invokestatic 60, 3) := by decide +kernel
theorem dX6_heard_37 : decode cX6_heard 37 = .ok (.ifCond .ne 5, 3) := by decide +kernel
theorem dX6_heard_40 : decode cX6_heard 40 = .ok (.iconst (-1), 1) := by decide +kernel
theorem dX6_heard_41 : decode cX6_heard 41 = .ok (.ireturn, 1) := by decide +kernel
theorem dX6_heard_42 : decode cX6_heard 42 = .ok (.aload_n 0, 1) := by decide +kernel
theorem dX6_heard_43 : decode cX6_heard 43 = .ok (.getfield 56, 3) := by decide +kernel
theorem dX6_heard_46 : decode cX6_heard 46 = .ok (.iload_n 2, 1) := by decide +kernel
theorem dX6_heard_47 : decode cX6_heard 47 = .ok (.aaload, 1) := by decide +kernel
theorem dX6_heard_48 : decode cX6_heard 48 = .ok (.iload_n 3, 1) := by decide +kernel
theorem dX6_heard_49 : decode cX6_heard 49 = .ok (.iload 4, 2) := by decide +kernel
theorem dX6_heard_51 : decode cX6_heard 51 = .ok (.iload 5, 2) := by decide +kernel
theorem dX6_heard_53 : decode cX6_heard 53 = .ok (.invokevirtual 233, 3) := by decide +kernel
theorem dX6_heard_56 : decode cX6_heard 56 = .ok (.istore 7, 2) := by decide +kernel
theorem dX6_heard_58 : decode cX6_heard 58 = .ok (.iload 7, 2) := by decide +kernel
theorem dX6_heard_60 : decode cX6_heard 60 = .ok (.ifCond .eq 6, 3) := by decide +kernel
theorem dX6_heard_63 : decode cX6_heard 63 = .ok (.iload 7, 2) := by decide +kernel
theorem dX6_heard_65 : decode cX6_heard 65 = .ok (.ireturn, 1) := by decide +kernel
theorem dX6_heard_66 : decode cX6_heard 66 = .ok (.iload 6, 2) := by decide +kernel
theorem dX6_heard_68 : decode cX6_heard 68 = .ok (.ifCond .ne 21, 3) := by decide +kernel
theorem dX6_heard_71 : decode cX6_heard 71 = .ok (.aload_n 0, 1) := by decide +kernel
theorem dX6_heard_72 : decode cX6_heard 72 = .ok (.iload_n 1, 1) := by decide +kernel
theorem dX6_heard_73 : decode cX6_heard 73 = .ok (.aload_n 0, 1) := by decide +kernel
theorem dX6_heard_74 : decode cX6_heard 74 = .ok (.getfield 56, 3) := by decide +kernel
theorem dX6_heard_77 : decode cX6_heard 77 = .ok (.iload_n 2, 1) := by decide +kernel
theorem dX6_heard_78 : decode cX6_heard 78 = .ok (.aaload, 1) := by decide +kernel
theorem dX6_heard_79 : decode cX6_heard 79 = .ok (.iload 4, 2) := by decide +kernel
theorem dX6_heard_81 : decode cX6_heard 81 = .ok (.iload 5, 2) := by decide +kernel
theorem dX6_heard_83 : decode cX6_heard 83 = .ok (.invokevirtual 237, 3) := by decide +kernel
theorem dX6_heard_86 : decode cX6_heard 86 = .ok (.goto 18, 3) := by decide +kernel
theorem dX6_heard_89 : decode cX6_heard 89 = .ok (.aload_n 0, 1) := by decide +kernel
theorem dX6_heard_90 : decode cX6_heard 90 = .ok (.iload_n 1, 1) := by decide +kernel
theorem dX6_heard_91 : decode cX6_heard 91 = .ok (.aload_n 0, 1) := by decide +kernel
theorem dX6_heard_92 : decode cX6_heard 92 = .ok (.getfield 56, 3) := by decide +kernel
theorem dX6_heard_95 : decode cX6_heard 95 = .ok (.iload_n 2, 1) := by decide +kernel
theorem dX6_heard_96 : decode cX6_heard 96 = .ok (.aaload, 1) := by decide +kernel
theorem dX6_heard_97 : decode cX6_heard 97 = .ok (.iload 4, 2) := by decide +kernel
theorem dX6_heard_99 : decode cX6_heard 99 = .ok (.iload 5, 2) := by decide +kernel
theorem dX6_heard_101 : decode cX6_heard 101 = .ok (.invokevirtual 241, 3) := by decide +kernel
theorem dX6_heard_104 : decode cX6_heard 104 = .ok (.ireturn, 1) := by decide +kernel
theorem dX6_film_0 : decode cX6_film 0 = .ok (.aload_n 0, 1) := by decide +kernel
theorem dX6_film_1 : decode cX6_film 1 = .ok (.getfield 12, 3) := by decide +kernel
theorem dX6_film_4 : decode cX6_film 4 = .ok (.iload_n 1, 1) := by decide +kernel
theorem dX6_film_5 : decode cX6_film 5 = .ok (.invokevirtual 79, 3) := by decide +kernel
theorem dX6_film_8 : decode cX6_film 8 = .ok (.ifCond .eq 22, 3) := by decide +kernel
theorem dX6_film_11 : decode cX6_film 11 = .ok (.iload_n 2, 1) := by decide +kernel
theorem dX6_film_12 : decode cX6_film 12 = .ok (.iconst 1, 1) := by decide +kernel
theorem dX6_film_13 : decode cX6_film 13 = .ok (.bipush 24, 2) := by decide +kernel
theorem dX6_film_15 : decode cX6_film 15 = .ok (.invokestatic 60, 3) := by decide +kernel
theorem dX6_film_18 : decode cX6_film 18 = .ok (.ifCond .eq 12, 3) := by decide +kernel
theorem dX6_film_21 : decode cX6_film 21 = .ok (.iload_n 3, 1) := by decide +kernel
theorem dX6_film_22 : decode cX6_film 22 = .ok (.iload 4, 2) := by decide +kernel
theorem dX6_film_24 : decode cX6_film 24 = .ok (.invokestatic 230, 3) := by decide +kernel
theorem dX6_film_27 : decode cX6_film 27 = .ok (.ifCond .ne 5, 3) := by decide +kernel
theorem dX6_film_30 : decode cX6_film 30 = .ok (.iconst (-1), 1) := by decide +kernel
theorem dX6_film_31 : decode cX6_film 31 = .ok (.ireturn, 1) := by decide +kernel
theorem dX6_film_32 : decode cX6_film 32 = .ok (.aload_n 0, 1) := by decide +kernel
theorem dX6_film_33 : decode cX6_film 33 = .ok (.getfield 56, 3) := by decide +kernel
theorem dX6_film_36 : decode cX6_film 36 = .ok (.iload_n 3, 1) := by decide +kernel
theorem dX6_film_37 : decode cX6_film 37 = .ok (.aaload, 1) := by decide +kernel
theorem dX6_film_38 : decode cX6_film 38 = .ok (.iload 4, 2) := by decide +kernel
theorem dX6_film_40 : decode cX6_film 40 = .ok (.iload 5, 2) := by decide +kernel
theorem dX6_film_42 : decode cX6_film 42 = .ok (.iload_n 2, 1) := by decide +kernel
theorem dX6_film_43 : decode cX6_film 43 = .ok (.invokevirtual 233, 3) := by decide +kernel
theorem dX6_film_46 : decode cX6_film 46 = .ok (.istore 6, 2) := by decide +kernel
theorem dX6_film_48 : decode cX6_film 48 = .ok (.iload 6, 2) := by decide +kernel
theorem dX6_film_50 : decode cX6_film 50 = .ok (.ifCond .eq 6, 3) := by decide +kernel
theorem dX6_film_53 : decode cX6_film 53 = .ok (.iload 6, 2) := by decide +kernel
theorem dX6_film_55 : decode cX6_film 55 = .ok (.ireturn, 1) := by decide +kernel
theorem dX6_film_56 : decode cX6_film 56 = .ok (.aload_n 0, 1) := by decide +kernel
theorem dX6_film_57 : decode cX6_film 57 = .ok (.getfield 29, 3) := by decide +kernel
theorem dX6_film_60 : decode cX6_film 60 = .ok (.aload_n 0, 1) := by decide +kernel
theorem dX6_film_61 : decode cX6_film 61 = .ok (.getfield 12, 3) := by decide +kernel
theorem dX6_film_64 : decode cX6_film 64 = .ok (.invokevirtual 117, 3) := by decide +kernel
theorem dX6_film_67 : decode cX6_film 67 = .ok (.iconst 0, 1) := by decide +kernel
theorem dX6_film_68 : decode cX6_film 68 = .ok (.istore 7, 2) := by decide +kernel
theorem dX6_film_70 : decode cX6_film 70 = .ok (.iload 7, 2) := by decide +kernel
theorem dX6_film_72 : decode cX6_film 72 = .ok (.iload_n 2, 1) := by decide +kernel
theorem dX6_film_73 : decode cX6_film 73 = .ok (.if_icmp .ge 40, 3) := by decide +kernel
theorem dX6_film_76 : decode cX6_film 76 = .ok (.aload_n 0, 1) := by decide +kernel
theorem dX6_film_77 : decode cX6_film 77 = .ok (.getfield 29, 3) := by decide +kernel
theorem dX6_film_80 : decode cX6_film 80 = .ok (.invokevirtual 159, 3) := by decide +kernel
theorem dX6_film_83 : decode cX6_film 83 = .ok (.aload_n 0, 1) := by decide +kernel
theorem dX6_film_84 : decode cX6_film 84 = .ok (.getfield 56, 3) := by decide +kernel
theorem dX6_film_87 : decode cX6_film 87 = .ok (.iload_n 3, 1) := by decide +kernel
theorem dX6_film_88 : decode cX6_film 88 = .ok (.aaload, 1) := by decide +kernel
theorem dX6_film_89 : decode cX6_film 89 = .ok (.iload 5, 2) := by decide +kernel
theorem dX6_film_91 : decode cX6_film 91 = .ok (.iload 7, 2) := by decide +kernel
theorem dX6_film_93 : decode cX6_film 93 = .ok (.iadd, 1) := by decide +kernel
theorem dX6_film_94 : decode cX6_film 94 = .ok (.aload_n 0, 1) := by decide +kernel
theorem dX6_film_95 : decode cX6_film 95 = .ok (.getfield 29, 3) := by decide +kernel
theorem dX6_film_98 : decode cX6_film 98 = .ok (.getfield 86, 3) := by decide +kernel
theorem dX6_film_101 : decode cX6_film 101 = .ok (.iload_n 1, 1) := by decide +kernel
theorem dX6_film_102 : decode cX6_film 102 = .ok (.iaload, 1) := by decide +kernel
theorem dX6_film_103 : decode cX6_film 103 = .ok (.i2l, 1) := by decide +kernel
theorem dX6_film_104 : decode cX6_film 104 = .ok (.invokevirtual 244, 3) := by decide +kernel
theorem dX6_film_107 : decode cX6_film 107 = .ok (.iinc 7 1, 3) := by decide +kernel
theorem dX6_film_110 : decode cX6_film 110 = .ok (.goto (-40), 3) := by decide +kernel
theorem dX6_film_113 : decode cX6_film 113 = .ok (.iload_n 2, 1) := by decide +kernel
theorem dX6_film_114 : decode cX6_film 114 = .ok (.ireturn, 1) := by decide +kernel
theorem dX6_sheet_0 : decode cX6_sheet 0 = .ok (.iload_n 1, 1) := by decide +kernel
theorem dX6_sheet_1 : decode cX6_sheet 1 = .ok (.iload_n 2, 1) := by decide +kernel
theorem dX6_sheet_2 : decode cX6_sheet 2 = .ok (.invokestatic 230, 3) := by decide +kernel
theorem dX6_sheet_5 : decode cX6_sheet 5 = .ok (.ifCond .eq 9, 3) := by decide +kernel
theorem dX6_sheet_8 : decode cX6_sheet 8 = .ok (.iload_n 3, 1) := by decide +kernel
theorem dX6_sheet_9 : decode cX6_sheet 9 = .ok (.bipush 24, 2) := by decide +kernel
theorem dX6_sheet_11 : decode cX6_sheet 11 = .ok (.if_icmp .le 5, 3) := by decide +kernel
theorem dX6_sheet_14 : decode cX6_sheet 14 = .ok (.iconst (-1), 1) := by decide +kernel
theorem dX6_sheet_15 : decode cX6_sheet 15 = .ok (.ireturn, 1) := by decide +kernel
theorem dX6_sheet_16 : decode cX6_sheet 16 = .ok (.iload_n 3, 1) := by decide +kernel
theorem dX6_sheet_17 : decode cX6_sheet 17 = .ok (.ifCond .ge 6, 3) := by decide +kernel
theorem dX6_sheet_20 : decode cX6_sheet 20 = .ok (.bipush (-14), 2) := by decide +kernel
theorem dX6_sheet_22 : decode cX6_sheet 22 = .ok (.ireturn, 1) := by decide +kernel
theorem dX6_sheet_23 : decode cX6_sheet 23 = .ok (.aload_n 0, 1) := by decide +kernel
theorem dX6_sheet_24 : decode cX6_sheet 24 = .ok (.getfield 56, 3) := by decide +kernel
theorem dX6_sheet_27 : decode cX6_sheet 27 = .ok (.iload_n 1, 1) := by decide +kernel
theorem dX6_sheet_28 : decode cX6_sheet 28 = .ok (.aaload, 1) := by decide +kernel
theorem dX6_sheet_29 : decode cX6_sheet 29 = .ok (.iload_n 2, 1) := by decide +kernel
theorem dX6_sheet_30 : decode cX6_sheet 30 = .ok (.iload_n 3, 1) := by decide +kernel
theorem dX6_sheet_31 : decode cX6_sheet 31 = .ok (.invokevirtual 247, 3) := by decide +kernel
theorem dX6_sheet_34 : decode cX6_sheet 34 = .ok (.iload_n 3, 1) := by decide +kernel
theorem dX6_sheet_35 : decode cX6_sheet 35 = .ok (.ireturn, 1) := by decide +kernel
theorem dX6_drop_0 : decode cX6_drop 0 = .ok (.iload_n 1, 1) := by decide +kernel
theorem dX6_drop_1 : decode cX6_drop 1 = .ok (.iconst 0, 1) := by decide +kernel
theorem dX6_drop_2 : decode cX6_drop 2 = .ok (.iconst 3, 1) := by decide +kernel
theorem dX6_drop_3 : decode cX6_drop 3 = .ok (.invokestatic 60, 3) := by decide +kernel
theorem dX6_drop_6 : decode cX6_drop 6 = .ok (.ifCond .ne 5, 3) := by decide +kernel
theorem dX6_drop_9 : decode cX6_drop 9 = .ok (.iconst (-1), 1) := by decide +kernel
theorem dX6_drop_10 : decode cX6_drop 10 = .ok (.ireturn, 1) := by decide +kernel
theorem dX6_drop_11 : decode cX6_drop 11 = .ok (.aload_n 0, 1) := by decide +kernel
theorem dX6_drop_12 : decode cX6_drop 12 = .ok (.getfield 56, 3) := by decide +kernel
theorem dX6_drop_15 : decode cX6_drop 15 = .ok (.iload_n 1, 1) := by decide +kernel
theorem dX6_drop_16 : decode cX6_drop 16 = .ok (.aaload, 1) := by decide +kernel
theorem dX6_drop_17 : decode cX6_drop 17 = .ok (.invokevirtual 251, 3) := by decide +kernel
theorem dX6_drop_20 : decode cX6_drop 20 = .ok (.ifCond .eq 6, 3) := by decide +kernel
theorem dX6_drop_23 : decode cX6_drop 23 = .ok (.bipush (-11), 2) := by decide +kernel
theorem dX6_drop_25 : decode cX6_drop 25 = .ok (.ireturn, 1) := by decide +kernel
theorem dX6_drop_26 : decode cX6_drop 26 = .ok (.aload_n 0, 1) := by decide +kernel
theorem dX6_drop_27 : decode cX6_drop 27 = .ok (.getfield 56, 3) := by decide +kernel
theorem dX6_drop_30 : decode cX6_drop 30 = .ok (.iload_n 1, 1) := by decide +kernel
theorem dX6_drop_31 : decode cX6_drop 31 = .ok (.aaload, 1) := by decide +kernel
theorem dX6_drop_32 : decode cX6_drop 32 = .ok (.getfield 255, 3) := by decide +kernel
theorem dX6_drop_35 : decode cX6_drop 35 = .ok (.istore_n 2, 1) := by decide +kernel
theorem dX6_drop_36 : decode cX6_drop 36 = .ok (.aload_n 0, 1) := by decide +kernel
theorem dX6_drop_37 : decode cX6_drop 37 = .ok (.getfield 56, 3) := by decide +kernel
theorem dX6_drop_40 : decode cX6_drop 40 = .ok (.iload_n 1, 1) := by decide +kernel
theorem dX6_drop_41 : decode cX6_drop 41 = .ok (.aaload, 1) := by decide +kernel
theorem dX6_drop_42 : decode cX6_drop 42 = .ok (.invokevirtual 256, 3) := by decide +kernel
theorem dX6_drop_45 : decode cX6_drop 45 = .ok (.iload_n 2, 1) := by decide +kernel
theorem dX6_drop_46 : decode cX6_drop 46 = .ok (.ireturn, 1) := by decide +kernel
theorem dX6_item_0 : decode cX6_item 0 = .ok (.iload_n 1, 1) := by decide +kernel
theorem dX6_item_1 : decode cX6_item 1 = .ok (.iload_n 2, 1) := by decide +kernel
theorem dX6_item_2 : decode cX6_item 2 = .ok (.invokestatic 230, 3) := by decide +kernel
theorem dX6_item_5 : decode cX6_item 5 = .ok (.ifCond .ne 5, 3) := by decide +kernel
theorem dX6_item_8 : decode cX6_item 8 = .ok (.iconst (-1), 1) := by decide +kernel
theorem dX6_item_9 : decode cX6_item 9 = .ok (.ireturn, 1) := by decide +kernel
theorem dX6_item_10 : decode cX6_item 10 = .ok (.aload_n 0, 1) := by decide +kernel
theorem dX6_item_11 : decode cX6_item 11 = .ok (.getfield 56, 3) := by decide +kernel
theorem dX6_item_14 : decode cX6_item 14 = .ok (.iload_n 1, 1) := by decide +kernel
theorem dX6_item_15 : decode cX6_item 15 = .ok (.aaload, 1) := by decide +kernel
theorem dX6_item_16 : decode cX6_item 16 = .ok (.iload_n 2, 1) := by decide +kernel
theorem dX6_item_17 : decode cX6_item 17 = .ok (.iload_n 3, 1) := by decide +kernel
theorem dX6_item_18 : decode cX6_item 18 = .ok (.iconst 1, 1) := by decide +kernel
theorem dX6_item_19 : decode cX6_item 19 = .ok (.invokevirtual 233, 3) := by decide +kernel
theorem dX6_item_22 : decode cX6_item 22 = .ok (.istore 6, 2) := by decide +kernel
theorem dX6_item_24 : decode cX6_item 24 = .ok (.iload 6, 2) := by decide +kernel
theorem dX6_item_26 : decode cX6_item 26 = .ok (.ifCond .eq 6, 3) := by decide +kernel
theorem dX6_item_29 : decode cX6_item 29 = .ok (.iload 6, 2) := by decide +kernel
theorem dX6_item_31 : decode cX6_item 31 = .ok (.ireturn, 1) := by decide +kernel
theorem dX6_item_32 : decode cX6_item 32 = .ok (.aload_n 0, 1) := by decide +kernel
theorem dX6_item_33 : decode cX6_item 33 = .ok (.getfield 56, 3) := by decide +kernel
theorem dX6_item_36 : decode cX6_item 36 = .ok (.iload_n 1, 1) := by decide +kernel
theorem dX6_item_37 : decode cX6_item 37 = .ok (.aaload, 1) := by decide +kernel
theorem dX6_item_38 : decode cX6_item 38 = .ok (.iload_n 3, 1) := by decide +kernel
theorem dX6_item_39 : decode cX6_item 39 = .ok (.lload 4, 2) := by decide +kernel
theorem dX6_item_41 : decode cX6_item 41 = .ok (.invokevirtual 244, 3) := by decide +kernel
theorem dX6_item_44 : decode cX6_item 44 = .ok (.iconst 1, 1) := by decide +kernel
theorem dX6_item_45 : decode cX6_item 45 = .ok (.ireturn, 1) := by decide +kernel
theorem dX6_copy_0 : decode cX6_copy 0 = .ok (.iload_n 1, 1) := by decide +kernel
theorem dX6_copy_1 : decode cX6_copy 1 = .ok (.iconst 0, 1) := by decide +kernel
theorem dX6_copy_2 : decode cX6_copy 2 = .ok (.iconst 3, 1) := by decide +kernel
theorem dX6_copy_3 : decode cX6_copy 3 = .ok (.invokestatic 60, 3) := by decide +kernel
theorem dX6_copy_6 : decode cX6_copy 6 = .ok (.ifCond .eq 12, 3) := by decide +kernel
theorem dX6_copy_9 : decode cX6_copy 9 = .ok (.iload_n 3, 1) := by decide +kernel
theorem dX6_copy_10 : decode cX6_copy 10 = .ok (.iconst 0, 1) := by decide +kernel
theorem dX6_copy_11 : decode cX6_copy 11 = .ok (.iconst 3, 1) := by decide +kernel
theorem dX6_copy_12 : decode cX6_copy 12 = .ok (.invokestatic 60, 3) := by decide +kernel
theorem dX6_copy_15 : decode cX6_copy 15 = .ok (.ifCond .ne 5, 3) := by decide +kernel
theorem dX6_copy_18 : decode cX6_copy 18 = .ok (.iconst (-1), 1) := by decide +kernel
theorem dX6_copy_19 : decode cX6_copy 19 = .ok (.ireturn, 1) := by decide +kernel
theorem dX6_copy_20 : decode cX6_copy 20 = .ok (.aload_n 0, 1) := by decide +kernel
theorem dX6_copy_21 : decode cX6_copy 21 = .ok (.getfield 56, 3) := by decide +kernel
theorem dX6_copy_24 : decode cX6_copy 24 = .ok (.iload_n 1, 1) := by decide +kernel
theorem dX6_copy_25 : decode cX6_copy 25 = .ok (.aaload, 1) := by decide +kernel
theorem dX6_copy_26 : decode cX6_copy 26 = .ok (.astore 6, 2) := by decide +kernel
theorem dX6_copy_28 : decode cX6_copy 28 = .ok (.aload_n 0, 1) := by decide +kernel
theorem dX6_copy_29 : decode cX6_copy 29 = .ok (.getfield 56, 3) := by decide +kernel
theorem dX6_copy_32 : decode cX6_copy 32 = .ok (.iload_n 3, 1) := by decide +kernel
theorem dX6_copy_33 : decode cX6_copy 33 = .ok (.aaload, 1) := by decide +kernel
theorem dX6_copy_34 : decode cX6_copy 34 = .ok (.astore 7, 2) := by decide +kernel
theorem dX6_copy_36 : decode cX6_copy 36 = .ok (.aload 6, 2) := by decide +kernel
theorem dX6_copy_38 : decode cX6_copy 38 = .ok (.invokevirtual 251, 3) := by decide +kernel
theorem dX6_copy_41 : decode cX6_copy 41 = .ok (.ifCond .ne 11, 3) := by decide +kernel
theorem dX6_copy_44 : decode cX6_copy 44 = .ok (.aload 7, 2) := by decide +kernel
theorem dX6_copy_46 : decode cX6_copy 46 = .ok (.invokevirtual 251, 3) := by decide +kernel
theorem dX6_copy_49 : decode cX6_copy 49 = .ok (.ifCond .eq 6, 3) := by decide +kernel
theorem dX6_copy_52 : decode cX6_copy 52 = .ok (.bipush (-11), 2) := by decide +kernel
theorem dX6_copy_54 : decode cX6_copy 54 = .ok (.ireturn, 1) := by decide +kernel
theorem dX6_copy_55 : decode cX6_copy 55 = .ok (.aload 6, 2) := by decide +kernel
theorem dX6_copy_57 : decode cX6_copy 57 = .ok (.getfield 259, 3) := by decide +kernel
theorem dX6_copy_60 : decode cX6_copy 60 = .ok (.aload 7, 2) := by decide +kernel
theorem dX6_copy_62 : decode cX6_copy 62 = .ok (.getfield 259, 3) := by decide +kernel
theorem dX6_copy_65 : decode cX6_copy 65 = .ok (.if_icmp .eq 6, 3) := by decide +kernel
theorem dX6_copy_68 : decode cX6_copy 68 = .ok (.bipush (-12), 2) := by decide +kernel
theorem dX6_copy_70 : decode cX6_copy 70 = .ok (.ireturn, 1) := by decide +kernel
theorem dX6_copy_71 : decode cX6_copy 71 = .ok (.aload 6, 2) := by decide +kernel
theorem dX6_copy_73 : decode cX6_copy 73 = .ok (.iload_n 2, 1) := by decide +kernel
theorem dX6_copy_74 : decode cX6_copy 74 = .ok (.iload 5, 2) := by decide +kernel
theorem dX6_copy_76 : decode cX6_copy 76 = .ok (.invokevirtual 262, 3) := by decide +kernel
theorem dX6_copy_79 : decode cX6_copy 79 = .ok (.ifCond .eq 15, 3) := by decide +kernel
theorem dX6_copy_82 : decode cX6_copy 82 = .ok (.aload 7, 2) := by decide +kernel
theorem dX6_copy_84 : decode cX6_copy 84 = .ok (.iload 4, 2) := by decide +kernel
theorem dX6_copy_86 : decode cX6_copy 86 = .ok (.iload 5, 2) := by decide +kernel
theorem dX6_copy_88 : decode cX6_copy 88 = .ok (.invokevirtual 262, 3) := by decide +kernel
theorem dX6_copy_91 : decode cX6_copy 91 = .ok (.ifCond .ne 6, 3) := by decide +kernel
theorem dX6_copy_94 : decode cX6_copy 94 = .ok (.bipush (-13), 2) := by decide +kernel
theorem dX6_copy_96 : decode cX6_copy 96 = .ok (.ireturn, 1) := by decide +kernel
theorem dX6_copy_97 : decode cX6_copy 97 = .ok (.aload 6, 2) := by decide +kernel
theorem dX6_copy_99 : decode cX6_copy 99 = .ok (.getfield 265, 3) := by decide +kernel
theorem dX6_copy_102 : decode cX6_copy 102 = .ok (.iload_n 2, 1) := by decide +kernel
theorem dX6_copy_103 : decode cX6_copy 103 = .ok (.aload 7, 2) := by decide +kernel
theorem dX6_copy_105 : decode cX6_copy 105 = .ok (.getfield 265, 3) := by decide +kernel
theorem dX6_copy_108 : decode cX6_copy 108 = .ok (.iload 4, 2) := by decide +kernel
theorem dX6_copy_110 : decode cX6_copy 110 = .ok (.iload 5, 2) := by decide +kernel
theorem dX6_copy_112 : decode cX6_copy 112 = .ok (.invokestatic 269, 3) := by decide +kernel
theorem dX6_copy_115 : decode cX6_copy 115 = .ok (.iload 5, 2) := by decide +kernel
theorem dX6_copy_117 : decode cX6_copy 117 = .ok (.ireturn, 1) := by decide +kernel
theorem dX6_kindsHeard_0 : decode cX6_kindsHeard 0 = .ok (.iconst 0, 1) := by decide +kernel
theorem dX6_kindsHeard_1 : decode cX6_kindsHeard 1 = .ok (.istore 5, 2) := by decide +kernel
theorem dX6_kindsHeard_3 : decode cX6_kindsHeard 3 = .ok (.iconst 0, 1) := by decide +kernel
theorem dX6_kindsHeard_4 : decode cX6_kindsHeard 4 = .ok (.istore 6, 2) := by decide +kernel
theorem dX6_kindsHeard_6 : decode cX6_kindsHeard 6 = .ok (.iload 6, 2) := by decide +kernel
theorem dX6_kindsHeard_8 : decode cX6_kindsHeard 8 = .ok (.iconst 5, 1) := by decide +kernel
theorem dX6_kindsHeard_9 : decode cX6_kindsHeard 9 = .ok (.if_icmp .ge 52, 3) := by decide +kernel
theorem dX6_kindsHeard_12 : decode cX6_kindsHeard 12 = .ok (.aload_n 0, 1) := by decide +kernel
theorem dX6_kindsHeard_13 : decode cX6_kindsHeard 13 = .ok (.getfield 29, 3) := by decide +kernel
theorem dX6_kindsHeard_16 : decode cX6_kindsHeard 16 = .ok (.aload_n 0, 1) := by decide +kernel
theorem dX6_kindsHeard_17 : decode cX6_kindsHeard 17 = .ok (.getfield 12, 3) := by decide +kernel
theorem dX6_kindsHeard_20 : decode cX6_kindsHeard 20 = .ok (.invokevirtual 117, 3) := by decide +kernel
theorem dX6_kindsHeard_23 : decode cX6_kindsHeard 23 = .ok (.aload_n 0, 1) := by decide +kernel
theorem dX6_kindsHeard_24 : decode cX6_kindsHeard 24 = .ok (.getfield 29, 3) := by decide +kernel
theorem dX6_kindsHeard_27 : decode cX6_kindsHeard 27 = .ok (.getfield 82, 3) := by decide +kernel
theorem dX6_kindsHeard_30 : decode cX6_kindsHeard 30 = .ok (.iload_n 1, 1) := by decide +kernel
theorem dX6_kindsHeard_31 : decode cX6_kindsHeard 31 = .ok (.iload 6, 2) := by decide +kernel
theorem dX6_kindsHeard_33 : decode cX6_kindsHeard 33 = .ok (.iastore, 1) := by decide +kernel
theorem dX6_kindsHeard_34 : decode cX6_kindsHeard 34 = .ok (.aload_n 0, 1) := by decide +kernel
theorem dX6_kindsHeard_35 : decode cX6_kindsHeard 35 = .ok (.iload_n 1, 1) := by decide +kernel
theorem dX6_kindsHeard_36 : decode cX6_kindsHeard 36 = .ok (.aload_n 2, 1) := by decide +kernel
theorem dX6_kindsHeard_37 : decode cX6_kindsHeard 37 = .ok (.iload_n 3, 1) := by decide +kernel
theorem dX6_kindsHeard_38 : decode cX6_kindsHeard 38 = .ok (.iload 4, 2) := by decide +kernel
theorem dX6_kindsHeard_40 : decode cX6_kindsHeard 40 = .ok (.invokevirtual 275, 3) := by decide +kernel
theorem dX6_kindsHeard_43 : decode cX6_kindsHeard 43 = .ok (.ifCond .eq 12, 3) := by decide +kernel
theorem dX6_kindsHeard_46 : decode cX6_kindsHeard 46 = .ok (.iload 5, 2) := by decide +kernel
theorem dX6_kindsHeard_48 : decode cX6_kindsHeard 48 = .ok (.iconst 1, 1) := by decide +kernel
theorem dX6_kindsHeard_49 : decode cX6_kindsHeard 49 = .ok (.iload 6, 2) := by decide +kernel
theorem dX6_kindsHeard_51 : decode cX6_kindsHeard 51 = .ok (.ishl, 1) := by decide +kernel
theorem dX6_kindsHeard_52 : decode cX6_kindsHeard 52 = .ok (.ior, 1) := by decide +kernel
theorem dX6_kindsHeard_53 : decode cX6_kindsHeard 53 = .ok (.istore 5, 2) := by decide +kernel
theorem dX6_kindsHeard_55 : decode cX6_kindsHeard 55 = .ok (.iinc 6 1, 3) := by decide +kernel
theorem dX6_kindsHeard_58 : decode cX6_kindsHeard 58 = .ok (.goto (-52), 3) := by decide +kernel
theorem dX6_kindsHeard_61 : decode cX6_kindsHeard 61 = .ok (.iload 5, 2) := by decide +kernel
theorem dX6_kindsHeard_63 : decode cX6_kindsHeard 63 = .ok (.ireturn, 1) := by decide +kernel
theorem dX6_driftsHeard_0 : decode cX6_driftsHeard 0 = .ok (.iconst 0, 1) := by decide +kernel
theorem dX6_driftsHeard_1 : decode cX6_driftsHeard 1 = .ok (.istore 5, 2) := by decide +kernel
theorem dX6_driftsHeard_3 : decode cX6_driftsHeard 3 = .ok (.bipush (-9), 2) := by decide +kernel
theorem dX6_driftsHeard_5 : decode cX6_driftsHeard 5 = .ok (.istore 6, 2) := by decide +kernel
theorem dX6_driftsHeard_7 : decode cX6_driftsHeard 7 = .ok (.iload 6, 2) := by decide +kernel
theorem dX6_driftsHeard_9 : decode cX6_driftsHeard 9 = .ok (.bipush 9, 2) := by decide +kernel
theorem dX6_driftsHeard_11 : decode cX6_driftsHeard 11 = .ok (.if_icmp .gt 55, 3) := by decide +kernel
theorem dX6_driftsHeard_14 : decode cX6_driftsHeard 14 = .ok (.aload_n 0, 1) := by decide +kernel
theorem dX6_driftsHeard_15 : decode cX6_driftsHeard 15 = .ok (.getfield 29, 3) := by decide +kernel
theorem dX6_driftsHeard_18 : decode cX6_driftsHeard 18 = .ok (.aload_n 0, 1) := by decide +kernel
theorem dX6_driftsHeard_19 : decode cX6_driftsHeard 19 = .ok (.getfield 12, 3) := by decide +kernel
theorem dX6_driftsHeard_22 : decode cX6_driftsHeard 22 = .ok (.invokevirtual 117, 3) := by decide +kernel
theorem dX6_driftsHeard_25 : decode cX6_driftsHeard 25 = .ok (.aload_n 0, 1) := by decide +kernel
theorem dX6_driftsHeard_26 : decode cX6_driftsHeard 26 = .ok (.getfield 29, 3) := by decide +kernel
theorem dX6_driftsHeard_29 : decode cX6_driftsHeard 29 = .ok (.getfield 89, 3) := by decide +kernel
theorem dX6_driftsHeard_32 : decode cX6_driftsHeard 32 = .ok (.iload_n 1, 1) := by decide +kernel
theorem dX6_driftsHeard_33 : decode cX6_driftsHeard 33 = .ok (.iload 6, 2) := by decide +kernel
theorem dX6_driftsHeard_35 : decode cX6_driftsHeard 35 = .ok (.iastore, 1) := by decide +kernel
theorem dX6_driftsHeard_36 : decode cX6_driftsHeard 36 = .ok (.aload_n 0, 1) := by decide +kernel
theorem dX6_driftsHeard_37 : decode cX6_driftsHeard 37 = .ok (.iload_n 1, 1) := by decide +kernel
theorem dX6_driftsHeard_38 : decode cX6_driftsHeard 38 = .ok (.aload_n 2, 1) := by decide +kernel
theorem dX6_driftsHeard_39 : decode cX6_driftsHeard 39 = .ok (.iload_n 3, 1) := by decide +kernel
theorem dX6_driftsHeard_40 : decode cX6_driftsHeard 40 = .ok (.iload 4, 2) := by decide +kernel
theorem dX6_driftsHeard_42 : decode cX6_driftsHeard 42 = .ok (.invokevirtual 275, 3) := by decide +kernel
theorem dX6_driftsHeard_45 : decode cX6_driftsHeard 45 = .ok (.ifCond .eq 15, 3) := by decide +kernel
theorem dX6_driftsHeard_48 : decode cX6_driftsHeard 48 = .ok (.iload 5, 2) := by decide +kernel
theorem dX6_driftsHeard_50 : decode cX6_driftsHeard 50 = .ok (.iconst 1, 1) := by decide +kernel
theorem dX6_driftsHeard_51 : decode cX6_driftsHeard 51 = .ok (.iload 6, 2) := by decide +kernel
theorem dX6_driftsHeard_53 : decode cX6_driftsHeard 53 = .ok (.bipush 9, 2) := by decide +kernel
theorem dX6_driftsHeard_55 : decode cX6_driftsHeard 55 = .ok (.iadd, 1) := by decide +kernel
theorem dX6_driftsHeard_56 : decode cX6_driftsHeard 56 = .ok (.ishl, 1) := by decide +kernel
theorem dX6_driftsHeard_57 : decode cX6_driftsHeard 57 = .ok (.ior, 1) := by decide +kernel
theorem dX6_driftsHeard_58 : decode cX6_driftsHeard 58 = .ok (.istore 5, 2) := by decide +kernel
theorem dX6_driftsHeard_60 : decode cX6_driftsHeard 60 = .ok (.iinc 6 1, 3) := by decide +kernel
theorem dX6_driftsHeard_63 : decode cX6_driftsHeard 63 = .ok (.goto (-56), 3) := by decide +kernel
theorem dX6_driftsHeard_66 : decode cX6_driftsHeard 66 = .ok (.iload 5, 2) := by decide +kernel
theorem dX6_driftsHeard_68 : decode cX6_driftsHeard 68 = .ok (.ireturn, 1) := by decide +kernel
theorem dX6_trialRingsAs_0 : decode cX6_trialRingsAs 0 = .ok (.iconst 0, 1) := by decide +kernel
theorem dX6_trialRingsAs_1 : decode cX6_trialRingsAs 1 = .ok (.istore 5, 2) := by decide +kernel
theorem dX6_trialRingsAs_3 : decode cX6_trialRingsAs 3 = .ok (.iload 5, 2) := by decide +kernel
theorem dX6_trialRingsAs_5 : decode cX6_trialRingsAs 5 = .ok (.iload 4, 2) := by decide +kernel
theorem dX6_trialRingsAs_7 : decode cX6_trialRingsAs 7 = .ok (.if_icmp .ge 41, 3) := by decide +kernel
theorem dX6_trialRingsAs_10 : decode cX6_trialRingsAs 10 = .ok (.aload_n 0, 1) := by decide +kernel
theorem dX6_trialRingsAs_11 : decode cX6_trialRingsAs 11 = .ok (.getfield 29, 3) := by decide +kernel
theorem dX6_trialRingsAs_14 : decode cX6_trialRingsAs 14 = .ok (.invokevirtual 159, 3) := by decide +kernel
theorem dX6_trialRingsAs_17 : decode cX6_trialRingsAs 17 = .ok (.aload_n 2, 1) := by decide +kernel
theorem dX6_trialRingsAs_18 : decode cX6_trialRingsAs 18 = .ok (.getfield 265, 3) := by decide +kernel
theorem dX6_trialRingsAs_21 : decode cX6_trialRingsAs 21 = .ok (.iload_n 3, 1) := by decide +kernel
theorem dX6_trialRingsAs_22 : decode cX6_trialRingsAs 22 = .ok (.iload 5, 2) := by decide +kernel
theorem dX6_trialRingsAs_24 : decode cX6_trialRingsAs 24 = .ok (.iadd, 1) := by decide +kernel
theorem dX6_trialRingsAs_25 : decode cX6_trialRingsAs 25 = .ok (.laload, 1) := by decide +kernel
theorem dX6_trialRingsAs_26 : decode cX6_trialRingsAs 26 = .ok (.aload_n 0, 1) := by decide +kernel
theorem dX6_trialRingsAs_27 : decode cX6_trialRingsAs 27 = .ok (.getfield 29, 3) := by decide +kernel
theorem dX6_trialRingsAs_30 : decode cX6_trialRingsAs 30 = .ok (.getfield 86, 3) := by decide +kernel
theorem dX6_trialRingsAs_33 : decode cX6_trialRingsAs 33 = .ok (.iload_n 1, 1) := by decide +kernel
theorem dX6_trialRingsAs_34 : decode cX6_trialRingsAs 34 = .ok (.iaload, 1) := by decide +kernel
theorem dX6_trialRingsAs_35 : decode cX6_trialRingsAs 35 = .ok (.i2l, 1) := by decide +kernel
theorem dX6_trialRingsAs_36 : decode cX6_trialRingsAs 36 = .ok (.lcmp, 1) := by decide +kernel
theorem dX6_trialRingsAs_37 : decode cX6_trialRingsAs 37 = .ok (.ifCond .eq 5, 3) := by decide +kernel
theorem dX6_trialRingsAs_40 : decode cX6_trialRingsAs 40 = .ok (.iconst 0, 1) := by decide +kernel
theorem dX6_trialRingsAs_41 : decode cX6_trialRingsAs 41 = .ok (.ireturn, 1) := by decide +kernel
theorem dX6_trialRingsAs_42 : decode cX6_trialRingsAs 42 = .ok (.iinc 5 1, 3) := by decide +kernel
theorem dX6_trialRingsAs_45 : decode cX6_trialRingsAs 45 = .ok (.goto (-42), 3) := by decide +kernel
theorem dX6_trialRingsAs_48 : decode cX6_trialRingsAs 48 = .ok (.iconst 1, 1) := by decide +kernel
theorem dX6_trialRingsAs_49 : decode cX6_trialRingsAs 49 = .ok (.ireturn, 1) := by decide +kernel
theorem dX6_within_0 : decode cX6_within 0 = .ok (.iload_n 0, 1) := by decide +kernel
theorem dX6_within_1 : decode cX6_within 1 = .ok (.iload_n 1, 1) := by decide +kernel
theorem dX6_within_2 : decode cX6_within 2 = .ok (.if_icmp .lt 12, 3) := by decide +kernel
theorem dX6_within_5 : decode cX6_within 5 = .ok (.iload_n 0, 1) := by decide +kernel
theorem dX6_within_6 : decode cX6_within 6 = .ok (.iload_n 2, 1) := by decide +kernel
theorem dX6_within_7 : decode cX6_within 7 = .ok (.if_icmp .gt 7, 3) := by decide +kernel
theorem dX6_within_10 : decode cX6_within 10 = .ok (.iconst 1, 1) := by decide +kernel
theorem dX6_within_11 : decode cX6_within 11 = .ok (.goto 4, 3) := by decide +kernel
theorem dX6_within_14 : decode cX6_within 14 = .ok (.iconst 0, 1) := by decide +kernel
theorem dX6_within_15 : decode cX6_within 15 = .ok (.ireturn, 1) := by decide +kernel
theorem dX6_isMinute_0 : decode cX6_isMinute 0 = .ok (.iload_n 0, 1) := by decide +kernel
theorem dX6_isMinute_1 : decode cX6_isMinute 1 = .ok (.iconst 0, 1) := by decide +kernel
theorem dX6_isMinute_2 : decode cX6_isMinute 2 = .ok (.bipush 59, 2) := by decide +kernel
theorem dX6_isMinute_4 : decode cX6_isMinute 4 = .ok (.invokestatic 60, 3) := by decide +kernel
theorem dX6_isMinute_7 : decode cX6_isMinute 7 = .ok (.ireturn, 1) := by decide +kernel
theorem dX6_isSheetAndLane_0 : decode cX6_isSheetAndLane 0 = .ok (.iload_n 0, 1) := by decide +kernel
theorem dX6_isSheetAndLane_1 : decode cX6_isSheetAndLane 1 = .ok (.iconst 0, 1) := by decide +kernel
theorem dX6_isSheetAndLane_2 : decode cX6_isSheetAndLane 2 = .ok (.iconst 3, 1) := by decide +kernel
theorem dX6_isSheetAndLane_3 : decode cX6_isSheetAndLane 3 = .ok (.invokestatic 60, 3) := by decide +kernel
theorem dX6_isSheetAndLane_6 : decode cX6_isSheetAndLane 6 = .ok (.ifCond .eq 16, 3) := by decide +kernel
theorem dX6_isSheetAndLane_9 : decode cX6_isSheetAndLane 9 = .ok (.iload_n 1, 1) := by decide +kernel
theorem dX6_isSheetAndLane_10 : decode cX6_isSheetAndLane 10 = .ok (.iconst 0, 1) := by decide +kernel
theorem dX6_isSheetAndLane_11 : decode cX6_isSheetAndLane 11 = .ok (.iconst 3, 1) := by decide +kernel
theorem dX6_isSheetAndLane_12 : decode cX6_isSheetAndLane 12 = .ok (.invokestatic 60, 3) := by decide +kernel
theorem dX6_isSheetAndLane_15 : decode cX6_isSheetAndLane 15 = .ok (.ifCond .eq 7, 3) := by decide +kernel
theorem dX6_isSheetAndLane_18 : decode cX6_isSheetAndLane 18 = .ok (.iconst 1, 1) := by decide +kernel
theorem dX6_isSheetAndLane_19 : decode cX6_isSheetAndLane 19 = .ok (.goto 4, 3) := by decide +kernel
theorem dX6_isSheetAndLane_22 : decode cX6_isSheetAndLane 22 = .ok (.iconst 0, 1) := by decide +kernel
theorem dX6_isSheetAndLane_23 : decode cX6_isSheetAndLane 23 = .ok (.ireturn, 1) := by decide +kernel
theorem dX6_isIn_0 : decode cX6_isIn 0 = .ok (.iload_n 0, 1) := by decide +kernel
theorem dX6_isIn_1 : decode cX6_isIn 1 = .ok (.iload_n 1, 1) := by decide +kernel
theorem dX6_isIn_2 : decode cX6_isIn 2 = .ok (.ishr, 1) := by decide +kernel
theorem dX6_isIn_3 : decode cX6_isIn 3 = .ok (.iconst 1, 1) := by decide +kernel
theorem dX6_isIn_4 : decode cX6_isIn 4 = .ok (.iand, 1) := by decide +kernel
theorem dX6_isIn_5 : decode cX6_isIn 5 = .ok (.ifCond .eq 7, 3) := by decide +kernel
theorem dX6_isIn_8 : decode cX6_isIn 8 = .ok (.iconst 1, 1) := by decide +kernel
theorem dX6_isIn_9 : decode cX6_isIn 9 = .ok (.goto 4, 3) := by decide +kernel
theorem dX6_isIn_12 : decode cX6_isIn 12 = .ok (.iconst 0, 1) := by decide +kernel
theorem dX6_isIn_13 : decode cX6_isIn 13 = .ok (.ireturn, 1) := by decide +kernel
theorem dX6_roundTheHour_0 : decode cX6_roundTheHour 0 = .ok (.iload_n 0, 1) := by decide +kernel
theorem dX6_roundTheHour_1 : decode cX6_roundTheHour 1 = .ok (.bipush 60, 2) := by decide +kernel
theorem dX6_roundTheHour_3 : decode cX6_roundTheHour 3 = .ok (.invokestatic 279, 3) := by decide +kernel
theorem dX6_roundTheHour_6 : decode cX6_roundTheHour 6 = .ok (.ireturn, 1) := by decide +kernel
theorem dX6_shorterWay_0 : decode cX6_shorterWay 0 = .ok (.iload_n 0, 1) := by decide +kernel
theorem dX6_shorterWay_1 : decode cX6_shorterWay 1 = .ok (.iload_n 1, 1) := by decide +kernel
theorem dX6_shorterWay_2 : decode cX6_shorterWay 2 = .ok (.if_icmp .ge 9, 3) := by decide +kernel
theorem dX6_shorterWay_5 : decode cX6_shorterWay 5 = .ok (.iload_n 1, 1) := by decide +kernel
theorem dX6_shorterWay_6 : decode cX6_shorterWay 6 = .ok (.iload_n 0, 1) := by decide +kernel
theorem dX6_shorterWay_7 : decode cX6_shorterWay 7 = .ok (.isub, 1) := by decide +kernel
theorem dX6_shorterWay_8 : decode cX6_shorterWay 8 = .ok (.goto 6, 3) := by decide +kernel
theorem dX6_shorterWay_11 : decode cX6_shorterWay 11 = .ok (.iload_n 0, 1) := by decide +kernel
theorem dX6_shorterWay_12 : decode cX6_shorterWay 12 = .ok (.iload_n 1, 1) := by decide +kernel
theorem dX6_shorterWay_13 : decode cX6_shorterWay 13 = .ok (.isub, 1) := by decide +kernel
theorem dX6_shorterWay_14 : decode cX6_shorterWay 14 = .ok (.istore_n 2, 1) := by decide +kernel
theorem dX6_shorterWay_15 : decode cX6_shorterWay 15 = .ok (.iload_n 2, 1) := by decide +kernel
theorem dX6_shorterWay_16 : decode cX6_shorterWay 16 = .ok (.bipush 30, 2) := by decide +kernel
theorem dX6_shorterWay_18 : decode cX6_shorterWay 18 = .ok (.if_icmp .gt 7, 3) := by decide +kernel
theorem dX6_shorterWay_21 : decode cX6_shorterWay 21 = .ok (.iload_n 2, 1) := by decide +kernel
theorem dX6_shorterWay_22 : decode cX6_shorterWay 22 = .ok (.goto 7, 3) := by decide +kernel
theorem dX6_shorterWay_25 : decode cX6_shorterWay 25 = .ok (.bipush 60, 2) := by decide +kernel
theorem dX6_shorterWay_27 : decode cX6_shorterWay 27 = .ok (.iload_n 2, 1) := by decide +kernel
theorem dX6_shorterWay_28 : decode cX6_shorterWay 28 = .ok (.isub, 1) := by decide +kernel
theorem dX6_shorterWay_29 : decode cX6_shorterWay 29 = .ok (.ireturn, 1) := by decide +kernel
theorem dX6_minutesNear_0 : decode cX6_minutesNear 0 = .ok (.lconst 1, 1) := by decide +kernel
theorem dX6_minutesNear_1 : decode cX6_minutesNear 1 = .ok (.iconst 2, 1) := by decide +kernel
theorem dX6_minutesNear_2 : decode cX6_minutesNear 2 = .ok (.iload_n 1, 1) := by decide +kernel
theorem dX6_minutesNear_3 : decode cX6_minutesNear 3 = .ok (.imul, 1) := by decide +kernel
theorem dX6_minutesNear_4 : decode cX6_minutesNear 4 = .ok (.iconst 1, 1) := by decide +kernel
theorem dX6_minutesNear_5 : decode cX6_minutesNear 5 = .ok (.isub, 1) := by decide +kernel
theorem dX6_minutesNear_6 : decode cX6_minutesNear 6 = .ok (.lshl, 1) := by decide +kernel
theorem dX6_minutesNear_7 : decode cX6_minutesNear 7 = .ok (.lconst 1, 1) := by decide +kernel
theorem dX6_minutesNear_8 : decode cX6_minutesNear 8 = .ok (.lsub, 1) := by decide +kernel
theorem dX6_minutesNear_9 : decode cX6_minutesNear 9 = .ok (.lstore_n 2, 1) := by decide +kernel
theorem dX6_minutesNear_10 : decode cX6_minutesNear 10 = .ok (.iload_n 0, 1) := by decide +kernel
theorem dX6_minutesNear_11 : decode cX6_minutesNear 11 = .ok (.iload_n 1, 1) := by decide +kernel
theorem dX6_minutesNear_12 : decode cX6_minutesNear 12 = .ok (.isub, 1) := by decide +kernel
theorem dX6_minutesNear_13 : decode cX6_minutesNear 13 = .ok (.iconst 1, 1) := by decide +kernel
theorem dX6_minutesNear_14 : decode cX6_minutesNear 14 = .ok (.iadd, 1) := by decide +kernel
theorem dX6_minutesNear_15 : decode cX6_minutesNear 15 = .ok (.invokestatic 282, 3) := by decide +kernel
theorem dX6_minutesNear_18 : decode cX6_minutesNear 18 = .ok (.istore 4, 2) := by decide +kernel
theorem dX6_minutesNear_20 : decode cX6_minutesNear 20 = .ok (.lload_n 2, 1) := by decide +kernel
theorem dX6_minutesNear_21 : decode cX6_minutesNear 21 = .ok (.iload 4, 2) := by decide +kernel
theorem dX6_minutesNear_23 : decode cX6_minutesNear 23 = .ok (.lshl, 1) := by decide +kernel
theorem dX6_minutesNear_24 : decode cX6_minutesNear 24 = .ok (.lload_n 2, 1) := by decide +kernel
theorem dX6_minutesNear_25 : decode cX6_minutesNear 25 = .ok (.bipush 60, 2) := by decide +kernel
theorem dX6_minutesNear_27 : decode cX6_minutesNear 27 = .ok (.iload 4, 2) := by decide +kernel
theorem dX6_minutesNear_29 : decode cX6_minutesNear 29 = .ok (.isub, 1) := by decide +kernel
theorem dX6_minutesNear_30 : decode cX6_minutesNear 30 = .ok (.lushr, 1) := by decide +kernel
theorem dX6_minutesNear_31 : decode cX6_minutesNear 31 = .ok (.lor, 1) := by decide +kernel
theorem dX6_minutesNear_32 : decode cX6_minutesNear 32 = .ok (.ldc2_w 285, 3) := by decide +kernel
theorem dX6_minutesNear_35 : decode cX6_minutesNear 35 = .ok (.land, 1) := by decide +kernel
theorem dX6_minutesNear_36 : decode cX6_minutesNear 36 = .ok (.lreturn, 1) := by decide +kernel
theorem dX6_greatestDivisor_0 : decode cX6_greatestDivisor 0 = .ok (.iload_n 0, 1) := by decide +kernel
theorem dX6_greatestDivisor_1 : decode cX6_greatestDivisor 1 = .ok (.istore_n 2, 1) := by decide +kernel
theorem dX6_greatestDivisor_2 : decode cX6_greatestDivisor 2 = .ok (.iload_n 1, 1) := by decide +kernel
theorem dX6_greatestDivisor_3 : decode cX6_greatestDivisor 3 = .ok (.istore_n 3, 1) := by decide +kernel
theorem dX6_greatestDivisor_4 : decode cX6_greatestDivisor 4 = .ok (.iconst 0, 1) := by decide +kernel
theorem dX6_greatestDivisor_5 : decode cX6_greatestDivisor 5 = .ok (.istore 4, 2) := by decide +kernel
theorem dX6_greatestDivisor_7 : decode cX6_greatestDivisor 7 = .ok (.iload 4, 2) := by decide +kernel
theorem dX6_greatestDivisor_9 : decode cX6_greatestDivisor 9 = .ok (.bipush 64, 2) := by decide +kernel
theorem dX6_greatestDivisor_11 : decode cX6_greatestDivisor 11 = .ok (.if_icmp .ge 23, 3) := by decide +kernel
theorem dX6_greatestDivisor_14 : decode cX6_greatestDivisor 14 = .ok (.iload_n 3, 1) := by decide +kernel
theorem dX6_greatestDivisor_15 : decode cX6_greatestDivisor 15 = .ok (.ifCond .eq 19, 3) := by decide +kernel
theorem dX6_greatestDivisor_18 : decode cX6_greatestDivisor 18 = .ok (.iload_n 2, 1) := by decide +kernel
theorem dX6_greatestDivisor_19 : decode cX6_greatestDivisor 19 = .ok (.iload_n 3, 1) := by decide +kernel
theorem dX6_greatestDivisor_20 : decode cX6_greatestDivisor 20 = .ok (.irem, 1) := by decide +kernel
theorem dX6_greatestDivisor_21 : decode cX6_greatestDivisor 21 = .ok (.istore 5, 2) := by decide +kernel
theorem dX6_greatestDivisor_23 : decode cX6_greatestDivisor 23 = .ok (.iload_n 3, 1) := by decide +kernel
theorem dX6_greatestDivisor_24 : decode cX6_greatestDivisor 24 = .ok (.istore_n 2, 1) := by decide +kernel
theorem dX6_greatestDivisor_25 : decode cX6_greatestDivisor 25 = .ok (.iload 5, 2) := by decide +kernel
theorem dX6_greatestDivisor_27 : decode cX6_greatestDivisor 27 = .ok (.istore_n 3, 1) := by decide +kernel
theorem dX6_greatestDivisor_28 : decode cX6_greatestDivisor 28 = .ok (.iinc 4 1, 3) := by decide +kernel
theorem dX6_greatestDivisor_31 : decode cX6_greatestDivisor 31 = .ok (.goto (-24), 3) := by decide +kernel
theorem dX6_greatestDivisor_34 : decode cX6_greatestDivisor 34 = .ok (.iload_n 2, 1) := by decide +kernel
theorem dX6_greatestDivisor_35 : decode cX6_greatestDivisor 35 = .ok (.ireturn, 1) := by decide +kernel
theorem dX7_in_0 : decode cX7_in 0 = .ok (.lload_n 0, 1) := by decide +kernel
theorem dX7_in_1 : decode cX7_in 1 = .ok (.lload_n 2, 1) := by decide +kernel
theorem dX7_in_2 : decode cX7_in 2 = .ok (.lcmp, 1) := by decide +kernel
theorem dX7_in_3 : decode cX7_in 3 = .ok (.ifCond .lt 14, 3) := by decide +kernel
theorem dX7_in_6 : decode cX7_in 6 = .ok (.lload_n 0, 1) := by decide +kernel
theorem dX7_in_7 : decode cX7_in 7 = .ok (.lload 4, 2) := by decide +kernel
theorem dX7_in_9 : decode cX7_in 9 = .ok (.lcmp, 1) := by decide +kernel
theorem dX7_in_10 : decode cX7_in 10 = .ok (.ifCond .gt 7, 3) := by decide +kernel
theorem dX7_in_13 : decode cX7_in 13 = .ok (.iconst 1, 1) := by decide +kernel
theorem dX7_in_14 : decode cX7_in 14 = .ok (.goto 4, 3) := by decide +kernel
theorem dX7_in_17 : decode cX7_in 17 = .ok (.iconst 0, 1) := by decide +kernel
theorem dX7_in_18 : decode cX7_in 18 = .ok (.ireturn, 1) := by decide +kernel
theorem dX7_init_0 : decode cX7_init 0 = .ok (.aload_n 0, 1) := by decide +kernel
theorem dX7_init_1 : decode cX7_init 1 = .ok (.invokespecial 1, 3) := by decide +kernel
theorem dX7_init_4 : decode cX7_init 4 = .ok (.aload_n 0, 1) := by decide +kernel
theorem dX7_init_5 : decode cX7_init 5 = .ok (.bipush 27, 2) := by decide +kernel
theorem dX7_init_7 : decode cX7_init 7 = .ok (.newarray .int, 2) := by decide +kernel
theorem dX7_init_9 : decode cX7_init 9 = .ok (.putfield 7, 3) := by decide +kernel
theorem dX7_init_12 : decode cX7_init 12 = .ok (.aload_n 0, 1) := by decide +kernel
theorem dX7_init_13 : decode cX7_init 13 = .ok (.bipush 6, 2) := by decide +kernel
theorem dX7_init_15 : decode cX7_init 15 = .ok (.newarray .int, 2) := by decide +kernel
theorem dX7_init_17 : decode cX7_init 17 = .ok (.putfield 13, 3) := by decide +kernel
theorem dX7_init_20 : decode cX7_init 20 = .ok (.aload_n 0, 1) := by decide +kernel
theorem dX7_init_21 : decode cX7_init 21 = .ok (.bipush 60, 2) := by decide +kernel
theorem dX7_init_23 : decode cX7_init 23 = .ok (.newarray .int, 2) := by decide +kernel
theorem dX7_init_25 : decode cX7_init 25 = .ok (.putfield 16, 3) := by decide +kernel
theorem dX7_init_28 : decode cX7_init 28 = .ok (.aload_n 0, 1) := by decide +kernel
theorem dX7_init_29 : decode cX7_init 29 = .ok (.bipush 24, 2) := by decide +kernel
theorem dX7_init_31 : decode cX7_init 31 = .ok (.newarray .int, 2) := by decide +kernel
theorem dX7_init_33 : decode cX7_init 33 = .ok (.putfield 19, 3) := by decide +kernel
theorem dX7_init_36 : decode cX7_init 36 = .ok (.aload_n 0, 1) := by decide +kernel
theorem dX7_init_37 : decode cX7_init 37 = .ok (.sipush 216, 3) := by decide +kernel
theorem dX7_init_40 : decode cX7_init 40 = .ok (.newarray .int, 2) := by decide +kernel
theorem dX7_init_42 : decode cX7_init 42 = .ok (.putfield 22, 3) := by decide +kernel
theorem dX7_init_45 : decode cX7_init 45 = .ok (.aload_n 0, 1) := by decide +kernel
theorem dX7_init_46 : decode cX7_init 46 = .ok (.bipush 27, 2) := by decide +kernel
theorem dX7_init_48 : decode cX7_init 48 = .ok (.newarray .int, 2) := by decide +kernel
theorem dX7_init_50 : decode cX7_init 50 = .ok (.putfield 25, 3) := by decide +kernel
theorem dX7_init_53 : decode cX7_init 53 = .ok (.aload_n 0, 1) := by decide +kernel
theorem dX7_init_54 : decode cX7_init 54 = .ok (.bipush 6, 2) := by decide +kernel
theorem dX7_init_56 : decode cX7_init 56 = .ok (.newarray .int, 2) := by decide +kernel
theorem dX7_init_58 : decode cX7_init 58 = .ok (.putfield 28, 3) := by decide +kernel
theorem dX7_init_61 : decode cX7_init 61 = .ok (.aload_n 0, 1) := by decide +kernel
theorem dX7_init_62 : decode cX7_init 62 = .ok (.bipush 6, 2) := by decide +kernel
theorem dX7_init_64 : decode cX7_init 64 = .ok (.newarray .int, 2) := by decide +kernel
theorem dX7_init_66 : decode cX7_init 66 = .ok (.putfield 31, 3) := by decide +kernel
theorem dX7_init_69 : decode cX7_init 69 = .ok (.aload_n 0, 1) := by decide +kernel
theorem dX7_init_70 : decode cX7_init 70 = .ok (.bipush 6, 2) := by decide +kernel
theorem dX7_init_72 : decode cX7_init 72 = .ok (.newarray .int, 2) := by decide +kernel
theorem dX7_init_74 : decode cX7_init 74 = .ok (.putfield 34, 3) := by decide +kernel
theorem dX7_init_77 : decode cX7_init 77 = .ok (.aload_n 0, 1) := by decide +kernel
theorem dX7_init_78 : decode cX7_init 78 = .ok (.sipush 243, 3) := by decide +kernel
theorem dX7_init_81 : decode cX7_init 81 = .ok (.newarray .int, 2) := by decide +kernel
theorem dX7_init_83 : decode cX7_init 83 = .ok (.putfield 37, 3) := by decide +kernel
theorem dX7_init_86 : decode cX7_init 86 = .ok (.aload_n 0, 1) := by decide +kernel
theorem dX7_init_87 : decode cX7_init 87 = .ok (.iconst 4, 1) := by decide +kernel
theorem dX7_init_88 : decode cX7_init 88 = .ok (.newarray .int, 2) := by decide +kernel
theorem dX7_init_90 : decode cX7_init 90 = .ok (.putfield 40, 3) := by decide +kernel
theorem dX7_init_93 : decode cX7_init 93 = .ok (.aload_n 0, 1) := by decide +kernel
theorem dX7_init_94 : decode cX7_init 94 = .ok (.iconst 4, 1) := by decide +kernel
theorem dX7_init_95 : decode cX7_init 95 = .ok (.newarray .int, 2) := by decide +kernel
theorem dX7_init_97 : decode cX7_init 97 = .ok (.putfield 43, 3) := by decide +kernel
theorem dX7_init_100 : decode cX7_init 100 = .ok (.aload_n 0, 1) := by decide +kernel
theorem dX7_init_101 : decode cX7_init 101 = .ok (.bipush 96, 2) := by decide +kernel
theorem dX7_init_103 : decode cX7_init 103 = .ok (.newarray .long, 2) := by decide +kernel
theorem dX7_init_105 : decode cX7_init 105 = .ok (.putfield 46, 3) := by decide +kernel
theorem dX7_init_108 : decode cX7_init 108 = .ok (.aload_n 0, 1) := by decide +kernel
theorem dX7_init_109 : decode cX7_init 109 = .ok (.bipush 24, 2) := by decide +kernel
theorem dX7_init_111 : decode cX7_init 111 = .ok (.newarray .long, 2) := by decide +kernel
theorem dX7_init_113 : decode cX7_init 113 = .ok (.putfield 50, 3) := by decide +kernel
theorem dX7_init_116 : decode cX7_init 116 = .ok (.aload_n 0, 1) := by decide +kernel
theorem dX7_init_117 : decode cX7_init 117 = .ok (.getfield 7, 3) := by decide +kernel
theorem dX7_init_120 : decode cX7_init 120 = .ok (.iconst 2, 1) := by decide +kernel
theorem dX7_init_121 : decode cX7_init 121 = .ok (.iconst 1, 1) := by decide +kernel
theorem dX7_init_122 : decode cX7_init 122 = .ok (.iastore, 1) := by decide +kernel
theorem dX7_init_123 : decode cX7_init 123 = .ok (.iconst 0, 1) := by decide +kernel
theorem dX7_init_124 : decode cX7_init 124 = .ok (.istore_n 1, 1) := by decide +kernel
theorem dX7_init_125 : decode cX7_init 125 = .ok (.iload_n 1, 1) := by decide +kernel
theorem dX7_init_126 : decode cX7_init 126 = .ok (.iconst 4, 1) := by decide +kernel
theorem dX7_init_127 : decode cX7_init 127 = .ok (.if_icmp .ge 16, 3) := by decide +kernel
theorem dX7_init_130 : decode cX7_init 130 = .ok (.aload_n 0, 1) := by decide +kernel
theorem dX7_init_131 : decode cX7_init 131 = .ok (.getfield 40, 3) := by decide +kernel
theorem dX7_init_134 : decode cX7_init 134 = .ok (.iload_n 1, 1) := by decide +kernel
theorem dX7_init_135 : decode cX7_init 135 = .ok (.iconst (-1), 1) := by decide +kernel
theorem dX7_init_136 : decode cX7_init 136 = .ok (.iastore, 1) := by decide +kernel
theorem dX7_init_137 : decode cX7_init 137 = .ok (.iinc 1 1, 3) := by decide +kernel
theorem dX7_init_140 : decode cX7_init 140 = .ok (.goto (-15), 3) := by decide +kernel
theorem dX7_init_143 : decode cX7_init 143 = .ok (.return_, 1) := by decide +kernel
theorem dX7_isVillage_0 : decode cX7_isVillage 0 = .ok (.iload_n 1, 1) := by decide +kernel
theorem dX7_isVillage_1 : decode cX7_isVillage 1 = .ok (.i2l, 1) := by decide +kernel
theorem dX7_isVillage_2 : decode cX7_isVillage 2 = .ok (.lconst 0, 1) := by decide +kernel
theorem dX7_isVillage_3 : decode cX7_isVillage 3 = .ok (.aload_n 0, 1) := by decide +kernel
theorem dX7_isVillage_4 : decode cX7_isVillage 4 = .ok (.getfield 7, 3) := by decide +kernel
theorem dX7_isVillage_7 : decode cX7_isVillage 7 = .ok (.iconst 0, 1) := by decide +kernel
theorem dX7_isVillage_8 : decode cX7_isVillage 8 = .ok (.iaload, 1) := by decide +kernel
theorem dX7_isVillage_9 : decode cX7_isVillage 9 = .ok (.iconst 1, 1) := by decide +kernel
theorem dX7_isVillage_10 : decode cX7_isVillage 10 = .ok (.isub, 1) := by decide +kernel
theorem dX7_isVillage_11 : decode cX7_isVillage 11 = .ok (.i2l, 1) := by decide +kernel
theorem dX7_isVillage_12 : decode cX7_isVillage 12 = .ok (.invokestatic 53, 3) := by decide +kernel
theorem dX7_isVillage_15 : decode cX7_isVillage 15 = .ok (.ireturn, 1) := by decide +kernel
theorem dX7_told_0 : decode cX7_told 0 = .ok (.aload_n 0, 1) := by decide +kernel
theorem dX7_told_1 : decode cX7_told 1 = .ok (.getfield 7, 3) := by decide +kernel
theorem dX7_told_4 : decode cX7_told 4 = .ok (.iconst 3, 1) := by decide +kernel
theorem dX7_told_5 : decode cX7_told 5 = .ok (.iconst 4, 1) := by decide +kernel
theorem dX7_told_6 : decode cX7_told 6 = .ok (.iload_n 1, 1) := by decide +kernel
theorem dX7_told_7 : decode cX7_told 7 = .ok (.imul, 1) := by decide +kernel
theorem dX7_told_8 : decode cX7_told 8 = .ok (.iadd, 1) := by decide +kernel
theorem dX7_told_9 : decode cX7_told 9 = .ok (.iload_n 2, 1) := by decide +kernel
theorem dX7_told_10 : decode cX7_told 10 = .ok (.iadd, 1) := by decide +kernel
theorem dX7_told_11 : decode cX7_told 11 = .ok (.iaload, 1) := by decide +kernel
theorem dX7_told_12 : decode cX7_told 12 = .ok (.ireturn, 1) := by decide +kernel
theorem dX7_tells_0 : decode cX7_tells 0 = .ok (.aload_n 0, 1) := by decide +kernel
theorem dX7_tells_1 : decode cX7_tells 1 = .ok (.getfield 7, 3) := by decide +kernel
theorem dX7_tells_4 : decode cX7_tells 4 = .ok (.iconst 3, 1) := by decide +kernel
theorem dX7_tells_5 : decode cX7_tells 5 = .ok (.iconst 4, 1) := by decide +kernel
theorem dX7_tells_6 : decode cX7_tells 6 = .ok (.iload_n 1, 1) := by decide +kernel
theorem dX7_tells_7 : decode cX7_tells 7 = .ok (.imul, 1) := by decide +kernel
theorem dX7_tells_8 : decode cX7_tells 8 = .ok (.iadd, 1) := by decide +kernel
theorem dX7_tells_9 : decode cX7_tells 9 = .ok (.iload_n 2, 1) := by decide +kernel
theorem dX7_tells_10 : decode cX7_tells 10 = .ok (.iadd, 1) := by decide +kernel
theorem dX7_tells_11 : decode cX7_tells 11 = .ok (.iload_n 3, 1) := by decide +kernel
theorem dX7_tells_12 : decode cX7_tells 12 = .ok (.iastore, 1) := by decide +kernel
theorem dX7_tells_13 : decode cX7_tells 13 = .ok (.return_, 1) := by decide +kernel
theorem dX7_minuteOf_0 : decode cX7_minuteOf 0 = .ok (.aload_n 0, 1) := by decide +kernel
theorem dX7_minuteOf_1 : decode cX7_minuteOf 1 = .ok (.iload_n 1, 1) := by decide +kernel
theorem dX7_minuteOf_2 : decode cX7_minuteOf 2 = .ok (.iconst 1, 1) := by decide +kernel
theorem dX7_minuteOf_3 : decode cX7_minuteOf 3 = .ok (.invokevirtual 57, 3) := by decide +kernel
theorem dX7_minuteOf_6 : decode cX7_minuteOf 6 = .ok (.ireturn, 1) := by decide +kernel
theorem dX7_round_0 : decode cX7_round 0 = .ok (.iload_n 0, 1) := by decide +kernel
theorem dX7_round_1 : decode cX7_round 1 = .ok (.bipush 60, 2) := by decide +kernel
theorem dX7_round_3 : decode cX7_round 3 = .ok (.irem, 1) := by decide +kernel
theorem dX7_round_4 : decode cX7_round 4 = .ok (.bipush 60, 2) := by decide +kernel
theorem dX7_round_6 : decode cX7_round 6 = .ok (.iadd, 1) := by decide +kernel
theorem dX7_round_7 : decode cX7_round 7 = .ok (.bipush 60, 2) := by decide +kernel
theorem dX7_round_9 : decode cX7_round 9 = .ok (.irem, 1) := by decide +kernel
theorem dX7_round_10 : decode cX7_round 10 = .ok (.ireturn, 1) := by decide +kernel
theorem dX7_between_0 : decode cX7_between 0 = .ok (.iload_n 0, 1) := by decide +kernel
theorem dX7_between_1 : decode cX7_between 1 = .ok (.iload_n 1, 1) := by decide +kernel
theorem dX7_between_2 : decode cX7_between 2 = .ok (.isub, 1) := by decide +kernel
theorem dX7_between_3 : decode cX7_between 3 = .ok (.invokestatic 61, 3) := by decide +kernel
theorem dX7_between_6 : decode cX7_between 6 = .ok (.istore_n 2, 1) := by decide +kernel
theorem dX7_between_7 : decode cX7_between 7 = .ok (.iload_n 2, 1) := by decide +kernel
theorem dX7_between_8 : decode cX7_between 8 = .ok (.bipush 30, 2) := by decide +kernel
theorem dX7_between_10 : decode cX7_between 10 = .ok (.if_icmp .le 10, 3) := by decide +kernel
theorem dX7_between_13 : decode cX7_between 13 = .ok (.bipush 60, 2) := by decide +kernel
theorem dX7_between_15 : decode cX7_between 15 = .ok (.iload_n 2, 1) := by decide +kernel
theorem dX7_between_16 : decode cX7_between 16 = .ok (.isub, 1) := by decide +kernel
theorem dX7_between_17 : decode cX7_between 17 = .ok (.goto 4, 3) := by decide +kernel
theorem dX7_between_20 : decode cX7_between 20 = .ok (.iload_n 2, 1) := by decide +kernel
theorem dX7_between_21 : decode cX7_between 21 = .ok (.ireturn, 1) := by decide +kernel
theorem dX7_milesBetween_0 : decode cX7_milesBetween 0 = .ok (.aload_n 0, 1) := by decide +kernel
theorem dX7_milesBetween_1 : decode cX7_milesBetween 1 = .ok (.iload_n 1, 1) := by decide +kernel
theorem dX7_milesBetween_2 : decode cX7_milesBetween 2 = .ok (.iconst 3, 1) := by decide +kernel
theorem dX7_milesBetween_3 : decode cX7_milesBetween 3 = .ok (.invokevirtual 57, 3) := by decide +kernel
theorem dX7_milesBetween_6 : decode cX7_milesBetween 6 = .ok (.aload_n 0, 1) := by decide +kernel
theorem dX7_milesBetween_7 : decode cX7_milesBetween 7 = .ok (.iload_n 2, 1) := by decide +kernel
theorem dX7_milesBetween_8 : decode cX7_milesBetween 8 = .ok (.iconst 3, 1) := by decide +kernel
theorem dX7_milesBetween_9 : decode cX7_milesBetween 9 = .ok (.invokevirtual 57, 3) := by decide +kernel
theorem dX7_milesBetween_12 : decode cX7_milesBetween 12 = .ok (.isub, 1) := by decide +kernel
theorem dX7_milesBetween_13 : decode cX7_milesBetween 13 = .ok (.istore_n 3, 1) := by decide +kernel
theorem dX7_milesBetween_14 : decode cX7_milesBetween 14 = .ok (.iload_n 3, 1) := by decide +kernel
theorem dX7_milesBetween_15 : decode cX7_milesBetween 15 = .ok (.ifCond .ge 8, 3) := by decide +kernel
theorem dX7_milesBetween_18 : decode cX7_milesBetween 18 = .ok (.iload_n 3, 1) := by decide +kernel
theorem dX7_milesBetween_19 : decode cX7_milesBetween 19 = .ok (.ineg, 1) := by decide +kernel
theorem dX7_milesBetween_20 : decode cX7_milesBetween 20 = .ok (.goto 4, 3) := by decide +kernel
theorem dX7_milesBetween_23 : decode cX7_milesBetween 23 = .ok (.iload_n 3, 1) := by decide +kernel
theorem dX7_milesBetween_24 : decode cX7_milesBetween 24 = .ok (.ireturn, 1) := by decide +kernel
theorem dX7_hearsAnother_0 : decode cX7_hearsAnother 0 = .ok (.iconst 0, 1) := by decide +kernel
theorem dX7_hearsAnother_1 : decode cX7_hearsAnother 1 = .ok (.istore_n 2, 1) := by decide +kernel
theorem dX7_hearsAnother_2 : decode cX7_hearsAnother 2 = .ok (.iconst 0, 1) := by decide +kernel
theorem dX7_hearsAnother_3 : decode cX7_hearsAnother 3 = .ok (.istore_n 3, 1) := by decide +kernel
theorem dX7_hearsAnother_4 : decode cX7_hearsAnother 4 = .ok (.iload_n 3, 1) := by decide +kernel
theorem dX7_hearsAnother_5 : decode cX7_hearsAnother 5 = .ok (.aload_n 0, 1) := by decide +kernel
theorem dX7_hearsAnother_6 : decode cX7_hearsAnother 6 = .ok (.getfield 7, 3) := by decide +kernel
theorem dX7_hearsAnother_9 : decode cX7_hearsAnother 9 = .ok (.iconst 0, 1) := by decide +kernel
theorem dX7_hearsAnother_10 : decode cX7_hearsAnother 10 = .ok (.iaload, 1) := by decide +kernel
theorem dX7_hearsAnother_11 : decode cX7_hearsAnother 11 = .ok (.if_icmp .ge 41, 3) := by decide +kernel
theorem dX7_hearsAnother_14 : decode cX7_hearsAnother 14 = .ok (.iload_n 2, 1) := by decide +kernel
theorem dX7_hearsAnother_15 : decode cX7_hearsAnother 15 = .ok (.ifCond .ne 25, 3) := by decide +kernel
theorem dX7_hearsAnother_18 : decode cX7_hearsAnother 18 = .ok (.iload_n 3, 1) := by decide +kernel
theorem dX7_hearsAnother_19 : decode cX7_hearsAnother 19 = .ok (.iload_n 1, 1) := by decide +kernel
theorem dX7_hearsAnother_20 : decode cX7_hearsAnother 20 = .ok (.if_icmp .eq 24, 3) := by decide +kernel
theorem dX7_hearsAnother_23 : decode cX7_hearsAnother 23 = .ok (.aload_n 0, 1) := by decide +kernel
theorem dX7_hearsAnother_24 : decode cX7_hearsAnother 24 = .ok (.iload_n 3, 1) := by decide +kernel
theorem dX7_hearsAnother_25 : decode cX7_hearsAnother 25 = .ok (.invokevirtual 65, 3) := by decide +kernel
theorem dX7_hearsAnother_28 : decode cX7_hearsAnother 28 = .ok (.aload_n 0, 1) := by decide +kernel
theorem dX7_hearsAnother_29 : decode cX7_hearsAnother 29 = .ok (.iload_n 1, 1) := by decide +kernel
theorem dX7_hearsAnother_30 : decode cX7_hearsAnother 30 = .ok (.invokevirtual 65, 3) := by decide +kernel
theorem dX7_hearsAnother_33 : decode cX7_hearsAnother 33 = .ok (.invokestatic 68, 3) := by decide +kernel
theorem dX7_hearsAnother_36 : decode cX7_hearsAnother 36 = .ok (.iconst 3, 1) := by decide +kernel
theorem dX7_hearsAnother_37 : decode cX7_hearsAnother 37 = .ok (.if_icmp .gt 7, 3) := by decide +kernel
theorem dX7_hearsAnother_40 : decode cX7_hearsAnother 40 = .ok (.iconst 1, 1) := by decide +kernel
theorem dX7_hearsAnother_41 : decode cX7_hearsAnother 41 = .ok (.goto 4, 3) := by decide +kernel
theorem dX7_hearsAnother_44 : decode cX7_hearsAnother 44 = .ok (.iconst 0, 1) := by decide +kernel
theorem dX7_hearsAnother_45 : decode cX7_hearsAnother 45 = .ok (.istore_n 2, 1) := by decide +kernel
theorem dX7_hearsAnother_46 : decode cX7_hearsAnother 46 = .ok (.iinc 3 1, 3) := by decide +kernel
theorem dX7_hearsAnother_49 : decode cX7_hearsAnother 49 = .ok (.goto (-45), 3) := by decide +kernel
theorem dX7_hearsAnother_52 : decode cX7_hearsAnother 52 = .ok (.iload_n 2, 1) := by decide +kernel
theorem dX7_hearsAnother_53 : decode cX7_hearsAnother 53 = .ok (.ireturn, 1) := by decide +kernel
theorem dX7_laterBy_0 : decode cX7_laterBy 0 = .ok (.aload_n 0, 1) := by decide +kernel
theorem dX7_laterBy_1 : decode cX7_laterBy 1 = .ok (.iload_n 1, 1) := by decide +kernel
theorem dX7_laterBy_2 : decode cX7_laterBy 2 = .ok (.iconst 2, 1) := by decide +kernel
theorem dX7_laterBy_3 : decode cX7_laterBy 3 = .ok (.invokevirtual 57, 3) := by decide +kernel
theorem dX7_laterBy_6 : decode cX7_laterBy 6 = .ok (.istore_n 2, 1) := by decide +kernel
theorem dX7_laterBy_7 : decode cX7_laterBy 7 = .ok (.aload_n 0, 1) := by decide +kernel
theorem dX7_laterBy_8 : decode cX7_laterBy 8 = .ok (.iload_n 1, 1) := by decide +kernel
theorem dX7_laterBy_9 : decode cX7_laterBy 9 = .ok (.invokevirtual 71, 3) := by decide +kernel
theorem dX7_laterBy_12 : decode cX7_laterBy 12 = .ok (.ifCond .eq 7, 3) := by decide +kernel
theorem dX7_laterBy_15 : decode cX7_laterBy 15 = .ok (.iconst 0, 1) := by decide +kernel
theorem dX7_laterBy_16 : decode cX7_laterBy 16 = .ok (.goto 4, 3) := by decide +kernel
theorem dX7_laterBy_19 : decode cX7_laterBy 19 = .ok (.iload_n 2, 1) := by decide +kernel
theorem dX7_laterBy_20 : decode cX7_laterBy 20 = .ok (.istore_n 3, 1) := by decide +kernel
theorem dX7_laterBy_21 : decode cX7_laterBy 21 = .ok (.aload_n 0, 1) := by decide +kernel
theorem dX7_laterBy_22 : decode cX7_laterBy 22 = .ok (.iload_n 1, 1) := by decide +kernel
theorem dX7_laterBy_23 : decode cX7_laterBy 23 = .ok (.iconst 0, 1) := by decide +kernel
theorem dX7_laterBy_24 : decode cX7_laterBy 24 = .ok (.invokevirtual 57, 3) := by decide +kernel
theorem dX7_laterBy_27 : decode cX7_laterBy 27 = .ok (.tableswitch 59 0 3 #[29, 31, 35, 37], 29) := by decide +kernel
theorem dX7_laterBy_56 : decode cX7_laterBy 56 = .ok (.iload_n 2, 1) := by decide +kernel
theorem dX7_laterBy_57 : decode cX7_laterBy 57 = .ok (.ireturn, 1) := by decide +kernel
theorem dX7_laterBy_58 : decode cX7_laterBy 58 = .ok (.iload_n 2, 1) := by decide +kernel
theorem dX7_laterBy_59 : decode cX7_laterBy 59 = .ok (.iconst 2, 1) := by decide +kernel
theorem dX7_laterBy_60 : decode cX7_laterBy 60 = .ok (.idiv, 1) := by decide +kernel
theorem dX7_laterBy_61 : decode cX7_laterBy 61 = .ok (.ireturn, 1) := by decide +kernel
theorem dX7_laterBy_62 : decode cX7_laterBy 62 = .ok (.iload_n 3, 1) := by decide +kernel
theorem dX7_laterBy_63 : decode cX7_laterBy 63 = .ok (.ireturn, 1) := by decide +kernel
theorem dX7_laterBy_64 : decode cX7_laterBy 64 = .ok (.aload_n 0, 1) := by decide +kernel
theorem dX7_laterBy_65 : decode cX7_laterBy 65 = .ok (.getfield 7, 3) := by decide +kernel
theorem dX7_laterBy_68 : decode cX7_laterBy 68 = .ok (.iconst 1, 1) := by decide +kernel
theorem dX7_laterBy_69 : decode cX7_laterBy 69 = .ok (.iaload, 1) := by decide +kernel
theorem dX7_laterBy_70 : decode cX7_laterBy 70 = .ok (.iconst 2, 1) := by decide +kernel
theorem dX7_laterBy_71 : decode cX7_laterBy 71 = .ok (.irem, 1) := by decide +kernel
theorem dX7_laterBy_72 : decode cX7_laterBy 72 = .ok (.ifCond .ne 9, 3) := by decide +kernel
theorem dX7_laterBy_75 : decode cX7_laterBy 75 = .ok (.iload_n 2, 1) := by decide +kernel
theorem dX7_laterBy_76 : decode cX7_laterBy 76 = .ok (.iconst 2, 1) := by decide +kernel
theorem dX7_laterBy_77 : decode cX7_laterBy 77 = .ok (.idiv, 1) := by decide +kernel
theorem dX7_laterBy_78 : decode cX7_laterBy 78 = .ok (.goto 7, 3) := by decide +kernel
theorem dX7_laterBy_81 : decode cX7_laterBy 81 = .ok (.iload_n 2, 1) := by decide +kernel
theorem dX7_laterBy_82 : decode cX7_laterBy 82 = .ok (.iconst 2, 1) := by decide +kernel
theorem dX7_laterBy_83 : decode cX7_laterBy 83 = .ok (.idiv, 1) := by decide +kernel
theorem dX7_laterBy_84 : decode cX7_laterBy 84 = .ok (.ineg, 1) := by decide +kernel
theorem dX7_laterBy_85 : decode cX7_laterBy 85 = .ok (.ireturn, 1) := by decide +kernel
theorem dX7_laterBy_86 : decode cX7_laterBy 86 = .ok (.iload_n 1, 1) := by decide +kernel
theorem dX7_laterBy_87 : decode cX7_laterBy 87 = .ok (.ifCond .ne 14, 3) := by decide +kernel
theorem dX7_laterBy_90 : decode cX7_laterBy 90 = .ok (.aload_n 0, 1) := by decide +kernel
theorem dX7_laterBy_91 : decode cX7_laterBy 91 = .ok (.getfield 7, 3) := by decide +kernel
theorem dX7_laterBy_94 : decode cX7_laterBy 94 = .ok (.iconst 0, 1) := by decide +kernel
theorem dX7_laterBy_95 : decode cX7_laterBy 95 = .ok (.iaload, 1) := by decide +kernel
theorem dX7_laterBy_96 : decode cX7_laterBy 96 = .ok (.iconst 1, 1) := by decide +kernel
theorem dX7_laterBy_97 : decode cX7_laterBy 97 = .ok (.isub, 1) := by decide +kernel
theorem dX7_laterBy_98 : decode cX7_laterBy 98 = .ok (.goto 6, 3) := by decide +kernel
theorem dX7_laterBy_101 : decode cX7_laterBy 101 = .ok (.iload_n 1, 1) := by decide +kernel
theorem dX7_laterBy_102 : decode cX7_laterBy 102 = .ok (.iconst 1, 1) := by decide +kernel
theorem dX7_laterBy_103 : decode cX7_laterBy 103 = .ok (.isub, 1) := by decide +kernel
theorem dX7_laterBy_104 : decode cX7_laterBy 104 = .ok (.istore 4, 2) := by decide +kernel
theorem dX7_laterBy_106 : decode cX7_laterBy 106 = .ok (.iload_n 3, 1) := by decide +kernel
theorem dX7_laterBy_107 : decode cX7_laterBy 107 = .ok (.iload 4, 2) := by decide +kernel
theorem dX7_laterBy_109 : decode cX7_laterBy 109 = .ok (.iload_n 1, 1) := by decide +kernel
theorem dX7_laterBy_110 : decode cX7_laterBy 110 = .ok (.if_icmp .eq 19, 3) := by decide +kernel
theorem dX7_laterBy_113 : decode cX7_laterBy 113 = .ok (.aload_n 0, 1) := by decide +kernel
theorem dX7_laterBy_114 : decode cX7_laterBy 114 = .ok (.iload 4, 2) := by decide +kernel
theorem dX7_laterBy_116 : decode cX7_laterBy 116 = .ok (.iload_n 1, 1) := by decide +kernel
theorem dX7_laterBy_117 : decode cX7_laterBy 117 = .ok (.invokevirtual 75, 3) := by decide +kernel
theorem dX7_laterBy_120 : decode cX7_laterBy 120 = .ok (.bipush 10, 2) := by decide +kernel
theorem dX7_laterBy_122 : decode cX7_laterBy 122 = .ok (.if_icmp .gt 7, 3) := by decide +kernel
theorem dX7_laterBy_125 : decode cX7_laterBy 125 = .ok (.iconst 1, 1) := by decide +kernel
theorem dX7_laterBy_126 : decode cX7_laterBy 126 = .ok (.goto 4, 3) := by decide +kernel
theorem dX7_laterBy_129 : decode cX7_laterBy 129 = .ok (.iconst 0, 1) := by decide +kernel
theorem dX7_laterBy_130 : decode cX7_laterBy 130 = .ok (.iadd, 1) := by decide +kernel
theorem dX7_laterBy_131 : decode cX7_laterBy 131 = .ok (.ireturn, 1) := by decide +kernel
theorem dX7_goesBy_0 : decode cX7_goesBy 0 = .ok (.iconst 0, 1) := by decide +kernel
theorem dX7_goesBy_1 : decode cX7_goesBy 1 = .ok (.istore_n 1, 1) := by decide +kernel
theorem dX7_goesBy_2 : decode cX7_goesBy 2 = .ok (.iload_n 1, 1) := by decide +kernel
theorem dX7_goesBy_3 : decode cX7_goesBy 3 = .ok (.aload_n 0, 1) := by decide +kernel
theorem dX7_goesBy_4 : decode cX7_goesBy 4 = .ok (.getfield 7, 3) := by decide +kernel
theorem dX7_goesBy_7 : decode cX7_goesBy 7 = .ok (.iconst 0, 1) := by decide +kernel
theorem dX7_goesBy_8 : decode cX7_goesBy 8 = .ok (.iaload, 1) := by decide +kernel
theorem dX7_goesBy_9 : decode cX7_goesBy 9 = .ok (.if_icmp .ge 20, 3) := by decide +kernel
theorem dX7_goesBy_12 : decode cX7_goesBy 12 = .ok (.aload_n 0, 1) := by decide +kernel
theorem dX7_goesBy_13 : decode cX7_goesBy 13 = .ok (.getfield 13, 3) := by decide +kernel
theorem dX7_goesBy_16 : decode cX7_goesBy 16 = .ok (.iload_n 1, 1) := by decide +kernel
theorem dX7_goesBy_17 : decode cX7_goesBy 17 = .ok (.aload_n 0, 1) := by decide +kernel
theorem dX7_goesBy_18 : decode cX7_goesBy 18 = .ok (.iload_n 1, 1) := by decide +kernel
theorem dX7_goesBy_19 : decode cX7_goesBy 19 = .ok (.invokevirtual 78, 3) := by decide +kernel
theorem dX7_goesBy_22 : decode cX7_goesBy 22 = .ok (.iastore, 1) := by decide +kernel
theorem dX7_goesBy_23 : decode cX7_goesBy 23 = .ok (.iinc 1 1, 3) := by decide +kernel
theorem dX7_goesBy_26 : decode cX7_goesBy 26 = .ok (.goto (-24), 3) := by decide +kernel
theorem dX7_goesBy_29 : decode cX7_goesBy 29 = .ok (.iconst 0, 1) := by decide +kernel
theorem dX7_goesBy_30 : decode cX7_goesBy 30 = .ok (.istore_n 1, 1) := by decide +kernel
theorem dX7_goesBy_31 : decode cX7_goesBy 31 = .ok (.iload_n 1, 1) := by decide +kernel
theorem dX7_goesBy_32 : decode cX7_goesBy 32 = .ok (.aload_n 0, 1) := by decide +kernel
theorem dX7_goesBy_33 : decode cX7_goesBy 33 = .ok (.getfield 7, 3) := by decide +kernel
theorem dX7_goesBy_36 : decode cX7_goesBy 36 = .ok (.iconst 0, 1) := by decide +kernel
theorem dX7_goesBy_37 : decode cX7_goesBy 37 = .ok (.iaload, 1) := by decide +kernel
theorem dX7_goesBy_38 : decode cX7_goesBy 38 = .ok (.if_icmp .ge 30, 3) := by decide +kernel
theorem dX7_goesBy_41 : decode cX7_goesBy 41 = .ok (.aload_n 0, 1) := by decide +kernel
theorem dX7_goesBy_42 : decode cX7_goesBy 42 = .ok (.iload_n 1, 1) := by decide +kernel
theorem dX7_goesBy_43 : decode cX7_goesBy 43 = .ok (.iconst 1, 1) := by decide +kernel
theorem dX7_goesBy_44 : decode cX7_goesBy 44 = .ok (.aload_n 0, 1) := by decide +kernel
theorem dX7_goesBy_45 : decode cX7_goesBy 45 = .ok (.iload_n 1, 1) := by decide +kernel
theorem dX7_goesBy_46 : decode cX7_goesBy 46 = .ok (.invokevirtual 65, 3) := by decide +kernel
theorem dX7_goesBy_49 : decode cX7_goesBy 49 = .ok (.aload_n 0, 1) := by decide +kernel
theorem dX7_goesBy_50 : decode cX7_goesBy 50 = .ok (.getfield 13, 3) := by decide +kernel
theorem dX7_goesBy_53 : decode cX7_goesBy 53 = .ok (.iload_n 1, 1) := by decide +kernel
theorem dX7_goesBy_54 : decode cX7_goesBy 54 = .ok (.iaload, 1) := by decide +kernel
theorem dX7_goesBy_55 : decode cX7_goesBy 55 = .ok (.iadd, 1) := by decide +kernel
theorem dX7_goesBy_56 : decode cX7_goesBy 56 = .ok (.invokestatic 61, 3) := by decide +kernel
theorem dX7_goesBy_59 : decode cX7_goesBy 59 = .ok (.invokevirtual 81, 3) := by decide +kernel
theorem dX7_goesBy_62 : decode cX7_goesBy 62 = .ok (.iinc 1 1, 3) := by decide +kernel
theorem dX7_goesBy_65 : decode cX7_goesBy 65 = .ok (.goto (-34), 3) := by decide +kernel
theorem dX7_goesBy_68 : decode cX7_goesBy 68 = .ok (.aload_n 0, 1) := by decide +kernel
theorem dX7_goesBy_69 : decode cX7_goesBy 69 = .ok (.getfield 7, 3) := by decide +kernel
theorem dX7_goesBy_72 : decode cX7_goesBy 72 = .ok (.iconst 1, 1) := by decide +kernel
theorem dX7_goesBy_73 : decode cX7_goesBy 73 = .ok (.dup2, 1) := by decide +kernel
theorem dX7_goesBy_74 : decode cX7_goesBy 74 = .ok (.iaload, 1) := by decide +kernel
theorem dX7_goesBy_75 : decode cX7_goesBy 75 = .ok (.iconst 1, 1) := by decide +kernel
theorem dX7_goesBy_76 : decode cX7_goesBy 76 = .ok (.iadd, 1) := by decide +kernel
theorem dX7_goesBy_77 : decode cX7_goesBy 77 = .ok (.iastore, 1) := by decide +kernel
theorem dX7_goesBy_78 : decode cX7_goesBy 78 = .ok (.return_, 1) := by decide +kernel
theorem dX7_goesOn_0 : decode cX7_goesOn 0 = .ok (.iconst 0, 1) := by decide +kernel
theorem dX7_goesOn_1 : decode cX7_goesOn 1 = .ok (.istore_n 2, 1) := by decide +kernel
theorem dX7_goesOn_2 : decode cX7_goesOn 2 = .ok (.iload_n 2, 1) := by decide +kernel
theorem dX7_goesOn_3 : decode cX7_goesOn 3 = .ok (.iload_n 1, 1) := by decide +kernel
theorem dX7_goesOn_4 : decode cX7_goesOn 4 = .ok (.if_icmp .ge 13, 3) := by decide +kernel
theorem dX7_goesOn_7 : decode cX7_goesOn 7 = .ok (.aload_n 0, 1) := by decide +kernel
theorem dX7_goesOn_8 : decode cX7_goesOn 8 = .ok (.invokevirtual 85, 3) := by decide +kernel
theorem dX7_goesOn_11 : decode cX7_goesOn 11 = .ok (.iinc 2 1, 3) := by decide +kernel
theorem dX7_goesOn_14 : decode cX7_goesOn 14 = .ok (.goto (-12), 3) := by decide +kernel
theorem dX7_goesOn_17 : decode cX7_goesOn 17 = .ok (.return_, 1) := by decide +kernel
theorem dX7_leastGap_0 : decode cX7_leastGap 0 = .ok (.bipush 30, 2) := by decide +kernel
theorem dX7_leastGap_2 : decode cX7_leastGap 2 = .ok (.istore_n 1, 1) := by decide +kernel
theorem dX7_leastGap_3 : decode cX7_leastGap 3 = .ok (.iconst 0, 1) := by decide +kernel
theorem dX7_leastGap_4 : decode cX7_leastGap 4 = .ok (.istore_n 2, 1) := by decide +kernel
theorem dX7_leastGap_5 : decode cX7_leastGap 5 = .ok (.iload_n 2, 1) := by decide +kernel
theorem dX7_leastGap_6 : decode cX7_leastGap 6 = .ok (.aload_n 0, 1) := by decide +kernel
theorem dX7_leastGap_7 : decode cX7_leastGap 7 = .ok (.getfield 7, 3) := by decide +kernel
theorem dX7_leastGap_10 : decode cX7_leastGap 10 = .ok (.iconst 0, 1) := by decide +kernel
theorem dX7_leastGap_11 : decode cX7_leastGap 11 = .ok (.iaload, 1) := by decide +kernel
theorem dX7_leastGap_12 : decode cX7_leastGap 12 = .ok (.if_icmp .ge 50, 3) := by decide +kernel
theorem dX7_leastGap_15 : decode cX7_leastGap 15 = .ok (.iconst 0, 1) := by decide +kernel
theorem dX7_leastGap_16 : decode cX7_leastGap 16 = .ok (.istore_n 3, 1) := by decide +kernel
theorem dX7_leastGap_17 : decode cX7_leastGap 17 = .ok (.iload_n 3, 1) := by decide +kernel
theorem dX7_leastGap_18 : decode cX7_leastGap 18 = .ok (.iload_n 2, 1) := by decide +kernel
theorem dX7_leastGap_19 : decode cX7_leastGap 19 = .ok (.if_icmp .ge 37, 3) := by decide +kernel
theorem dX7_leastGap_22 : decode cX7_leastGap 22 = .ok (.aload_n 0, 1) := by decide +kernel
theorem dX7_leastGap_23 : decode cX7_leastGap 23 = .ok (.iload_n 2, 1) := by decide +kernel
theorem dX7_leastGap_24 : decode cX7_leastGap 24 = .ok (.invokevirtual 65, 3) := by decide +kernel
theorem dX7_leastGap_27 : decode cX7_leastGap 27 = .ok (.aload_n 0, 1) := by decide +kernel
theorem dX7_leastGap_28 : decode cX7_leastGap 28 = .ok (.iload_n 3, 1) := by decide +kernel
theorem dX7_leastGap_29 : decode cX7_leastGap 29 = .ok (.invokevirtual 65, 3) := by decide +kernel
theorem dX7_leastGap_32 : decode cX7_leastGap 32 = .ok (.invokestatic 68, 3) := by decide +kernel
theorem dX7_leastGap_35 : decode cX7_leastGap 35 = .ok (.istore 4, 2) := by decide +kernel
theorem dX7_leastGap_37 : decode cX7_leastGap 37 = .ok (.iload 4, 2) := by decide +kernel
theorem dX7_leastGap_39 : decode cX7_leastGap 39 = .ok (.iload_n 1, 1) := by decide +kernel
theorem dX7_leastGap_40 : decode cX7_leastGap 40 = .ok (.if_icmp .ge 8, 3) := by decide +kernel
theorem dX7_leastGap_43 : decode cX7_leastGap 43 = .ok (.iload 4, 2) := by decide +kernel
theorem dX7_leastGap_45 : decode cX7_leastGap 45 = .ok (.goto 4, 3) := by decide +kernel
theorem dX7_leastGap_48 : decode cX7_leastGap 48 = .ok (.iload_n 1, 1) := by decide +kernel
theorem dX7_leastGap_49 : decode cX7_leastGap 49 = .ok (.istore_n 1, 1) := by decide +kernel
theorem dX7_leastGap_50 : decode cX7_leastGap 50 = .ok (.iinc 3 1, 3) := by decide +kernel
theorem dX7_leastGap_53 : decode cX7_leastGap 53 = .ok (.goto (-36), 3) := by decide +kernel
theorem dX7_leastGap_56 : decode cX7_leastGap 56 = .ok (.iinc 2 1, 3) := by decide +kernel
theorem dX7_leastGap_59 : decode cX7_leastGap 59 = .ok (.goto (-54), 3) := by decide +kernel
theorem dX7_leastGap_62 : decode cX7_leastGap 62 = .ok (.iload_n 1, 1) := by decide +kernel
theorem dX7_leastGap_63 : decode cX7_leastGap 63 = .ok (.ireturn, 1) := by decide +kernel
theorem dX7_alike_0 : decode cX7_alike 0 = .ok (.iconst 0, 1) := by decide +kernel
theorem dX7_alike_1 : decode cX7_alike 1 = .ok (.istore_n 2, 1) := by decide +kernel
theorem dX7_alike_2 : decode cX7_alike 2 = .ok (.iconst 0, 1) := by decide +kernel
theorem dX7_alike_3 : decode cX7_alike 3 = .ok (.istore_n 3, 1) := by decide +kernel
theorem dX7_alike_4 : decode cX7_alike 4 = .ok (.iload_n 3, 1) := by decide +kernel
theorem dX7_alike_5 : decode cX7_alike 5 = .ok (.aload_n 0, 1) := by decide +kernel
theorem dX7_alike_6 : decode cX7_alike 6 = .ok (.getfield 7, 3) := by decide +kernel
theorem dX7_alike_9 : decode cX7_alike 9 = .ok (.iconst 0, 1) := by decide +kernel
theorem dX7_alike_10 : decode cX7_alike 10 = .ok (.iaload, 1) := by decide +kernel
theorem dX7_alike_11 : decode cX7_alike 11 = .ok (.if_icmp .ge 37, 3) := by decide +kernel
theorem dX7_alike_14 : decode cX7_alike 14 = .ok (.iload_n 2, 1) := by decide +kernel
theorem dX7_alike_15 : decode cX7_alike 15 = .ok (.iload_n 3, 1) := by decide +kernel
theorem dX7_alike_16 : decode cX7_alike 16 = .ok (.iload_n 1, 1) := by decide +kernel
theorem dX7_alike_17 : decode cX7_alike 17 = .ok (.if_icmp .eq 22, 3) := by decide +kernel
theorem dX7_alike_20 : decode cX7_alike 20 = .ok (.aload_n 0, 1) := by decide +kernel
theorem dX7_alike_21 : decode cX7_alike 21 = .ok (.iload_n 3, 1) := by decide +kernel
theorem dX7_alike_22 : decode cX7_alike 22 = .ok (.invokevirtual 65, 3) := by decide +kernel
theorem dX7_alike_25 : decode cX7_alike 25 = .ok (.aload_n 0, 1) := by decide +kernel
theorem dX7_alike_26 : decode cX7_alike 26 = .ok (.iload_n 1, 1) := by decide +kernel
theorem dX7_alike_27 : decode cX7_alike 27 = .ok (.invokevirtual 65, 3) := by decide +kernel
theorem dX7_alike_30 : decode cX7_alike 30 = .ok (.if_icmp .ne 9, 3) := by decide +kernel
theorem dX7_alike_33 : decode cX7_alike 33 = .ok (.iconst 1, 1) := by decide +kernel
theorem dX7_alike_34 : decode cX7_alike 34 = .ok (.iload_n 3, 1) := by decide +kernel
theorem dX7_alike_35 : decode cX7_alike 35 = .ok (.ishl, 1) := by decide +kernel
theorem dX7_alike_36 : decode cX7_alike 36 = .ok (.goto 4, 3) := by decide +kernel
theorem dX7_alike_39 : decode cX7_alike 39 = .ok (.iconst 0, 1) := by decide +kernel
theorem dX7_alike_40 : decode cX7_alike 40 = .ok (.ior, 1) := by decide +kernel
theorem dX7_alike_41 : decode cX7_alike 41 = .ok (.istore_n 2, 1) := by decide +kernel
theorem dX7_alike_42 : decode cX7_alike 42 = .ok (.iinc 3 1, 3) := by decide +kernel
theorem dX7_alike_45 : decode cX7_alike 45 = .ok (.goto (-41), 3) := by decide +kernel
theorem dX7_alike_48 : decode cX7_alike 48 = .ok (.iload_n 2, 1) := by decide +kernel
theorem dX7_alike_49 : decode cX7_alike 49 = .ok (.ireturn, 1) := by decide +kernel
theorem dX7_allAlike_0 : decode cX7_allAlike 0 = .ok (.iconst 0, 1) := by decide +kernel
theorem dX7_allAlike_1 : decode cX7_allAlike 1 = .ok (.istore_n 1, 1) := by decide +kernel
theorem dX7_allAlike_2 : decode cX7_allAlike 2 = .ok (.iconst 0, 1) := by decide +kernel
theorem dX7_allAlike_3 : decode cX7_allAlike 3 = .ok (.istore_n 2, 1) := by decide +kernel
theorem dX7_allAlike_4 : decode cX7_allAlike 4 = .ok (.iload_n 2, 1) := by decide +kernel
theorem dX7_allAlike_5 : decode cX7_allAlike 5 = .ok (.aload_n 0, 1) := by decide +kernel
theorem dX7_allAlike_6 : decode cX7_allAlike 6 = .ok (.getfield 7, 3) := by decide +kernel
theorem dX7_allAlike_9 : decode cX7_allAlike 9 = .ok (.iconst 0, 1) := by decide +kernel
theorem dX7_allAlike_10 : decode cX7_allAlike 10 = .ok (.iaload, 1) := by decide +kernel
theorem dX7_allAlike_11 : decode cX7_allAlike 11 = .ok (.if_icmp .ge 27, 3) := by decide +kernel
theorem dX7_allAlike_14 : decode cX7_allAlike 14 = .ok (.iload_n 1, 1) := by decide +kernel
theorem dX7_allAlike_15 : decode cX7_allAlike 15 = .ok (.aload_n 0, 1) := by decide +kernel
theorem dX7_allAlike_16 : decode cX7_allAlike 16 = .ok (.iload_n 2, 1) := by decide +kernel
theorem dX7_allAlike_17 : decode cX7_allAlike 17 = .ok (.invokevirtual 88, 3) := by decide +kernel
theorem dX7_allAlike_20 : decode cX7_allAlike 20 = .ok (.ifCond .eq 9, 3) := by decide +kernel
theorem dX7_allAlike_23 : decode cX7_allAlike 23 = .ok (.iconst 1, 1) := by decide +kernel
theorem dX7_allAlike_24 : decode cX7_allAlike 24 = .ok (.iload_n 2, 1) := by decide +kernel
theorem dX7_allAlike_25 : decode cX7_allAlike 25 = .ok (.ishl, 1) := by decide +kernel
theorem dX7_allAlike_26 : decode cX7_allAlike 26 = .ok (.goto 4, 3) := by decide +kernel
theorem dX7_allAlike_29 : decode cX7_allAlike 29 = .ok (.iconst 0, 1) := by decide +kernel
theorem dX7_allAlike_30 : decode cX7_allAlike 30 = .ok (.ior, 1) := by decide +kernel
theorem dX7_allAlike_31 : decode cX7_allAlike 31 = .ok (.istore_n 1, 1) := by decide +kernel
theorem dX7_allAlike_32 : decode cX7_allAlike 32 = .ok (.iinc 2 1, 3) := by decide +kernel
theorem dX7_allAlike_35 : decode cX7_allAlike 35 = .ok (.goto (-31), 3) := by decide +kernel
theorem dX7_allAlike_38 : decode cX7_allAlike 38 = .ok (.iload_n 1, 1) := by decide +kernel
theorem dX7_allAlike_39 : decode cX7_allAlike 39 = .ok (.ireturn, 1) := by decide +kernel
theorem dX7_villageComes_0 : decode cX7_villageComes 0 = .ok (.aload_n 0, 1) := by decide +kernel
theorem dX7_villageComes_1 : decode cX7_villageComes 1 = .ok (.getfield 7, 3) := by decide +kernel
theorem dX7_villageComes_4 : decode cX7_villageComes 4 = .ok (.iconst 0, 1) := by decide +kernel
theorem dX7_villageComes_5 : decode cX7_villageComes 5 = .ok (.iaload, 1) := by decide +kernel
theorem dX7_villageComes_6 : decode cX7_villageComes 6 = .ok (.istore 5, 2) := by decide +kernel
theorem dX7_villageComes_8 : decode cX7_villageComes 8 = .ok (.aload_n 0, 1) := by decide +kernel
theorem dX7_villageComes_9 : decode cX7_villageComes 9 = .ok (.iload 5, 2) := by decide +kernel
theorem dX7_villageComes_11 : decode cX7_villageComes 11 = .ok (.iconst 0, 1) := by decide +kernel
theorem dX7_villageComes_12 : decode cX7_villageComes 12 = .ok (.iload_n 1, 1) := by decide +kernel
theorem dX7_villageComes_13 : decode cX7_villageComes 13 = .ok (.invokevirtual 81, 3) := by decide +kernel
theorem dX7_villageComes_16 : decode cX7_villageComes 16 = .ok (.aload_n 0, 1) := by decide +kernel
theorem dX7_villageComes_17 : decode cX7_villageComes 17 = .ok (.iload 5, 2) := by decide +kernel
theorem dX7_villageComes_19 : decode cX7_villageComes 19 = .ok (.iconst 1, 1) := by decide +kernel
theorem dX7_villageComes_20 : decode cX7_villageComes 20 = .ok (.iload_n 2, 1) := by decide +kernel
theorem dX7_villageComes_21 : decode cX7_villageComes 21 = .ok (.invokevirtual 81, 3) := by decide +kernel
theorem dX7_villageComes_24 : decode cX7_villageComes 24 = .ok (.aload_n 0, 1) := by decide +kernel
theorem dX7_villageComes_25 : decode cX7_villageComes 25 = .ok (.iload 5, 2) := by decide +kernel
theorem dX7_villageComes_27 : decode cX7_villageComes 27 = .ok (.iconst 2, 1) := by decide +kernel
theorem dX7_villageComes_28 : decode cX7_villageComes 28 = .ok (.iload_n 3, 1) := by decide +kernel
theorem dX7_villageComes_29 : decode cX7_villageComes 29 = .ok (.invokevirtual 81, 3) := by decide +kernel
theorem dX7_villageComes_32 : decode cX7_villageComes 32 = .ok (.aload_n 0, 1) := by decide +kernel
theorem dX7_villageComes_33 : decode cX7_villageComes 33 = .ok (.iload 5, 2) := by decide +kernel
theorem dX7_villageComes_35 : decode cX7_villageComes 35 = .ok (.iconst 3, 1) := by decide +kernel
theorem dX7_villageComes_36 : decode cX7_villageComes 36 = .ok (.iload 4, 2) := by decide +kernel
theorem dX7_villageComes_38 : decode cX7_villageComes 38 = .ok (.invokevirtual 81, 3) := by decide +kernel
theorem dX7_villageComes_41 : decode cX7_villageComes 41 = .ok (.aload_n 0, 1) := by decide +kernel
theorem dX7_villageComes_42 : decode cX7_villageComes 42 = .ok (.getfield 7, 3) := by decide +kernel
theorem dX7_villageComes_45 : decode cX7_villageComes 45 = .ok (.iconst 0, 1) := by decide +kernel
theorem dX7_villageComes_46 : decode cX7_villageComes 46 = .ok (.dup2, 1) := by decide +kernel
theorem dX7_villageComes_47 : decode cX7_villageComes 47 = .ok (.iaload, 1) := by decide +kernel
theorem dX7_villageComes_48 : decode cX7_villageComes 48 = .ok (.iconst 1, 1) := by decide +kernel
theorem dX7_villageComes_49 : decode cX7_villageComes 49 = .ok (.iadd, 1) := by decide +kernel
theorem dX7_villageComes_50 : decode cX7_villageComes 50 = .ok (.iastore, 1) := by decide +kernel
theorem dX7_villageComes_51 : decode cX7_villageComes 51 = .ok (.aload_n 0, 1) := by decide +kernel
theorem dX7_villageComes_52 : decode cX7_villageComes 52 = .ok (.iconst 0, 1) := by decide +kernel
theorem dX7_villageComes_53 : decode cX7_villageComes 53 = .ok (.putfield 91, 3) := by decide +kernel
theorem dX7_villageComes_56 : decode cX7_villageComes 56 = .ok (.return_, 1) := by decide +kernel
theorem dX7_village_0 : decode cX7_village 0 = .ok (.iload_n 1, 1) := by decide +kernel
theorem dX7_village_1 : decode cX7_village 1 = .ok (.i2l, 1) := by decide +kernel
theorem dX7_village_2 : decode cX7_village 2 = .ok (.lconst 0, 1) := by decide +kernel
theorem dX7_village_3 : decode cX7_village 3 = .ok (.ldc2_w 95, 3) := by decide +kernel
theorem dX7_village_6 : decode cX7_village 6 = .ok (.invokestatic 53, 3) := by decide +kernel
theorem dX7_village_9 : decode cX7_village 9 = .ok (.ifCond .eq 29, 3) := by decide +kernel
theorem dX7_village_12 : decode cX7_village 12 = .ok (.iload_n 2, 1) := by decide +kernel
theorem dX7_village_13 : decode cX7_village 13 = .ok (.i2l, 1) := by decide +kernel
theorem dX7_village_14 : decode cX7_village 14 = .ok (.lconst 0, 1) := by decide +kernel
theorem dX7_village_15 : decode cX7_village 15 = .ok (.ldc2_w 97, 3) := by decide +kernel
theorem dX7_village_18 : decode cX7_village 18 = .ok (.invokestatic 53, 3) := by decide +kernel
theorem dX7_village_21 : decode cX7_village 21 = .ok (.ifCond .eq 17, 3) := by decide +kernel
theorem dX7_village_24 : decode cX7_village 24 = .ok (.iload_n 3, 1) := by decide +kernel
theorem dX7_village_25 : decode cX7_village 25 = .ok (.i2l, 1) := by decide +kernel
theorem dX7_village_26 : decode cX7_village 26 = .ok (.ldc2_w 99, 3) := by decide +kernel
theorem dX7_village_29 : decode cX7_village 29 = .ok (.ldc2_w 101, 3) := by decide +kernel
theorem dX7_village_32 : decode cX7_village 32 = .ok (.invokestatic 53, 3) := by decide +kernel
theorem dX7_village_35 : decode cX7_village 35 = .ok (.ifCond .ne 5, 3) := by decide +kernel
theorem dX7_village_38 : decode cX7_village 38 = .ok (.iconst (-1), 1) := by decide +kernel
theorem dX7_village_39 : decode cX7_village 39 = .ok (.ireturn, 1) := by decide +kernel
theorem dX7_village_40 : decode cX7_village 40 = .ok (.aload_n 0, 1) := by decide +kernel
theorem dX7_village_41 : decode cX7_village 41 = .ok (.getfield 7, 3) := by decide +kernel
theorem dX7_village_44 : decode cX7_village 44 = .ok (.iconst 0, 1) := by decide +kernel
theorem dX7_village_45 : decode cX7_village 45 = .ok (.iaload, 1) := by decide +kernel
theorem dX7_village_46 : decode cX7_village 46 = .ok (.bipush 6, 2) := by decide +kernel
theorem dX7_village_48 : decode cX7_village 48 = .ok (.if_icmp .ne 6, 3) := by decide +kernel
theorem dX7_village_51 : decode cX7_village 51 = .ok (.bipush (-3), 2) := by decide +kernel
theorem dX7_village_53 : decode cX7_village 53 = .ok (.ireturn, 1) := by decide +kernel
theorem dX7_village_54 : decode cX7_village 54 = .ok (.aload_n 0, 1) := by decide +kernel
theorem dX7_village_55 : decode cX7_village 55 = .ok (.iload_n 1, 1) := by decide +kernel
theorem dX7_village_56 : decode cX7_village 56 = .ok (.iload_n 2, 1) := by decide +kernel
theorem dX7_village_57 : decode cX7_village 57 = .ok (.iload_n 3, 1) := by decide +kernel
theorem dX7_village_58 : decode cX7_village 58 = .ok (.iconst 0, 1) := by decide +kernel
theorem dX7_village_59 : decode cX7_village 59 = .ok (.invokevirtual 103, 3) := by decide +kernel
theorem dX7_village_62 : decode cX7_village 62 = .ok (.aload_n 0, 1) := by decide +kernel
theorem dX7_village_63 : decode cX7_village 63 = .ok (.getfield 7, 3) := by decide +kernel
theorem dX7_village_66 : decode cX7_village 66 = .ok (.iconst 0, 1) := by decide +kernel
theorem dX7_village_67 : decode cX7_village 67 = .ok (.iaload, 1) := by decide +kernel
theorem dX7_village_68 : decode cX7_village 68 = .ok (.iconst 1, 1) := by decide +kernel
theorem dX7_village_69 : decode cX7_village 69 = .ok (.isub, 1) := by decide +kernel
theorem dX7_village_70 : decode cX7_village 70 = .ok (.ireturn, 1) := by decide +kernel
theorem dX7_of_0 : decode cX7_of 0 = .ok (.aload_n 0, 1) := by decide +kernel
theorem dX7_of_1 : decode cX7_of 1 = .ok (.iload_n 1, 1) := by decide +kernel
theorem dX7_of_2 : decode cX7_of 2 = .ok (.invokevirtual 107, 3) := by decide +kernel
theorem dX7_of_5 : decode cX7_of 5 = .ok (.ifCond .ne 5, 3) := by decide +kernel
theorem dX7_of_8 : decode cX7_of 8 = .ok (.iconst (-1), 1) := by decide +kernel
theorem dX7_of_9 : decode cX7_of 9 = .ok (.ireturn, 1) := by decide +kernel
theorem dX7_of_10 : decode cX7_of 10 = .ok (.iload_n 2, 1) := by decide +kernel
theorem dX7_of_11 : decode cX7_of 11 = .ok (.tableswitch 69 0 5 #[37, 37, 44, 37, 54, 63], 37) := by decide +kernel
theorem dX7_of_48 : decode cX7_of 48 = .ok (.aload_n 0, 1) := by decide +kernel
theorem dX7_of_49 : decode cX7_of 49 = .ok (.iload_n 1, 1) := by decide +kernel
theorem dX7_of_50 : decode cX7_of 50 = .ok (.iload_n 2, 1) := by decide +kernel
theorem dX7_of_51 : decode cX7_of 51 = .ok (.invokevirtual 57, 3) := by decide +kernel
theorem dX7_of_54 : decode cX7_of 54 = .ok (.ireturn, 1) := by decide +kernel
theorem dX7_of_55 : decode cX7_of 55 = .ok (.aload_n 0, 1) := by decide +kernel
theorem dX7_of_56 : decode cX7_of 56 = .ok (.iload_n 1, 1) := by decide +kernel
theorem dX7_of_57 : decode cX7_of 57 = .ok (.iconst 2, 1) := by decide +kernel
theorem dX7_of_58 : decode cX7_of 58 = .ok (.invokevirtual 57, 3) := by decide +kernel
theorem dX7_of_61 : decode cX7_of 61 = .ok (.bipush 9, 2) := by decide +kernel
theorem dX7_of_63 : decode cX7_of 63 = .ok (.iadd, 1) := by decide +kernel
theorem dX7_of_64 : decode cX7_of 64 = .ok (.ireturn, 1) := by decide +kernel
theorem dX7_of_65 : decode cX7_of 65 = .ok (.aload_n 0, 1) := by decide +kernel
theorem dX7_of_66 : decode cX7_of 66 = .ok (.iload_n 1, 1) := by decide +kernel
theorem dX7_of_67 : decode cX7_of 67 = .ok (.invokevirtual 78, 3) := by decide +kernel
theorem dX7_of_70 : decode cX7_of 70 = .ok (.bipush 30, 2) := by decide +kernel
theorem dX7_of_72 : decode cX7_of 72 = .ok (.iadd, 1) := by decide +kernel
theorem dX7_of_73 : decode cX7_of 73 = .ok (.ireturn, 1) := by decide +kernel
theorem dX7_of_74 : decode cX7_of 74 = .ok (.aload_n 0, 1) := by decide +kernel
theorem dX7_of_75 : decode cX7_of 75 = .ok (.iload_n 1, 1) := by decide +kernel
theorem dX7_of_76 : decode cX7_of 76 = .ok (.invokevirtual 88, 3) := by decide +kernel
theorem dX7_of_79 : decode cX7_of 79 = .ok (.ireturn, 1) := by decide +kernel
theorem dX7_of_80 : decode cX7_of 80 = .ok (.iconst (-1), 1) := by decide +kernel
theorem dX7_of_81 : decode cX7_of 81 = .ok (.ireturn, 1) := by decide +kernel
theorem dX7_areTwo_0 : decode cX7_areTwo 0 = .ok (.aload_n 0, 1) := by decide +kernel
theorem dX7_areTwo_1 : decode cX7_areTwo 1 = .ok (.iload_n 1, 1) := by decide +kernel
theorem dX7_areTwo_2 : decode cX7_areTwo 2 = .ok (.invokevirtual 107, 3) := by decide +kernel
theorem dX7_areTwo_5 : decode cX7_areTwo 5 = .ok (.ifCond .eq 20, 3) := by decide +kernel
theorem dX7_areTwo_8 : decode cX7_areTwo 8 = .ok (.aload_n 0, 1) := by decide +kernel
theorem dX7_areTwo_9 : decode cX7_areTwo 9 = .ok (.iload_n 2, 1) := by decide +kernel
theorem dX7_areTwo_10 : decode cX7_areTwo 10 = .ok (.invokevirtual 107, 3) := by decide +kernel
theorem dX7_areTwo_13 : decode cX7_areTwo 13 = .ok (.ifCond .eq 12, 3) := by decide +kernel
theorem dX7_areTwo_16 : decode cX7_areTwo 16 = .ok (.iload_n 1, 1) := by decide +kernel
theorem dX7_areTwo_17 : decode cX7_areTwo 17 = .ok (.iload_n 2, 1) := by decide +kernel
theorem dX7_areTwo_18 : decode cX7_areTwo 18 = .ok (.if_icmp .eq 7, 3) := by decide +kernel
theorem dX7_areTwo_21 : decode cX7_areTwo 21 = .ok (.iconst 1, 1) := by decide +kernel
theorem dX7_areTwo_22 : decode cX7_areTwo 22 = .ok (.goto 4, 3) := by decide +kernel
theorem dX7_areTwo_25 : decode cX7_areTwo 25 = .ok (.iconst 0, 1) := by decide +kernel
theorem dX7_areTwo_26 : decode cX7_areTwo 26 = .ok (.ireturn, 1) := by decide +kernel
theorem dX7_gap_0 : decode cX7_gap 0 = .ok (.aload_n 0, 1) := by decide +kernel
theorem dX7_gap_1 : decode cX7_gap 1 = .ok (.iload_n 1, 1) := by decide +kernel
theorem dX7_gap_2 : decode cX7_gap 2 = .ok (.iload_n 2, 1) := by decide +kernel
theorem dX7_gap_3 : decode cX7_gap 3 = .ok (.invokevirtual 110, 3) := by decide +kernel
theorem dX7_gap_6 : decode cX7_gap 6 = .ok (.ifCond .eq 19, 3) := by decide +kernel
theorem dX7_gap_9 : decode cX7_gap 9 = .ok (.aload_n 0, 1) := by decide +kernel
theorem dX7_gap_10 : decode cX7_gap 10 = .ok (.iload_n 1, 1) := by decide +kernel
theorem dX7_gap_11 : decode cX7_gap 11 = .ok (.invokevirtual 65, 3) := by decide +kernel
theorem dX7_gap_14 : decode cX7_gap 14 = .ok (.aload_n 0, 1) := by decide +kernel
theorem dX7_gap_15 : decode cX7_gap 15 = .ok (.iload_n 2, 1) := by decide +kernel
theorem dX7_gap_16 : decode cX7_gap 16 = .ok (.invokevirtual 65, 3) := by decide +kernel
theorem dX7_gap_19 : decode cX7_gap 19 = .ok (.invokestatic 68, 3) := by decide +kernel
theorem dX7_gap_22 : decode cX7_gap 22 = .ok (.goto 4, 3) := by decide +kernel
theorem dX7_gap_25 : decode cX7_gap 25 = .ok (.iconst (-1), 1) := by decide +kernel
theorem dX7_gap_26 : decode cX7_gap 26 = .ok (.ireturn, 1) := by decide +kernel
theorem dX7_sumOf_0 : decode cX7_sumOf 0 = .ok (.iconst 0, 1) := by decide +kernel
theorem dX7_sumOf_1 : decode cX7_sumOf 1 = .ok (.istore_n 2, 1) := by decide +kernel
theorem dX7_sumOf_2 : decode cX7_sumOf 2 = .ok (.iconst 0, 1) := by decide +kernel
theorem dX7_sumOf_3 : decode cX7_sumOf 3 = .ok (.istore_n 3, 1) := by decide +kernel
theorem dX7_sumOf_4 : decode cX7_sumOf 4 = .ok (.iload_n 3, 1) := by decide +kernel
theorem dX7_sumOf_5 : decode cX7_sumOf 5 = .ok (.aload_n 0, 1) := by decide +kernel
theorem dX7_sumOf_6 : decode cX7_sumOf 6 = .ok (.getfield 7, 3) := by decide +kernel
theorem dX7_sumOf_9 : decode cX7_sumOf 9 = .ok (.iconst 0, 1) := by decide +kernel
theorem dX7_sumOf_10 : decode cX7_sumOf 10 = .ok (.iaload, 1) := by decide +kernel
theorem dX7_sumOf_11 : decode cX7_sumOf 11 = .ok (.if_icmp .ge 18, 3) := by decide +kernel
theorem dX7_sumOf_14 : decode cX7_sumOf 14 = .ok (.iload_n 2, 1) := by decide +kernel
