theorem dX7_sumOf_15 : decode cX7_sumOf 15 = .ok (.aload_n 0, 1) := by decide +kernel
theorem dX7_sumOf_16 : decode cX7_sumOf 16 = .ok (.iload_n 3, 1) := by decide +kernel
theorem dX7_sumOf_17 : decode cX7_sumOf 17 = .ok (.iload_n 1, 1) := by decide +kernel
theorem dX7_sumOf_18 : decode cX7_sumOf 18 = .ok (.invokevirtual 57, 3) := by decide +kernel
theorem dX7_sumOf_21 : decode cX7_sumOf 21 = .ok (.iadd, 1) := by decide +kernel
theorem dX7_sumOf_22 : decode cX7_sumOf 22 = .ok (.istore_n 2, 1) := by decide +kernel
theorem dX7_sumOf_23 : decode cX7_sumOf 23 = .ok (.iinc 3 1, 3) := by decide +kernel
theorem dX7_sumOf_26 : decode cX7_sumOf 26 = .ok (.goto (-22), 3) := by decide +kernel
theorem dX7_sumOf_29 : decode cX7_sumOf 29 = .ok (.iload_n 2, 1) := by decide +kernel
theorem dX7_sumOf_30 : decode cX7_sumOf 30 = .ok (.ireturn, 1) := by decide +kernel
theorem dX7_count_0 : decode cX7_count 0 = .ok (.iload_n 1, 1) := by decide +kernel
theorem dX7_count_1 : decode cX7_count 1 = .ok (.tableswitch 77 0 6 #[43, 43, 50, 55, 60, 66, 72], 43) := by decide +kernel
theorem dX7_count_44 : decode cX7_count 44 = .ok (.aload_n 0, 1) := by decide +kernel
theorem dX7_count_45 : decode cX7_count 45 = .ok (.getfield 7, 3) := by decide +kernel
theorem dX7_count_48 : decode cX7_count 48 = .ok (.iload_n 1, 1) := by decide +kernel
theorem dX7_count_49 : decode cX7_count 49 = .ok (.iaload, 1) := by decide +kernel
theorem dX7_count_50 : decode cX7_count 50 = .ok (.ireturn, 1) := by decide +kernel
theorem dX7_count_51 : decode cX7_count 51 = .ok (.aload_n 0, 1) := by decide +kernel
theorem dX7_count_52 : decode cX7_count 52 = .ok (.invokevirtual 114, 3) := by decide +kernel
theorem dX7_count_55 : decode cX7_count 55 = .ok (.ireturn, 1) := by decide +kernel
theorem dX7_count_56 : decode cX7_count 56 = .ok (.aload_n 0, 1) := by decide +kernel
theorem dX7_count_57 : decode cX7_count 57 = .ok (.invokevirtual 118, 3) := by decide +kernel
theorem dX7_count_60 : decode cX7_count 60 = .ok (.ireturn, 1) := by decide +kernel
theorem dX7_count_61 : decode cX7_count 61 = .ok (.aload_n 0, 1) := by decide +kernel
theorem dX7_count_62 : decode cX7_count 62 = .ok (.iconst 1, 1) := by decide +kernel
theorem dX7_count_63 : decode cX7_count 63 = .ok (.invokevirtual 121, 3) := by decide +kernel
theorem dX7_count_66 : decode cX7_count 66 = .ok (.ireturn, 1) := by decide +kernel
theorem dX7_count_67 : decode cX7_count 67 = .ok (.aload_n 0, 1) := by decide +kernel
theorem dX7_count_68 : decode cX7_count 68 = .ok (.iconst 3, 1) := by decide +kernel
theorem dX7_count_69 : decode cX7_count 69 = .ok (.invokevirtual 121, 3) := by decide +kernel
theorem dX7_count_72 : decode cX7_count 72 = .ok (.ireturn, 1) := by decide +kernel
theorem dX7_count_73 : decode cX7_count 73 = .ok (.aload_n 0, 1) := by decide +kernel
theorem dX7_count_74 : decode cX7_count 74 = .ok (.getfield 91, 3) := by decide +kernel
theorem dX7_count_77 : decode cX7_count 77 = .ok (.ireturn, 1) := by decide +kernel
theorem dX7_count_78 : decode cX7_count 78 = .ok (.iconst (-1), 1) := by decide +kernel
theorem dX7_count_79 : decode cX7_count 79 = .ok (.ireturn, 1) := by decide +kernel
theorem dX7_type_0 : decode cX7_type 0 = .ok (.iload_n 1, 1) := by decide +kernel
theorem dX7_type_1 : decode cX7_type 1 = .ok (.i2l, 1) := by decide +kernel
theorem dX7_type_2 : decode cX7_type 2 = .ok (.ldc2_w 124, 3) := by decide +kernel
theorem dX7_type_5 : decode cX7_type 5 = .ok (.ldc2_w 126, 3) := by decide +kernel
theorem dX7_type_8 : decode cX7_type 8 = .ok (.invokestatic 53, 3) := by decide +kernel
theorem dX7_type_11 : decode cX7_type 11 = .ok (.ifCond .ne 5, 3) := by decide +kernel
theorem dX7_type_14 : decode cX7_type 14 = .ok (.iconst (-1), 1) := by decide +kernel
theorem dX7_type_15 : decode cX7_type 15 = .ok (.ireturn, 1) := by decide +kernel
theorem dX7_type_16 : decode cX7_type 16 = .ok (.aload_n 0, 1) := by decide +kernel
theorem dX7_type_17 : decode cX7_type 17 = .ok (.getfield 128, 3) := by decide +kernel
theorem dX7_type_20 : decode cX7_type 20 = .ok (.bipush 60, 2) := by decide +kernel
theorem dX7_type_22 : decode cX7_type 22 = .ok (.if_icmp .ne 6, 3) := by decide +kernel
theorem dX7_type_25 : decode cX7_type 25 = .ok (.bipush (-3), 2) := by decide +kernel
theorem dX7_type_27 : decode cX7_type 27 = .ok (.ireturn, 1) := by decide +kernel
theorem dX7_type_28 : decode cX7_type 28 = .ok (.aload_n 0, 1) := by decide +kernel
theorem dX7_type_29 : decode cX7_type 29 = .ok (.getfield 16, 3) := by decide +kernel
theorem dX7_type_32 : decode cX7_type 32 = .ok (.aload_n 0, 1) := by decide +kernel
theorem dX7_type_33 : decode cX7_type 33 = .ok (.getfield 128, 3) := by decide +kernel
theorem dX7_type_36 : decode cX7_type 36 = .ok (.iload_n 1, 1) := by decide +kernel
theorem dX7_type_37 : decode cX7_type 37 = .ok (.iastore, 1) := by decide +kernel
theorem dX7_type_38 : decode cX7_type 38 = .ok (.aload_n 0, 1) := by decide +kernel
theorem dX7_type_39 : decode cX7_type 39 = .ok (.dup, 1) := by decide +kernel
theorem dX7_type_40 : decode cX7_type 40 = .ok (.getfield 128, 3) := by decide +kernel
theorem dX7_type_43 : decode cX7_type 43 = .ok (.iconst 1, 1) := by decide +kernel
theorem dX7_type_44 : decode cX7_type 44 = .ok (.iadd, 1) := by decide +kernel
theorem dX7_type_45 : decode cX7_type 45 = .ok (.putfield 128, 3) := by decide +kernel
theorem dX7_type_48 : decode cX7_type 48 = .ok (.aload_n 0, 1) := by decide +kernel
theorem dX7_type_49 : decode cX7_type 49 = .ok (.getfield 128, 3) := by decide +kernel
theorem dX7_type_52 : decode cX7_type 52 = .ok (.ireturn, 1) := by decide +kernel
theorem dX7_here_0 : decode cX7_here 0 = .ok (.aload_n 0, 1) := by decide +kernel
theorem dX7_here_1 : decode cX7_here 1 = .ok (.getfield 131, 3) := by decide +kernel
theorem dX7_here_4 : decode cX7_here 4 = .ok (.aload_n 0, 1) := by decide +kernel
theorem dX7_here_5 : decode cX7_here 5 = .ok (.getfield 128, 3) := by decide +kernel
theorem dX7_here_8 : decode cX7_here 8 = .ok (.if_icmp .ge 30, 3) := by decide +kernel
theorem dX7_here_11 : decode cX7_here 11 = .ok (.aload_n 0, 1) := by decide +kernel
theorem dX7_here_12 : decode cX7_here 12 = .ok (.getfield 16, 3) := by decide +kernel
theorem dX7_here_15 : decode cX7_here 15 = .ok (.aload_n 0, 1) := by decide +kernel
theorem dX7_here_16 : decode cX7_here 16 = .ok (.getfield 131, 3) := by decide +kernel
theorem dX7_here_19 : decode cX7_here 19 = .ok (.iaload, 1) := by decide +kernel
theorem dX7_here_20 : decode cX7_here 20 = .ok (.bipush 32, 2) := by decide +kernel
theorem dX7_here_22 : decode cX7_here 22 = .ok (.if_icmp .ne 16, 3) := by decide +kernel
theorem dX7_here_25 : decode cX7_here 25 = .ok (.aload_n 0, 1) := by decide +kernel
theorem dX7_here_26 : decode cX7_here 26 = .ok (.dup, 1) := by decide +kernel
theorem dX7_here_27 : decode cX7_here 27 = .ok (.getfield 131, 3) := by decide +kernel
theorem dX7_here_30 : decode cX7_here 30 = .ok (.iconst 1, 1) := by decide +kernel
theorem dX7_here_31 : decode cX7_here 31 = .ok (.iadd, 1) := by decide +kernel
theorem dX7_here_32 : decode cX7_here 32 = .ok (.putfield 131, 3) := by decide +kernel
theorem dX7_here_35 : decode cX7_here 35 = .ok (.goto (-35), 3) := by decide +kernel
theorem dX7_here_38 : decode cX7_here 38 = .ok (.aload_n 0, 1) := by decide +kernel
theorem dX7_here_39 : decode cX7_here 39 = .ok (.getfield 131, 3) := by decide +kernel
theorem dX7_here_42 : decode cX7_here 42 = .ok (.aload_n 0, 1) := by decide +kernel
theorem dX7_here_43 : decode cX7_here 43 = .ok (.getfield 128, 3) := by decide +kernel
theorem dX7_here_46 : decode cX7_here 46 = .ok (.if_icmp .ge 15, 3) := by decide +kernel
theorem dX7_here_49 : decode cX7_here 49 = .ok (.aload_n 0, 1) := by decide +kernel
theorem dX7_here_50 : decode cX7_here 50 = .ok (.getfield 16, 3) := by decide +kernel
theorem dX7_here_53 : decode cX7_here 53 = .ok (.aload_n 0, 1) := by decide +kernel
theorem dX7_here_54 : decode cX7_here 54 = .ok (.getfield 131, 3) := by decide +kernel
theorem dX7_here_57 : decode cX7_here 57 = .ok (.iaload, 1) := by decide +kernel
theorem dX7_here_58 : decode cX7_here 58 = .ok (.goto 4, 3) := by decide +kernel
theorem dX7_here_61 : decode cX7_here 61 = .ok (.iconst 0, 1) := by decide +kernel
theorem dX7_here_62 : decode cX7_here 62 = .ok (.ireturn, 1) := by decide +kernel
theorem dX7_must_0 : decode cX7_must 0 = .ok (.aload_n 0, 1) := by decide +kernel
theorem dX7_must_1 : decode cX7_must 1 = .ok (.aload_n 0, 1) := by decide +kernel
theorem dX7_must_2 : decode cX7_must 2 = .ok (.getfield 134, 3) := by decide +kernel
theorem dX7_must_5 : decode cX7_must 5 = .ok (.ifCond .ne 7, 3) := by decide +kernel
theorem dX7_must_8 : decode cX7_must 8 = .ok (.iload_n 1, 1) := by decide +kernel
theorem dX7_must_9 : decode cX7_must 9 = .ok (.ifCond .ne 7, 3) := by decide +kernel
theorem dX7_must_12 : decode cX7_must 12 = .ok (.iconst 1, 1) := by decide +kernel
theorem dX7_must_13 : decode cX7_must 13 = .ok (.goto 4, 3) := by decide +kernel
theorem dX7_must_16 : decode cX7_must 16 = .ok (.iconst 0, 1) := by decide +kernel
theorem dX7_must_17 : decode cX7_must 17 = .ok (.putfield 134, 3) := by decide +kernel
theorem dX7_must_20 : decode cX7_must 20 = .ok (.aload_n 0, 1) := by decide +kernel
theorem dX7_must_21 : decode cX7_must 21 = .ok (.dup, 1) := by decide +kernel
theorem dX7_must_22 : decode cX7_must 22 = .ok (.getfield 131, 3) := by decide +kernel
theorem dX7_must_25 : decode cX7_must 25 = .ok (.aload_n 0, 1) := by decide +kernel
theorem dX7_must_26 : decode cX7_must 26 = .ok (.getfield 134, 3) := by decide +kernel
theorem dX7_must_29 : decode cX7_must 29 = .ok (.ifCond .eq 7, 3) := by decide +kernel
theorem dX7_must_32 : decode cX7_must 32 = .ok (.iconst 0, 1) := by decide +kernel
theorem dX7_must_33 : decode cX7_must 33 = .ok (.goto 4, 3) := by decide +kernel
theorem dX7_must_36 : decode cX7_must 36 = .ok (.iconst 1, 1) := by decide +kernel
theorem dX7_must_37 : decode cX7_must 37 = .ok (.iadd, 1) := by decide +kernel
theorem dX7_must_38 : decode cX7_must 38 = .ok (.putfield 131, 3) := by decide +kernel
theorem dX7_must_41 : decode cX7_must 41 = .ok (.return_, 1) := by decide +kernel
theorem dX7_number_0 : decode cX7_number 0 = .ok (.aload_n 0, 1) := by decide +kernel
theorem dX7_number_1 : decode cX7_number 1 = .ok (.getfield 134, 3) := by decide +kernel
theorem dX7_number_4 : decode cX7_number 4 = .ok (.ifCond .eq 7, 3) := by decide +kernel
theorem dX7_number_7 : decode cX7_number 7 = .ok (.iconst 0, 1) := by decide +kernel
theorem dX7_number_8 : decode cX7_number 8 = .ok (.goto 7, 3) := by decide +kernel
theorem dX7_number_11 : decode cX7_number 11 = .ok (.aload_n 0, 1) := by decide +kernel
theorem dX7_number_12 : decode cX7_number 12 = .ok (.invokevirtual 138, 3) := by decide +kernel
theorem dX7_number_15 : decode cX7_number 15 = .ok (.istore_n 2, 1) := by decide +kernel
theorem dX7_number_16 : decode cX7_number 16 = .ok (.aload_n 0, 1) := by decide +kernel
theorem dX7_number_17 : decode cX7_number 17 = .ok (.getfield 131, 3) := by decide +kernel
theorem dX7_number_20 : decode cX7_number 20 = .ok (.istore_n 3, 1) := by decide +kernel
theorem dX7_number_21 : decode cX7_number 21 = .ok (.iconst 0, 1) := by decide +kernel
theorem dX7_number_22 : decode cX7_number 22 = .ok (.istore 4, 2) := by decide +kernel
theorem dX7_number_24 : decode cX7_number 24 = .ok (.aload_n 0, 1) := by decide +kernel
theorem dX7_number_25 : decode cX7_number 25 = .ok (.aload_n 0, 1) := by decide +kernel
theorem dX7_number_26 : decode cX7_number 26 = .ok (.getfield 134, 3) := by decide +kernel
theorem dX7_number_29 : decode cX7_number 29 = .ok (.ifCond .ne 17, 3) := by decide +kernel
theorem dX7_number_32 : decode cX7_number 32 = .ok (.iload_n 2, 1) := by decide +kernel
theorem dX7_number_33 : decode cX7_number 33 = .ok (.i2l, 1) := by decide +kernel
theorem dX7_number_34 : decode cX7_number 34 = .ok (.ldc2_w 141, 3) := by decide +kernel
theorem dX7_number_37 : decode cX7_number 37 = .ok (.ldc2_w 143, 3) := by decide +kernel
theorem dX7_number_40 : decode cX7_number 40 = .ok (.invokestatic 53, 3) := by decide +kernel
theorem dX7_number_43 : decode cX7_number 43 = .ok (.ifCond .ne 7, 3) := by decide +kernel
theorem dX7_number_46 : decode cX7_number 46 = .ok (.iconst 1, 1) := by decide +kernel
theorem dX7_number_47 : decode cX7_number 47 = .ok (.goto 4, 3) := by decide +kernel
theorem dX7_number_50 : decode cX7_number 50 = .ok (.iconst 0, 1) := by decide +kernel
theorem dX7_number_51 : decode cX7_number 51 = .ok (.putfield 134, 3) := by decide +kernel
theorem dX7_number_54 : decode cX7_number 54 = .ok (.aload_n 0, 1) := by decide +kernel
theorem dX7_number_55 : decode cX7_number 55 = .ok (.getfield 134, 3) := by decide +kernel
theorem dX7_number_58 : decode cX7_number 58 = .ok (.ifCond .ne 79, 3) := by decide +kernel
theorem dX7_number_61 : decode cX7_number 61 = .ok (.aload_n 0, 1) := by decide +kernel
theorem dX7_number_62 : decode cX7_number 62 = .ok (.getfield 131, 3) := by decide +kernel
theorem dX7_number_65 : decode cX7_number 65 = .ok (.aload_n 0, 1) := by decide +kernel
theorem dX7_number_66 : decode cX7_number 66 = .ok (.getfield 128, 3) := by decide +kernel
theorem dX7_number_69 : decode cX7_number 69 = .ok (.if_icmp .ge 68, 3) := by decide +kernel
theorem dX7_number_72 : decode cX7_number 72 = .ok (.aload_n 0, 1) := by decide +kernel
theorem dX7_number_73 : decode cX7_number 73 = .ok (.getfield 131, 3) := by decide +kernel
theorem dX7_number_76 : decode cX7_number 76 = .ok (.iload_n 3, 1) := by decide +kernel
theorem dX7_number_77 : decode cX7_number 77 = .ok (.isub, 1) := by decide +kernel
theorem dX7_number_78 : decode cX7_number 78 = .ok (.iconst 2, 1) := by decide +kernel
theorem dX7_number_79 : decode cX7_number 79 = .ok (.if_icmp .ge 58, 3) := by decide +kernel
theorem dX7_number_82 : decode cX7_number 82 = .ok (.aload_n 0, 1) := by decide +kernel
theorem dX7_number_83 : decode cX7_number 83 = .ok (.getfield 16, 3) := by decide +kernel
theorem dX7_number_86 : decode cX7_number 86 = .ok (.aload_n 0, 1) := by decide +kernel
theorem dX7_number_87 : decode cX7_number 87 = .ok (.getfield 131, 3) := by decide +kernel
theorem dX7_number_90 : decode cX7_number 90 = .ok (.iaload, 1) := by decide +kernel
theorem dX7_number_91 : decode cX7_number 91 = .ok (.i2l, 1) := by decide +kernel
theorem dX7_number_92 : decode cX7_number 92 = .ok (.ldc2_w 141, 3) := by decide +kernel
theorem dX7_number_95 : decode cX7_number 95 = .ok (.ldc2_w 143, 3) := by decide +kernel
theorem dX7_number_98 : decode cX7_number 98 = .ok (.invokestatic 53, 3) := by decide +kernel
theorem dX7_number_101 : decode cX7_number 101 = .ok (.ifCond .eq 36, 3) := by decide +kernel
theorem dX7_number_104 : decode cX7_number 104 = .ok (.bipush 10, 2) := by decide +kernel
theorem dX7_number_106 : decode cX7_number 106 = .ok (.iload 4, 2) := by decide +kernel
theorem dX7_number_108 : decode cX7_number 108 = .ok (.imul, 1) := by decide +kernel
theorem dX7_number_109 : decode cX7_number 109 = .ok (.aload_n 0, 1) := by decide +kernel
theorem dX7_number_110 : decode cX7_number 110 = .ok (.getfield 16, 3) := by decide +kernel
theorem dX7_number_113 : decode cX7_number 113 = .ok (.aload_n 0, 1) := by decide +kernel
theorem dX7_number_114 : decode cX7_number 114 = .ok (.getfield 131, 3) := by decide +kernel
theorem dX7_number_117 : decode cX7_number 117 = .ok (.iaload, 1) := by decide +kernel
theorem dX7_number_118 : decode cX7_number 118 = .ok (.iadd, 1) := by decide +kernel
theorem dX7_number_119 : decode cX7_number 119 = .ok (.bipush 48, 2) := by decide +kernel
theorem dX7_number_121 : decode cX7_number 121 = .ok (.isub, 1) := by decide +kernel
theorem dX7_number_122 : decode cX7_number 122 = .ok (.istore 4, 2) := by decide +kernel
theorem dX7_number_124 : decode cX7_number 124 = .ok (.aload_n 0, 1) := by decide +kernel
theorem dX7_number_125 : decode cX7_number 125 = .ok (.dup, 1) := by decide +kernel
theorem dX7_number_126 : decode cX7_number 126 = .ok (.getfield 131, 3) := by decide +kernel
theorem dX7_number_129 : decode cX7_number 129 = .ok (.iconst 1, 1) := by decide +kernel
theorem dX7_number_130 : decode cX7_number 130 = .ok (.iadd, 1) := by decide +kernel
theorem dX7_number_131 : decode cX7_number 131 = .ok (.putfield 131, 3) := by decide +kernel
theorem dX7_number_134 : decode cX7_number 134 = .ok (.goto (-80), 3) := by decide +kernel
theorem dX7_number_137 : decode cX7_number 137 = .ok (.aload_n 0, 1) := by decide +kernel
theorem dX7_number_138 : decode cX7_number 138 = .ok (.getfield 134, 3) := by decide +kernel
theorem dX7_number_141 : decode cX7_number 141 = .ok (.ifCond .ne 19, 3) := by decide +kernel
theorem dX7_number_144 : decode cX7_number 144 = .ok (.iload 4, 2) := by decide +kernel
theorem dX7_number_146 : decode cX7_number 146 = .ok (.iload_n 1, 1) := by decide +kernel
theorem dX7_number_147 : decode cX7_number 147 = .ok (.if_icmp .le 13, 3) := by decide +kernel
theorem dX7_number_150 : decode cX7_number 150 = .ok (.aload_n 0, 1) := by decide +kernel
theorem dX7_number_151 : decode cX7_number 151 = .ok (.iconst 1, 1) := by decide +kernel
theorem dX7_number_152 : decode cX7_number 152 = .ok (.putfield 134, 3) := by decide +kernel
theorem dX7_number_155 : decode cX7_number 155 = .ok (.aload_n 0, 1) := by decide +kernel
theorem dX7_number_156 : decode cX7_number 156 = .ok (.iload_n 3, 1) := by decide +kernel
theorem dX7_number_157 : decode cX7_number 157 = .ok (.putfield 131, 3) := by decide +kernel
theorem dX7_number_160 : decode cX7_number 160 = .ok (.iload 4, 2) := by decide +kernel
theorem dX7_number_162 : decode cX7_number 162 = .ok (.ireturn, 1) := by decide +kernel
theorem dX7_villagesRead_0 : decode cX7_villagesRead 0 = .ok (.iconst 0, 1) := by decide +kernel
theorem dX7_villagesRead_1 : decode cX7_villagesRead 1 = .ok (.istore_n 1, 1) := by decide +kernel
theorem dX7_villagesRead_2 : decode cX7_villagesRead 2 = .ok (.aload_n 0, 1) := by decide +kernel
theorem dX7_villagesRead_3 : decode cX7_villagesRead 3 = .ok (.getfield 134, 3) := by decide +kernel
theorem dX7_villagesRead_6 : decode cX7_villagesRead 6 = .ok (.ifCond .ne 306, 3) := by decide +kernel
theorem dX7_villagesRead_9 : decode cX7_villagesRead 9 = .ok (.iload_n 1, 1) := by decide +kernel
theorem dX7_villagesRead_10 : decode cX7_villagesRead 10 = .ok (.ifCond .eq 12, 3) := by decide +kernel
theorem dX7_villagesRead_13 : decode cX7_villagesRead 13 = .ok (.aload_n 0, 1) := by decide +kernel
theorem dX7_villagesRead_14 : decode cX7_villagesRead 14 = .ok (.invokevirtual 138, 3) := by decide +kernel
theorem dX7_villagesRead_17 : decode cX7_villagesRead 17 = .ok (.bipush 44, 2) := by decide +kernel
theorem dX7_villagesRead_19 : decode cX7_villagesRead 19 = .ok (.if_icmp .ne 293, 3) := by decide +kernel
theorem dX7_villagesRead_22 : decode cX7_villagesRead 22 = .ok (.iload_n 1, 1) := by decide +kernel
theorem dX7_villagesRead_23 : decode cX7_villagesRead 23 = .ok (.ifCond .le 18, 3) := by decide +kernel
theorem dX7_villagesRead_26 : decode cX7_villagesRead 26 = .ok (.aload_n 0, 1) := by decide +kernel
theorem dX7_villagesRead_27 : decode cX7_villagesRead 27 = .ok (.iload_n 1, 1) := by decide +kernel
theorem dX7_villagesRead_28 : decode cX7_villagesRead 28 = .ok (.bipush 6, 2) := by decide +kernel
theorem dX7_villagesRead_30 : decode cX7_villagesRead 30 = .ok (.if_icmp .ge 7, 3) := by decide +kernel
theorem dX7_villagesRead_33 : decode cX7_villagesRead 33 = .ok (.iconst 1, 1) := by decide +kernel
theorem dX7_villagesRead_34 : decode cX7_villagesRead 34 = .ok (.goto 4, 3) := by decide +kernel
theorem dX7_villagesRead_37 : decode cX7_villagesRead 37 = .ok (.iconst 0, 1) := by decide +kernel
theorem dX7_villagesRead_38 : decode cX7_villagesRead 38 = .ok (.invokevirtual 145, 3) := by decide +kernel
theorem dX7_villagesRead_41 : decode cX7_villagesRead 41 = .ok (.aload_n 0, 1) := by decide +kernel
theorem dX7_villagesRead_42 : decode cX7_villagesRead 42 = .ok (.getfield 134, 3) := by decide +kernel
theorem dX7_villagesRead_45 : decode cX7_villagesRead 45 = .ok (.ifCond .eq 7, 3) := by decide +kernel
theorem dX7_villagesRead_48 : decode cX7_villagesRead 48 = .ok (.iconst 0, 1) := by decide +kernel
theorem dX7_villagesRead_49 : decode cX7_villagesRead 49 = .ok (.goto 7, 3) := by decide +kernel
theorem dX7_villagesRead_52 : decode cX7_villagesRead 52 = .ok (.aload_n 0, 1) := by decide +kernel
theorem dX7_villagesRead_53 : decode cX7_villagesRead 53 = .ok (.invokevirtual 138, 3) := by decide +kernel
theorem dX7_villagesRead_56 : decode cX7_villagesRead 56 = .ok (.istore_n 2, 1) := by decide +kernel
theorem dX7_villagesRead_57 : decode cX7_villagesRead 57 = .ok (.iload_n 2, 1) := by decide +kernel
theorem dX7_villagesRead_58 : decode cX7_villagesRead 58 = .ok (.bipush 112, 2) := by decide +kernel
theorem dX7_villagesRead_60 : decode cX7_villagesRead 60 = .ok (.if_icmp .ne 7, 3) := by decide +kernel
theorem dX7_villagesRead_63 : decode cX7_villagesRead 63 = .ok (.iconst 0, 1) := by decide +kernel
theorem dX7_villagesRead_64 : decode cX7_villagesRead 64 = .ok (.goto 44, 3) := by decide +kernel
theorem dX7_villagesRead_67 : decode cX7_villagesRead 67 = .ok (.iload_n 2, 1) := by decide +kernel
theorem dX7_villagesRead_68 : decode cX7_villagesRead 68 = .ok (.bipush 115, 2) := by decide +kernel
theorem dX7_villagesRead_70 : decode cX7_villagesRead 70 = .ok (.if_icmp .ne 7, 3) := by decide +kernel
theorem dX7_villagesRead_73 : decode cX7_villagesRead 73 = .ok (.iconst 1, 1) := by decide +kernel
theorem dX7_villagesRead_74 : decode cX7_villagesRead 74 = .ok (.goto 34, 3) := by decide +kernel
theorem dX7_villagesRead_77 : decode cX7_villagesRead 77 = .ok (.iload_n 2, 1) := by decide +kernel
theorem dX7_villagesRead_78 : decode cX7_villagesRead 78 = .ok (.bipush 104, 2) := by decide +kernel
theorem dX7_villagesRead_80 : decode cX7_villagesRead 80 = .ok (.if_icmp .ne 7, 3) := by decide +kernel
theorem dX7_villagesRead_83 : decode cX7_villagesRead 83 = .ok (.iconst 2, 1) := by decide +kernel
theorem dX7_villagesRead_84 : decode cX7_villagesRead 84 = .ok (.goto 24, 3) := by decide +kernel
theorem dX7_villagesRead_87 : decode cX7_villagesRead 87 = .ok (.iload_n 2, 1) := by decide +kernel
theorem dX7_villagesRead_88 : decode cX7_villagesRead 88 = .ok (.bipush 102, 2) := by decide +kernel
theorem dX7_villagesRead_90 : decode cX7_villagesRead 90 = .ok (.if_icmp .ne 7, 3) := by decide +kernel
theorem dX7_villagesRead_93 : decode cX7_villagesRead 93 = .ok (.iconst 3, 1) := by decide +kernel
theorem dX7_villagesRead_94 : decode cX7_villagesRead 94 = .ok (.goto 14, 3) := by decide +kernel
theorem dX7_villagesRead_97 : decode cX7_villagesRead 97 = .ok (.iload_n 2, 1) := by decide +kernel
theorem dX7_villagesRead_98 : decode cX7_villagesRead 98 = .ok (.bipush 99, 2) := by decide +kernel
theorem dX7_villagesRead_100 : decode cX7_villagesRead 100 = .ok (.if_icmp .ne 7, 3) := by decide +kernel
theorem dX7_villagesRead_103 : decode cX7_villagesRead 103 = .ok (.iconst 4, 1) := by decide +kernel
theorem dX7_villagesRead_104 : decode cX7_villagesRead 104 = .ok (.goto 4, 3) := by decide +kernel
theorem dX7_villagesRead_107 : decode cX7_villagesRead 107 = .ok (.iconst (-1), 1) := by decide +kernel
theorem dX7_villagesRead_108 : decode cX7_villagesRead 108 = .ok (.istore_n 3, 1) := by decide +kernel
theorem dX7_villagesRead_109 : decode cX7_villagesRead 109 = .ok (.aload_n 0, 1) := by decide +kernel
theorem dX7_villagesRead_110 : decode cX7_villagesRead 110 = .ok (.iload_n 3, 1) := by decide +kernel
theorem dX7_villagesRead_111 : decode cX7_villagesRead 111 = .ok (.ifCond .lt 7, 3) := by decide +kernel
theorem dX7_villagesRead_114 : decode cX7_villagesRead 114 = .ok (.iconst 1, 1) := by decide +kernel
theorem dX7_villagesRead_115 : decode cX7_villagesRead 115 = .ok (.goto 4, 3) := by decide +kernel
theorem dX7_villagesRead_118 : decode cX7_villagesRead 118 = .ok (.iconst 0, 1) := by decide +kernel
theorem dX7_villagesRead_119 : decode cX7_villagesRead 119 = .ok (.invokevirtual 145, 3) := by decide +kernel
theorem dX7_villagesRead_122 : decode cX7_villagesRead 122 = .ok (.aload_n 0, 1) := by decide +kernel
theorem dX7_villagesRead_123 : decode cX7_villagesRead 123 = .ok (.bipush 59, 2) := by decide +kernel
theorem dX7_villagesRead_125 : decode cX7_villagesRead 125 = .ok (.invokevirtual 149, 3) := by decide +kernel
theorem dX7_villagesRead_128 : decode cX7_villagesRead 128 = .ok (.istore 4, 2) := by decide +kernel
theorem dX7_villagesRead_130 : decode cX7_villagesRead 130 = .ok (.aload_n 0, 1) := by decide +kernel
theorem dX7_villagesRead_131 : decode cX7_villagesRead 131 = .ok (.getfield 134, 3) := by decide +kernel
theorem dX7_villagesRead_134 : decode cX7_villagesRead 134 = .ok (.ifCond .eq 7, 3) := by decide +kernel
theorem dX7_villagesRead_137 : decode cX7_villagesRead 137 = .ok (.iconst 0, 1) := by decide +kernel
theorem dX7_villagesRead_138 : decode cX7_villagesRead 138 = .ok (.goto 7, 3) := by decide +kernel
theorem dX7_villagesRead_141 : decode cX7_villagesRead 141 = .ok (.aload_n 0, 1) := by decide +kernel
theorem dX7_villagesRead_142 : decode cX7_villagesRead 142 = .ok (.invokevirtual 138, 3) := by decide +kernel
theorem dX7_villagesRead_145 : decode cX7_villagesRead 145 = .ok (.istore 5, 2) := by decide +kernel
theorem dX7_villagesRead_147 : decode cX7_villagesRead 147 = .ok (.aload_n 0, 1) := by decide +kernel
theorem dX7_villagesRead_148 : decode cX7_villagesRead 148 = .ok (.iload 5, 2) := by decide +kernel
theorem dX7_villagesRead_150 : decode cX7_villagesRead 150 = .ok (.bipush 43, 2) := by decide +kernel
theorem dX7_villagesRead_152 : decode cX7_villagesRead 152 = .ok (.if_icmp .eq 10, 3) := by decide +kernel
theorem dX7_villagesRead_155 : decode cX7_villagesRead 155 = .ok (.iload 5, 2) := by decide +kernel
theorem dX7_villagesRead_157 : decode cX7_villagesRead 157 = .ok (.bipush 45, 2) := by decide +kernel
theorem dX7_villagesRead_159 : decode cX7_villagesRead 159 = .ok (.if_icmp .ne 7, 3) := by decide +kernel
theorem dX7_villagesRead_162 : decode cX7_villagesRead 162 = .ok (.iconst 1, 1) := by decide +kernel
theorem dX7_villagesRead_163 : decode cX7_villagesRead 163 = .ok (.goto 4, 3) := by decide +kernel
theorem dX7_villagesRead_166 : decode cX7_villagesRead 166 = .ok (.iconst 0, 1) := by decide +kernel
theorem dX7_villagesRead_167 : decode cX7_villagesRead 167 = .ok (.invokevirtual 145, 3) := by decide +kernel
theorem dX7_villagesRead_170 : decode cX7_villagesRead 170 = .ok (.aload_n 0, 1) := by decide +kernel
theorem dX7_villagesRead_171 : decode cX7_villagesRead 171 = .ok (.getfield 134, 3) := by decide +kernel
theorem dX7_villagesRead_174 : decode cX7_villagesRead 174 = .ok (.ifCond .eq 7, 3) := by decide +kernel
theorem dX7_villagesRead_177 : decode cX7_villagesRead 177 = .ok (.iconst (-1), 1) := by decide +kernel
theorem dX7_villagesRead_178 : decode cX7_villagesRead 178 = .ok (.goto 10, 3) := by decide +kernel
theorem dX7_villagesRead_181 : decode cX7_villagesRead 181 = .ok (.aload_n 0, 1) := by decide +kernel
theorem dX7_villagesRead_182 : decode cX7_villagesRead 182 = .ok (.invokevirtual 138, 3) := by decide +kernel
theorem dX7_villagesRead_185 : decode cX7_villagesRead 185 = .ok (.bipush 48, 2) := by decide +kernel
theorem dX7_villagesRead_187 : decode cX7_villagesRead 187 = .ok (.isub, 1) := by decide +kernel
theorem dX7_villagesRead_188 : decode cX7_villagesRead 188 = .ok (.istore 6, 2) := by decide +kernel
theorem dX7_villagesRead_190 : decode cX7_villagesRead 190 = .ok (.aload_n 0, 1) := by decide +kernel
theorem dX7_villagesRead_191 : decode cX7_villagesRead 191 = .ok (.iload 6, 2) := by decide +kernel
theorem dX7_villagesRead_193 : decode cX7_villagesRead 193 = .ok (.i2l, 1) := by decide +kernel
theorem dX7_villagesRead_194 : decode cX7_villagesRead 194 = .ok (.lconst 0, 1) := by decide +kernel
theorem dX7_villagesRead_195 : decode cX7_villagesRead 195 = .ok (.ldc2_w 101, 3) := by decide +kernel
theorem dX7_villagesRead_198 : decode cX7_villagesRead 198 = .ok (.invokestatic 53, 3) := by decide +kernel
theorem dX7_villagesRead_201 : decode cX7_villagesRead 201 = .ok (.invokevirtual 145, 3) := by decide +kernel
theorem dX7_villagesRead_204 : decode cX7_villagesRead 204 = .ok (.iconst 0, 1) := by decide +kernel
theorem dX7_villagesRead_205 : decode cX7_villagesRead 205 = .ok (.istore 7, 2) := by decide +kernel
theorem dX7_villagesRead_207 : decode cX7_villagesRead 207 = .ok (.aload_n 0, 1) := by decide +kernel
theorem dX7_villagesRead_208 : decode cX7_villagesRead 208 = .ok (.getfield 134, 3) := by decide +kernel
theorem dX7_villagesRead_211 : decode cX7_villagesRead 211 = .ok (.ifCond .ne 30, 3) := by decide +kernel
theorem dX7_villagesRead_214 : decode cX7_villagesRead 214 = .ok (.aload_n 0, 1) := by decide +kernel
theorem dX7_villagesRead_215 : decode cX7_villagesRead 215 = .ok (.invokevirtual 138, 3) := by decide +kernel
theorem dX7_villagesRead_218 : decode cX7_villagesRead 218 = .ok (.bipush 64, 2) := by decide +kernel
theorem dX7_villagesRead_220 : decode cX7_villagesRead 220 = .ok (.if_icmp .ne 21, 3) := by decide +kernel
theorem dX7_villagesRead_223 : decode cX7_villagesRead 223 = .ok (.aload_n 0, 1) := by decide +kernel
theorem dX7_villagesRead_224 : decode cX7_villagesRead 224 = .ok (.dup, 1) := by decide +kernel
theorem dX7_villagesRead_225 : decode cX7_villagesRead 225 = .ok (.getfield 131, 3) := by decide +kernel
theorem dX7_villagesRead_228 : decode cX7_villagesRead 228 = .ok (.iconst 1, 1) := by decide +kernel
theorem dX7_villagesRead_229 : decode cX7_villagesRead 229 = .ok (.iadd, 1) := by decide +kernel
theorem dX7_villagesRead_230 : decode cX7_villagesRead 230 = .ok (.putfield 131, 3) := by decide +kernel
theorem dX7_villagesRead_233 : decode cX7_villagesRead 233 = .ok (.aload_n 0, 1) := by decide +kernel
theorem dX7_villagesRead_234 : decode cX7_villagesRead 234 = .ok (.bipush 40, 2) := by decide +kernel
theorem dX7_villagesRead_236 : decode cX7_villagesRead 236 = .ok (.invokevirtual 149, 3) := by decide +kernel
theorem dX7_villagesRead_239 : decode cX7_villagesRead 239 = .ok (.istore 7, 2) := by decide +kernel
theorem dX7_villagesRead_241 : decode cX7_villagesRead 241 = .ok (.aload_n 0, 1) := by decide +kernel
theorem dX7_villagesRead_242 : decode cX7_villagesRead 242 = .ok (.getfield 134, 3) := by decide +kernel
theorem dX7_villagesRead_245 : decode cX7_villagesRead 245 = .ok (.ifCond .ne 61, 3) := by decide +kernel
theorem dX7_villagesRead_248 : decode cX7_villagesRead 248 = .ok (.aload_n 0, 1) := by decide +kernel
theorem dX7_villagesRead_249 : decode cX7_villagesRead 249 = .ok (.getfield 19, 3) := by decide +kernel
theorem dX7_villagesRead_252 : decode cX7_villagesRead 252 = .ok (.iconst 4, 1) := by decide +kernel
theorem dX7_villagesRead_253 : decode cX7_villagesRead 253 = .ok (.iload_n 1, 1) := by decide +kernel
theorem dX7_villagesRead_254 : decode cX7_villagesRead 254 = .ok (.imul, 1) := by decide +kernel
theorem dX7_villagesRead_255 : decode cX7_villagesRead 255 = .ok (.iload_n 3, 1) := by decide +kernel
theorem dX7_villagesRead_256 : decode cX7_villagesRead 256 = .ok (.iastore, 1) := by decide +kernel
theorem dX7_villagesRead_257 : decode cX7_villagesRead 257 = .ok (.aload_n 0, 1) := by decide +kernel
theorem dX7_villagesRead_258 : decode cX7_villagesRead 258 = .ok (.getfield 19, 3) := by decide +kernel
theorem dX7_villagesRead_261 : decode cX7_villagesRead 261 = .ok (.iconst 4, 1) := by decide +kernel
theorem dX7_villagesRead_262 : decode cX7_villagesRead 262 = .ok (.iload_n 1, 1) := by decide +kernel
theorem dX7_villagesRead_263 : decode cX7_villagesRead 263 = .ok (.imul, 1) := by decide +kernel
theorem dX7_villagesRead_264 : decode cX7_villagesRead 264 = .ok (.iconst 1, 1) := by decide +kernel
theorem dX7_villagesRead_265 : decode cX7_villagesRead 265 = .ok (.iadd, 1) := by decide +kernel
theorem dX7_villagesRead_266 : decode cX7_villagesRead 266 = .ok (.iload 4, 2) := by decide +kernel
theorem dX7_villagesRead_268 : decode cX7_villagesRead 268 = .ok (.iastore, 1) := by decide +kernel
theorem dX7_villagesRead_269 : decode cX7_villagesRead 269 = .ok (.aload_n 0, 1) := by decide +kernel
theorem dX7_villagesRead_270 : decode cX7_villagesRead 270 = .ok (.getfield 19, 3) := by decide +kernel
theorem dX7_villagesRead_273 : decode cX7_villagesRead 273 = .ok (.iconst 4, 1) := by decide +kernel
theorem dX7_villagesRead_274 : decode cX7_villagesRead 274 = .ok (.iload_n 1, 1) := by decide +kernel
theorem dX7_villagesRead_275 : decode cX7_villagesRead 275 = .ok (.imul, 1) := by decide +kernel
theorem dX7_villagesRead_276 : decode cX7_villagesRead 276 = .ok (.iconst 2, 1) := by decide +kernel
theorem dX7_villagesRead_277 : decode cX7_villagesRead 277 = .ok (.iadd, 1) := by decide +kernel
theorem dX7_villagesRead_278 : decode cX7_villagesRead 278 = .ok (.iload 5, 2) := by decide +kernel
theorem dX7_villagesRead_280 : decode cX7_villagesRead 280 = .ok (.bipush 43, 2) := by decide +kernel
theorem dX7_villagesRead_282 : decode cX7_villagesRead 282 = .ok (.if_icmp .ne 8, 3) := by decide +kernel
theorem dX7_villagesRead_285 : decode cX7_villagesRead 285 = .ok (.iload 6, 2) := by decide +kernel
theorem dX7_villagesRead_287 : decode cX7_villagesRead 287 = .ok (.goto 6, 3) := by decide +kernel
theorem dX7_villagesRead_290 : decode cX7_villagesRead 290 = .ok (.iload 6, 2) := by decide +kernel
theorem dX7_villagesRead_292 : decode cX7_villagesRead 292 = .ok (.ineg, 1) := by decide +kernel
theorem dX7_villagesRead_293 : decode cX7_villagesRead 293 = .ok (.iastore, 1) := by decide +kernel
theorem dX7_villagesRead_294 : decode cX7_villagesRead 294 = .ok (.aload_n 0, 1) := by decide +kernel
theorem dX7_villagesRead_295 : decode cX7_villagesRead 295 = .ok (.getfield 19, 3) := by decide +kernel
theorem dX7_villagesRead_298 : decode cX7_villagesRead 298 = .ok (.iconst 4, 1) := by decide +kernel
theorem dX7_villagesRead_299 : decode cX7_villagesRead 299 = .ok (.iload_n 1, 1) := by decide +kernel
theorem dX7_villagesRead_300 : decode cX7_villagesRead 300 = .ok (.imul, 1) := by decide +kernel
theorem dX7_villagesRead_301 : decode cX7_villagesRead 301 = .ok (.iconst 3, 1) := by decide +kernel
theorem dX7_villagesRead_302 : decode cX7_villagesRead 302 = .ok (.iadd, 1) := by decide +kernel
theorem dX7_villagesRead_303 : decode cX7_villagesRead 303 = .ok (.iload 7, 2) := by decide +kernel
theorem dX7_villagesRead_305 : decode cX7_villagesRead 305 = .ok (.iastore, 1) := by decide +kernel
theorem dX7_villagesRead_306 : decode cX7_villagesRead 306 = .ok (.iinc 1 1, 3) := by decide +kernel
theorem dX7_villagesRead_309 : decode cX7_villagesRead 309 = .ok (.goto (-307), 3) := by decide +kernel
theorem dX7_villagesRead_312 : decode cX7_villagesRead 312 = .ok (.iload_n 1, 1) := by decide +kernel
theorem dX7_villagesRead_313 : decode cX7_villagesRead 313 = .ok (.ireturn, 1) := by decide +kernel
theorem dX7_valley_0 : decode cX7_valley 0 = .ok (.aload_n 0, 1) := by decide +kernel
theorem dX7_valley_1 : decode cX7_valley 1 = .ok (.iconst 0, 1) := by decide +kernel
theorem dX7_valley_2 : decode cX7_valley 2 = .ok (.putfield 131, 3) := by decide +kernel
theorem dX7_valley_5 : decode cX7_valley 5 = .ok (.aload_n 0, 1) := by decide +kernel
theorem dX7_valley_6 : decode cX7_valley 6 = .ok (.iconst 0, 1) := by decide +kernel
theorem dX7_valley_7 : decode cX7_valley 7 = .ok (.putfield 134, 3) := by decide +kernel
theorem dX7_valley_10 : decode cX7_valley 10 = .ok (.aload_n 0, 1) := by decide +kernel
theorem dX7_valley_11 : decode cX7_valley 11 = .ok (.invokevirtual 152, 3) := by decide +kernel
theorem dX7_valley_14 : decode cX7_valley 14 = .ok (.istore_n 1, 1) := by decide +kernel
theorem dX7_valley_15 : decode cX7_valley 15 = .ok (.aload_n 0, 1) := by decide +kernel
theorem dX7_valley_16 : decode cX7_valley 16 = .ok (.aload_n 0, 1) := by decide +kernel
theorem dX7_valley_17 : decode cX7_valley 17 = .ok (.getfield 134, 3) := by decide +kernel
theorem dX7_valley_20 : decode cX7_valley 20 = .ok (.ifCond .ne 10, 3) := by decide +kernel
theorem dX7_valley_23 : decode cX7_valley 23 = .ok (.aload_n 0, 1) := by decide +kernel
theorem dX7_valley_24 : decode cX7_valley 24 = .ok (.invokevirtual 138, 3) := by decide +kernel
theorem dX7_valley_27 : decode cX7_valley 27 = .ok (.ifCond .eq 7, 3) := by decide +kernel
theorem dX7_valley_30 : decode cX7_valley 30 = .ok (.iconst 1, 1) := by decide +kernel
theorem dX7_valley_31 : decode cX7_valley 31 = .ok (.goto 4, 3) := by decide +kernel
theorem dX7_valley_34 : decode cX7_valley 34 = .ok (.iconst 0, 1) := by decide +kernel
theorem dX7_valley_35 : decode cX7_valley 35 = .ok (.putfield 134, 3) := by decide +kernel
theorem dX7_valley_38 : decode cX7_valley 38 = .ok (.aload_n 0, 1) := by decide +kernel
theorem dX7_valley_39 : decode cX7_valley 39 = .ok (.iconst 0, 1) := by decide +kernel
theorem dX7_valley_40 : decode cX7_valley 40 = .ok (.putfield 128, 3) := by decide +kernel
theorem dX7_valley_43 : decode cX7_valley 43 = .ok (.aload_n 0, 1) := by decide +kernel
theorem dX7_valley_44 : decode cX7_valley 44 = .ok (.getfield 134, 3) := by decide +kernel
theorem dX7_valley_47 : decode cX7_valley 47 = .ok (.ifCond .eq 11, 3) := by decide +kernel
theorem dX7_valley_50 : decode cX7_valley 50 = .ok (.bipush (-20), 2) := by decide +kernel
theorem dX7_valley_52 : decode cX7_valley 52 = .ok (.aload_n 0, 1) := by decide +kernel
theorem dX7_valley_53 : decode cX7_valley 53 = .ok (.getfield 131, 3) := by decide +kernel
theorem dX7_valley_56 : decode cX7_valley 56 = .ok (.isub, 1) := by decide +kernel
theorem dX7_valley_57 : decode cX7_valley 57 = .ok (.ireturn, 1) := by decide +kernel
theorem dX7_valley_58 : decode cX7_valley 58 = .ok (.aload_n 0, 1) := by decide +kernel
theorem dX7_valley_59 : decode cX7_valley 59 = .ok (.getfield 7, 3) := by decide +kernel
theorem dX7_valley_62 : decode cX7_valley 62 = .ok (.iconst 0, 1) := by decide +kernel
theorem dX7_valley_63 : decode cX7_valley 63 = .ok (.iconst 0, 1) := by decide +kernel
theorem dX7_valley_64 : decode cX7_valley 64 = .ok (.iastore, 1) := by decide +kernel
theorem dX7_valley_65 : decode cX7_valley 65 = .ok (.aload_n 0, 1) := by decide +kernel
theorem dX7_valley_66 : decode cX7_valley 66 = .ok (.getfield 7, 3) := by decide +kernel
theorem dX7_valley_69 : decode cX7_valley 69 = .ok (.iconst 1, 1) := by decide +kernel
theorem dX7_valley_70 : decode cX7_valley 70 = .ok (.iconst 0, 1) := by decide +kernel
theorem dX7_valley_71 : decode cX7_valley 71 = .ok (.iastore, 1) := by decide +kernel
theorem dX7_valley_72 : decode cX7_valley 72 = .ok (.iconst 0, 1) := by decide +kernel
theorem dX7_valley_73 : decode cX7_valley 73 = .ok (.istore_n 2, 1) := by decide +kernel
theorem dX7_valley_74 : decode cX7_valley 74 = .ok (.iload_n 2, 1) := by decide +kernel
theorem dX7_valley_75 : decode cX7_valley 75 = .ok (.iload_n 1, 1) := by decide +kernel
theorem dX7_valley_76 : decode cX7_valley 76 = .ok (.if_icmp .ge 51, 3) := by decide +kernel
theorem dX7_valley_79 : decode cX7_valley 79 = .ok (.aload_n 0, 1) := by decide +kernel
theorem dX7_valley_80 : decode cX7_valley 80 = .ok (.aload_n 0, 1) := by decide +kernel
theorem dX7_valley_81 : decode cX7_valley 81 = .ok (.getfield 19, 3) := by decide +kernel
theorem dX7_valley_84 : decode cX7_valley 84 = .ok (.iconst 4, 1) := by decide +kernel
theorem dX7_valley_85 : decode cX7_valley 85 = .ok (.iload_n 2, 1) := by decide +kernel
theorem dX7_valley_86 : decode cX7_valley 86 = .ok (.imul, 1) := by decide +kernel
theorem dX7_valley_87 : decode cX7_valley 87 = .ok (.iaload, 1) := by decide +kernel
theorem dX7_valley_88 : decode cX7_valley 88 = .ok (.aload_n 0, 1) := by decide +kernel
theorem dX7_valley_89 : decode cX7_valley 89 = .ok (.getfield 19, 3) := by decide +kernel
theorem dX7_valley_92 : decode cX7_valley 92 = .ok (.iconst 4, 1) := by decide +kernel
theorem dX7_valley_93 : decode cX7_valley 93 = .ok (.iload_n 2, 1) := by decide +kernel
theorem dX7_valley_94 : decode cX7_valley 94 = .ok (.imul, 1) := by decide +kernel
theorem dX7_valley_95 : decode cX7_valley 95 = .ok (.iconst 1, 1) := by decide +kernel
theorem dX7_valley_96 : decode cX7_valley 96 = .ok (.iadd, 1) := by decide +kernel
theorem dX7_valley_97 : decode cX7_valley 97 = .ok (.iaload, 1) := by decide +kernel
theorem dX7_valley_98 : decode cX7_valley 98 = .ok (.aload_n 0, 1) := by decide +kernel
theorem dX7_valley_99 : decode cX7_valley 99 = .ok (.getfield 19, 3) := by decide +kernel
theorem dX7_valley_102 : decode cX7_valley 102 = .ok (.iconst 4, 1) := by decide +kernel
theorem dX7_valley_103 : decode cX7_valley 103 = .ok (.iload_n 2, 1) := by decide +kernel
theorem dX7_valley_104 : decode cX7_valley 104 = .ok (.imul, 1) := by decide +kernel
theorem dX7_valley_105 : decode cX7_valley 105 = .ok (.iconst 2, 1) := by decide +kernel
theorem dX7_valley_106 : decode cX7_valley 106 = .ok (.iadd, 1) := by decide +kernel
theorem dX7_valley_107 : decode cX7_valley 107 = .ok (.iaload, 1) := by decide +kernel
theorem dX7_valley_108 : decode cX7_valley 108 = .ok (.aload_n 0, 1) := by decide +kernel
theorem dX7_valley_109 : decode cX7_valley 109 = .ok (.getfield 19, 3) := by decide +kernel
theorem dX7_valley_112 : decode cX7_valley 112 = .ok (.iconst 4, 1) := by decide +kernel
theorem dX7_valley_113 : decode cX7_valley 113 = .ok (.iload_n 2, 1) := by decide +kernel
theorem dX7_valley_114 : decode cX7_valley 114 = .ok (.imul, 1) := by decide +kernel
theorem dX7_valley_115 : decode cX7_valley 115 = .ok (.iconst 3, 1) := by decide +kernel
theorem dX7_valley_116 : decode cX7_valley 116 = .ok (.iadd, 1) := by decide +kernel
theorem dX7_valley_117 : decode cX7_valley 117 = .ok (.iaload, 1) := by decide +kernel
theorem dX7_valley_118 : decode cX7_valley 118 = .ok (.invokevirtual 103, 3) := by decide +kernel
theorem dX7_valley_121 : decode cX7_valley 121 = .ok (.iinc 2 1, 3) := by decide +kernel
theorem dX7_valley_124 : decode cX7_valley 124 = .ok (.goto (-50), 3) := by decide +kernel
theorem dX7_valley_127 : decode cX7_valley 127 = .ok (.iload_n 1, 1) := by decide +kernel
theorem dX7_valley_128 : decode cX7_valley 128 = .ok (.ireturn, 1) := by decide +kernel
theorem dX7_notes_0 : decode cX7_notes 0 = .ok (.aload_n 0, 1) := by decide +kernel
theorem dX7_notes_1 : decode cX7_notes 1 = .ok (.getfield 91, 3) := by decide +kernel
theorem dX7_notes_4 : decode cX7_notes 4 = .ok (.bipush 8, 2) := by decide +kernel
theorem dX7_notes_6 : decode cX7_notes 6 = .ok (.if_icmp .ne 40, 3) := by decide +kernel
theorem dX7_notes_9 : decode cX7_notes 9 = .ok (.bipush 27, 2) := by decide +kernel
theorem dX7_notes_11 : decode cX7_notes 11 = .ok (.istore_n 1, 1) := by decide +kernel
theorem dX7_notes_12 : decode cX7_notes 12 = .ok (.iload_n 1, 1) := by decide +kernel
theorem dX7_notes_13 : decode cX7_notes 13 = .ok (.sipush 216, 3) := by decide +kernel
theorem dX7_notes_16 : decode cX7_notes 16 = .ok (.if_icmp .ge 24, 3) := by decide +kernel
theorem dX7_notes_19 : decode cX7_notes 19 = .ok (.aload_n 0, 1) := by decide +kernel
theorem dX7_notes_20 : decode cX7_notes 20 = .ok (.getfield 22, 3) := by decide +kernel
theorem dX7_notes_23 : decode cX7_notes 23 = .ok (.iload_n 1, 1) := by decide +kernel
theorem dX7_notes_24 : decode cX7_notes 24 = .ok (.bipush 27, 2) := by decide +kernel
theorem dX7_notes_26 : decode cX7_notes 26 = .ok (.isub, 1) := by decide +kernel
theorem dX7_notes_27 : decode cX7_notes 27 = .ok (.aload_n 0, 1) := by decide +kernel
theorem dX7_notes_28 : decode cX7_notes 28 = .ok (.getfield 22, 3) := by decide +kernel
theorem dX7_notes_31 : decode cX7_notes 31 = .ok (.iload_n 1, 1) := by decide +kernel
theorem dX7_notes_32 : decode cX7_notes 32 = .ok (.iaload, 1) := by decide +kernel
theorem dX7_notes_33 : decode cX7_notes 33 = .ok (.iastore, 1) := by decide +kernel
theorem dX7_notes_34 : decode cX7_notes 34 = .ok (.iinc 1 1, 3) := by decide +kernel
theorem dX7_notes_37 : decode cX7_notes 37 = .ok (.goto (-25), 3) := by decide +kernel
theorem dX7_notes_40 : decode cX7_notes 40 = .ok (.aload_n 0, 1) := by decide +kernel
theorem dX7_notes_41 : decode cX7_notes 41 = .ok (.bipush 7, 2) := by decide +kernel
theorem dX7_notes_43 : decode cX7_notes 43 = .ok (.putfield 91, 3) := by decide +kernel
theorem dX7_notes_46 : decode cX7_notes 46 = .ok (.iconst 0, 1) := by decide +kernel
theorem dX7_notes_47 : decode cX7_notes 47 = .ok (.istore_n 1, 1) := by decide +kernel
theorem dX7_notes_48 : decode cX7_notes 48 = .ok (.iload_n 1, 1) := by decide +kernel
theorem dX7_notes_49 : decode cX7_notes 49 = .ok (.bipush 27, 2) := by decide +kernel
theorem dX7_notes_51 : decode cX7_notes 51 = .ok (.if_icmp .ge 29, 3) := by decide +kernel
theorem dX7_notes_54 : decode cX7_notes 54 = .ok (.aload_n 0, 1) := by decide +kernel
theorem dX7_notes_55 : decode cX7_notes 55 = .ok (.getfield 22, 3) := by decide +kernel
theorem dX7_notes_58 : decode cX7_notes 58 = .ok (.bipush 27, 2) := by decide +kernel
theorem dX7_notes_60 : decode cX7_notes 60 = .ok (.aload_n 0, 1) := by decide +kernel
theorem dX7_notes_61 : decode cX7_notes 61 = .ok (.getfield 91, 3) := by decide +kernel
theorem dX7_notes_64 : decode cX7_notes 64 = .ok (.imul, 1) := by decide +kernel
theorem dX7_notes_65 : decode cX7_notes 65 = .ok (.iload_n 1, 1) := by decide +kernel
theorem dX7_notes_66 : decode cX7_notes 66 = .ok (.iadd, 1) := by decide +kernel
theorem dX7_notes_67 : decode cX7_notes 67 = .ok (.aload_n 0, 1) := by decide +kernel
theorem dX7_notes_68 : decode cX7_notes 68 = .ok (.getfield 7, 3) := by decide +kernel
theorem dX7_notes_71 : decode cX7_notes 71 = .ok (.iload_n 1, 1) := by decide +kernel
theorem dX7_notes_72 : decode cX7_notes 72 = .ok (.iaload, 1) := by decide +kernel
theorem dX7_notes_73 : decode cX7_notes 73 = .ok (.iastore, 1) := by decide +kernel
theorem dX7_notes_74 : decode cX7_notes 74 = .ok (.iinc 1 1, 3) := by decide +kernel
theorem dX7_notes_77 : decode cX7_notes 77 = .ok (.goto (-29), 3) := by decide +kernel
theorem dX7_notes_80 : decode cX7_notes 80 = .ok (.aload_n 0, 1) := by decide +kernel
theorem dX7_notes_81 : decode cX7_notes 81 = .ok (.dup, 1) := by decide +kernel
theorem dX7_notes_82 : decode cX7_notes 82 = .ok (.getfield 91, 3) := by decide +kernel
theorem dX7_notes_85 : decode cX7_notes 85 = .ok (.iconst 1, 1) := by decide +kernel
theorem dX7_notes_86 : decode cX7_notes 86 = .ok (.iadd, 1) := by decide +kernel
theorem dX7_notes_87 : decode cX7_notes 87 = .ok (.putfield 91, 3) := by decide +kernel
theorem dX7_notes_90 : decode cX7_notes 90 = .ok (.return_, 1) := by decide +kernel
theorem dX7_days_0 : decode cX7_days 0 = .ok (.iload_n 1, 1) := by decide +kernel
theorem dX7_days_1 : decode cX7_days 1 = .ok (.i2l, 1) := by decide +kernel
theorem dX7_days_2 : decode cX7_days 2 = .ok (.lconst 1, 1) := by decide +kernel
theorem dX7_days_3 : decode cX7_days 3 = .ok (.ldc2_w 155, 3) := by decide +kernel
theorem dX7_days_6 : decode cX7_days 6 = .ok (.invokestatic 53, 3) := by decide +kernel
theorem dX7_days_9 : decode cX7_days 9 = .ok (.ifCond .ne 5, 3) := by decide +kernel
theorem dX7_days_12 : decode cX7_days 12 = .ok (.iconst (-1), 1) := by decide +kernel
theorem dX7_days_13 : decode cX7_days 13 = .ok (.ireturn, 1) := by decide +kernel
theorem dX7_days_14 : decode cX7_days 14 = .ok (.aload_n 0, 1) := by decide +kernel
theorem dX7_days_15 : decode cX7_days 15 = .ok (.getfield 7, 3) := by decide +kernel
theorem dX7_days_18 : decode cX7_days 18 = .ok (.iconst 1, 1) := by decide +kernel
theorem dX7_days_19 : decode cX7_days 19 = .ok (.iaload, 1) := by decide +kernel
theorem dX7_days_20 : decode cX7_days 20 = .ok (.iload_n 1, 1) := by decide +kernel
theorem dX7_days_21 : decode cX7_days 21 = .ok (.iadd, 1) := by decide +kernel
theorem dX7_days_22 : decode cX7_days 22 = .ok (.sipush 9999, 3) := by decide +kernel
theorem dX7_days_25 : decode cX7_days 25 = .ok (.if_icmp .le 6, 3) := by decide +kernel
theorem dX7_days_28 : decode cX7_days 28 = .ok (.bipush (-3), 2) := by decide +kernel
theorem dX7_days_30 : decode cX7_days 30 = .ok (.ireturn, 1) := by decide +kernel
theorem dX7_days_31 : decode cX7_days 31 = .ok (.iconst 0, 1) := by decide +kernel
theorem dX7_days_32 : decode cX7_days 32 = .ok (.istore_n 2, 1) := by decide +kernel
theorem dX7_days_33 : decode cX7_days 33 = .ok (.iload_n 2, 1) := by decide +kernel
theorem dX7_days_34 : decode cX7_days 34 = .ok (.iload_n 1, 1) := by decide +kernel
theorem dX7_days_35 : decode cX7_days 35 = .ok (.if_icmp .ge 17, 3) := by decide +kernel
theorem dX7_days_38 : decode cX7_days 38 = .ok (.aload_n 0, 1) := by decide +kernel
theorem dX7_days_39 : decode cX7_days 39 = .ok (.invokevirtual 157, 3) := by decide +kernel
theorem dX7_days_42 : decode cX7_days 42 = .ok (.aload_n 0, 1) := by decide +kernel
theorem dX7_days_43 : decode cX7_days 43 = .ok (.invokevirtual 85, 3) := by decide +kernel
theorem dX7_days_46 : decode cX7_days 46 = .ok (.iinc 2 1, 3) := by decide +kernel
theorem dX7_days_49 : decode cX7_days 49 = .ok (.goto (-16), 3) := by decide +kernel
theorem dX7_days_52 : decode cX7_days 52 = .ok (.aload_n 0, 1) := by decide +kernel
theorem dX7_days_53 : decode cX7_days 53 = .ok (.invokevirtual 114, 3) := by decide +kernel
theorem dX7_days_56 : decode cX7_days 56 = .ok (.ireturn, 1) := by decide +kernel
theorem dX7_becomes_0 : decode cX7_becomes 0 = .ok (.aload_n 0, 1) := by decide +kernel
theorem dX7_becomes_1 : decode cX7_becomes 1 = .ok (.iload_n 1, 1) := by decide +kernel
theorem dX7_becomes_2 : decode cX7_becomes 2 = .ok (.invokevirtual 107, 3) := by decide +kernel
theorem dX7_becomes_5 : decode cX7_becomes 5 = .ok (.ifCond .eq 17, 3) := by decide +kernel
theorem dX7_becomes_8 : decode cX7_becomes 8 = .ok (.iload_n 3, 1) := by decide +kernel
theorem dX7_becomes_9 : decode cX7_becomes 9 = .ok (.i2l, 1) := by decide +kernel
theorem dX7_becomes_10 : decode cX7_becomes 10 = .ok (.iload 4, 2) := by decide +kernel
theorem dX7_becomes_12 : decode cX7_becomes 12 = .ok (.i2l, 1) := by decide +kernel
theorem dX7_becomes_13 : decode cX7_becomes 13 = .ok (.iload 5, 2) := by decide +kernel
theorem dX7_becomes_15 : decode cX7_becomes 15 = .ok (.i2l, 1) := by decide +kernel
theorem dX7_becomes_16 : decode cX7_becomes 16 = .ok (.invokestatic 53, 3) := by decide +kernel
theorem dX7_becomes_19 : decode cX7_becomes 19 = .ok (.ifCond .ne 5, 3) := by decide +kernel
theorem dX7_becomes_22 : decode cX7_becomes 22 = .ok (.iconst (-1), 1) := by decide +kernel
theorem dX7_becomes_23 : decode cX7_becomes 23 = .ok (.ireturn, 1) := by decide +kernel
theorem dX7_becomes_24 : decode cX7_becomes 24 = .ok (.aload_n 0, 1) := by decide +kernel
theorem dX7_becomes_25 : decode cX7_becomes 25 = .ok (.iload_n 1, 1) := by decide +kernel
theorem dX7_becomes_26 : decode cX7_becomes 26 = .ok (.iload_n 2, 1) := by decide +kernel
theorem dX7_becomes_27 : decode cX7_becomes 27 = .ok (.invokevirtual 57, 3) := by decide +kernel
theorem dX7_becomes_30 : decode cX7_becomes 30 = .ok (.istore 6, 2) := by decide +kernel
theorem dX7_becomes_32 : decode cX7_becomes 32 = .ok (.iload 6, 2) := by decide +kernel
theorem dX7_becomes_34 : decode cX7_becomes 34 = .ok (.iload_n 3, 1) := by decide +kernel
theorem dX7_becomes_35 : decode cX7_becomes 35 = .ok (.if_icmp .ne 6, 3) := by decide +kernel
theorem dX7_becomes_38 : decode cX7_becomes 38 = .ok (.bipush (-2), 2) := by decide +kernel
theorem dX7_becomes_40 : decode cX7_becomes 40 = .ok (.ireturn, 1) := by decide +kernel
theorem dX7_becomes_41 : decode cX7_becomes 41 = .ok (.aload_n 0, 1) := by decide +kernel
theorem dX7_becomes_42 : decode cX7_becomes 42 = .ok (.invokevirtual 157, 3) := by decide +kernel
theorem dX7_becomes_45 : decode cX7_becomes 45 = .ok (.aload_n 0, 1) := by decide +kernel
theorem dX7_becomes_46 : decode cX7_becomes 46 = .ok (.iload_n 1, 1) := by decide +kernel
theorem dX7_becomes_47 : decode cX7_becomes 47 = .ok (.iload_n 2, 1) := by decide +kernel
theorem dX7_becomes_48 : decode cX7_becomes 48 = .ok (.iload_n 3, 1) := by decide +kernel
theorem dX7_becomes_49 : decode cX7_becomes 49 = .ok (.invokevirtual 81, 3) := by decide +kernel
theorem dX7_becomes_52 : decode cX7_becomes 52 = .ok (.iload 6, 2) := by decide +kernel
theorem dX7_becomes_54 : decode cX7_becomes 54 = .ok (.ireturn, 1) := by decide +kernel
theorem dX7_set_0 : decode cX7_set 0 = .ok (.aload_n 0, 1) := by decide +kernel
theorem dX7_set_1 : decode cX7_set 1 = .ok (.iload_n 1, 1) := by decide +kernel
theorem dX7_set_2 : decode cX7_set 2 = .ok (.iconst 1, 1) := by decide +kernel
theorem dX7_set_3 : decode cX7_set 3 = .ok (.iload_n 2, 1) := by decide +kernel
theorem dX7_set_4 : decode cX7_set 4 = .ok (.iconst 0, 1) := by decide +kernel
theorem dX7_set_5 : decode cX7_set 5 = .ok (.bipush 59, 2) := by decide +kernel
theorem dX7_set_7 : decode cX7_set 7 = .ok (.invokevirtual 160, 3) := by decide +kernel
theorem dX7_set_10 : decode cX7_set 10 = .ok (.ireturn, 1) := by decide +kernel
theorem dX7_move_0 : decode cX7_move 0 = .ok (.aload_n 0, 1) := by decide +kernel
theorem dX7_move_1 : decode cX7_move 1 = .ok (.iload_n 1, 1) := by decide +kernel
theorem dX7_move_2 : decode cX7_move 2 = .ok (.iconst 3, 1) := by decide +kernel
theorem dX7_move_3 : decode cX7_move 3 = .ok (.iload_n 2, 1) := by decide +kernel
theorem dX7_move_4 : decode cX7_move 4 = .ok (.iconst 0, 1) := by decide +kernel
theorem dX7_move_5 : decode cX7_move 5 = .ok (.bipush 40, 2) := by decide +kernel
theorem dX7_move_7 : decode cX7_move 7 = .ok (.invokevirtual 160, 3) := by decide +kernel
theorem dX7_move_10 : decode cX7_move 10 = .ok (.ireturn, 1) := by decide +kernel
theorem dX7_tune_0 : decode cX7_tune 0 = .ok (.aload_n 0, 1) := by decide +kernel
theorem dX7_tune_1 : decode cX7_tune 1 = .ok (.iload_n 1, 1) := by decide +kernel
theorem dX7_tune_2 : decode cX7_tune 2 = .ok (.invokevirtual 107, 3) := by decide +kernel
theorem dX7_tune_5 : decode cX7_tune 5 = .ok (.ifCond .eq 15, 3) := by decide +kernel
theorem dX7_tune_8 : decode cX7_tune 8 = .ok (.iload_n 2, 1) := by decide +kernel
theorem dX7_tune_9 : decode cX7_tune 9 = .ok (.i2l, 1) := by decide +kernel
theorem dX7_tune_10 : decode cX7_tune 10 = .ok (.lconst 0, 1) := by decide +kernel
theorem dX7_tune_11 : decode cX7_tune 11 = .ok (.ldc2_w 164, 3) := by decide +kernel
theorem dX7_tune_14 : decode cX7_tune 14 = .ok (.invokestatic 53, 3) := by decide +kernel
theorem dX7_tune_17 : decode cX7_tune 17 = .ok (.ifCond .ne 5, 3) := by decide +kernel
theorem dX7_tune_20 : decode cX7_tune 20 = .ok (.iconst (-1), 1) := by decide +kernel
theorem dX7_tune_21 : decode cX7_tune 21 = .ok (.ireturn, 1) := by decide +kernel
theorem dX7_tune_22 : decode cX7_tune 22 = .ok (.aload_n 0, 1) := by decide +kernel
theorem dX7_tune_23 : decode cX7_tune 23 = .ok (.iload_n 1, 1) := by decide +kernel
theorem dX7_tune_24 : decode cX7_tune 24 = .ok (.iconst 2, 1) := by decide +kernel
theorem dX7_tune_25 : decode cX7_tune 25 = .ok (.invokevirtual 57, 3) := by decide +kernel
theorem dX7_tune_28 : decode cX7_tune 28 = .ok (.bipush 9, 2) := by decide +kernel
theorem dX7_tune_30 : decode cX7_tune 30 = .ok (.iadd, 1) := by decide +kernel
theorem dX7_tune_31 : decode cX7_tune 31 = .ok (.istore_n 3, 1) := by decide +kernel
theorem dX7_tune_32 : decode cX7_tune 32 = .ok (.iload_n 3, 1) := by decide +kernel
theorem dX7_tune_33 : decode cX7_tune 33 = .ok (.iload_n 2, 1) := by decide +kernel
theorem dX7_tune_34 : decode cX7_tune 34 = .ok (.if_icmp .ne 6, 3) := by decide +kernel
theorem dX7_tune_37 : decode cX7_tune 37 = .ok (.bipush (-2), 2) := by decide +kernel
theorem dX7_tune_39 : decode cX7_tune 39 = .ok (.ireturn, 1) := by decide +kernel
theorem dX7_tune_40 : decode cX7_tune 40 = .ok (.aload_n 0, 1) := by decide +kernel
theorem dX7_tune_41 : decode cX7_tune 41 = .ok (.invokevirtual 157, 3) := by decide +kernel
theorem dX7_tune_44 : decode cX7_tune 44 = .ok (.aload_n 0, 1) := by decide +kernel
theorem dX7_tune_45 : decode cX7_tune 45 = .ok (.iload_n 1, 1) := by decide +kernel
theorem dX7_tune_46 : decode cX7_tune 46 = .ok (.iconst 2, 1) := by decide +kernel
theorem dX7_tune_47 : decode cX7_tune 47 = .ok (.iload_n 2, 1) := by decide +kernel
theorem dX7_tune_48 : decode cX7_tune 48 = .ok (.bipush 9, 2) := by decide +kernel
theorem dX7_tune_50 : decode cX7_tune 50 = .ok (.isub, 1) := by decide +kernel
theorem dX7_tune_51 : decode cX7_tune 51 = .ok (.invokevirtual 81, 3) := by decide +kernel
theorem dX7_tune_54 : decode cX7_tune 54 = .ok (.iload_n 3, 1) := by decide +kernel
theorem dX7_tune_55 : decode cX7_tune 55 = .ok (.ireturn, 1) := by decide +kernel
theorem dX7_storm_0 : decode cX7_storm 0 = .ok (.iload_n 1, 1) := by decide +kernel
theorem dX7_storm_1 : decode cX7_storm 1 = .ok (.i2l, 1) := by decide +kernel
theorem dX7_storm_2 : decode cX7_storm 2 = .ok (.lconst 1, 1) := by decide +kernel
theorem dX7_storm_3 : decode cX7_storm 3 = .ok (.ldc2_w 155, 3) := by decide +kernel
theorem dX7_storm_6 : decode cX7_storm 6 = .ok (.invokestatic 53, 3) := by decide +kernel
theorem dX7_storm_9 : decode cX7_storm 9 = .ok (.ifCond .ne 5, 3) := by decide +kernel
theorem dX7_storm_12 : decode cX7_storm 12 = .ok (.iconst (-1), 1) := by decide +kernel
theorem dX7_storm_13 : decode cX7_storm 13 = .ok (.ireturn, 1) := by decide +kernel
theorem dX7_storm_14 : decode cX7_storm 14 = .ok (.aload_n 0, 1) := by decide +kernel
theorem dX7_storm_15 : decode cX7_storm 15 = .ok (.getfield 7, 3) := by decide +kernel
theorem dX7_storm_18 : decode cX7_storm 18 = .ok (.iconst 1, 1) := by decide +kernel
theorem dX7_storm_19 : decode cX7_storm 19 = .ok (.iaload, 1) := by decide +kernel
theorem dX7_storm_20 : decode cX7_storm 20 = .ok (.iload_n 1, 1) := by decide +kernel
theorem dX7_storm_21 : decode cX7_storm 21 = .ok (.iadd, 1) := by decide +kernel
theorem dX7_storm_22 : decode cX7_storm 22 = .ok (.sipush 9999, 3) := by decide +kernel
theorem dX7_storm_25 : decode cX7_storm 25 = .ok (.if_icmp .le 6, 3) := by decide +kernel
theorem dX7_storm_28 : decode cX7_storm 28 = .ok (.bipush (-3), 2) := by decide +kernel
theorem dX7_storm_30 : decode cX7_storm 30 = .ok (.ireturn, 1) := by decide +kernel
theorem dX7_storm_31 : decode cX7_storm 31 = .ok (.iconst 0, 1) := by decide +kernel
theorem dX7_storm_32 : decode cX7_storm 32 = .ok (.istore_n 2, 1) := by decide +kernel
theorem dX7_storm_33 : decode cX7_storm 33 = .ok (.iload_n 2, 1) := by decide +kernel
theorem dX7_storm_34 : decode cX7_storm 34 = .ok (.iload_n 1, 1) := by decide +kernel
theorem dX7_storm_35 : decode cX7_storm 35 = .ok (.if_icmp .ge 96, 3) := by decide +kernel
theorem dX7_storm_38 : decode cX7_storm 38 = .ok (.aload_n 0, 1) := by decide +kernel
theorem dX7_storm_39 : decode cX7_storm 39 = .ok (.invokevirtual 157, 3) := by decide +kernel
theorem dX7_storm_42 : decode cX7_storm 42 = .ok (.aload_n 0, 1) := by decide +kernel
theorem dX7_storm_43 : decode cX7_storm 43 = .ok (.getfield 7, 3) := by decide +kernel
theorem dX7_storm_46 : decode cX7_storm 46 = .ok (.iconst 2, 1) := by decide +kernel
theorem dX7_storm_47 : decode cX7_storm 47 = .ok (.aload_n 0, 1) := by decide +kernel
theorem dX7_storm_48 : decode cX7_storm 48 = .ok (.getfield 7, 3) := by decide +kernel
theorem dX7_storm_51 : decode cX7_storm 51 = .ok (.iconst 2, 1) := by decide +kernel
theorem dX7_storm_52 : decode cX7_storm 52 = .ok (.iaload, 1) := by decide +kernel
theorem dX7_storm_53 : decode cX7_storm 53 = .ok (.i2l, 1) := by decide +kernel
theorem dX7_storm_54 : decode cX7_storm 54 = .ok (.ldc2_w 166, 3) := by decide +kernel
theorem dX7_storm_57 : decode cX7_storm 57 = .ok (.lmul, 1) := by decide +kernel
theorem dX7_storm_58 : decode cX7_storm 58 = .ok (.ldc2_w 168, 3) := by decide +kernel
theorem dX7_storm_61 : decode cX7_storm 61 = .ok (.ladd, 1) := by decide +kernel
theorem dX7_storm_62 : decode cX7_storm 62 = .ok (.ldc2_w 170, 3) := by decide +kernel
theorem dX7_storm_65 : decode cX7_storm 65 = .ok (.land, 1) := by decide +kernel
theorem dX7_storm_66 : decode cX7_storm 66 = .ok (.l2i, 1) := by decide +kernel
theorem dX7_storm_67 : decode cX7_storm 67 = .ok (.iastore, 1) := by decide +kernel
theorem dX7_storm_68 : decode cX7_storm 68 = .ok (.aload_n 0, 1) := by decide +kernel
theorem dX7_storm_69 : decode cX7_storm 69 = .ok (.getfield 7, 3) := by decide +kernel
theorem dX7_storm_72 : decode cX7_storm 72 = .ok (.iconst 0, 1) := by decide +kernel
theorem dX7_storm_73 : decode cX7_storm 73 = .ok (.iaload, 1) := by decide +kernel
theorem dX7_storm_74 : decode cX7_storm 74 = .ok (.ifCond .le 47, 3) := by decide +kernel
theorem dX7_storm_77 : decode cX7_storm 77 = .ok (.aload_n 0, 1) := by decide +kernel
theorem dX7_storm_78 : decode cX7_storm 78 = .ok (.getfield 7, 3) := by decide +kernel
theorem dX7_storm_81 : decode cX7_storm 81 = .ok (.iconst 2, 1) := by decide +kernel
theorem dX7_storm_82 : decode cX7_storm 82 = .ok (.iaload, 1) := by decide +kernel
theorem dX7_storm_83 : decode cX7_storm 83 = .ok (.ldc 172, 2) := by decide +kernel
theorem dX7_storm_85 : decode cX7_storm 85 = .ok (.idiv, 1) := by decide +kernel
theorem dX7_storm_86 : decode cX7_storm 86 = .ok (.aload_n 0, 1) := by decide +kernel
theorem dX7_storm_87 : decode cX7_storm 87 = .ok (.getfield 7, 3) := by decide +kernel
theorem dX7_storm_90 : decode cX7_storm 90 = .ok (.iconst 0, 1) := by decide +kernel
theorem dX7_storm_91 : decode cX7_storm 91 = .ok (.iaload, 1) := by decide +kernel
theorem dX7_storm_92 : decode cX7_storm 92 = .ok (.irem, 1) := by decide +kernel
theorem dX7_storm_93 : decode cX7_storm 93 = .ok (.istore_n 3, 1) := by decide +kernel
theorem dX7_storm_94 : decode cX7_storm 94 = .ok (.aload_n 0, 1) := by decide +kernel
theorem dX7_storm_95 : decode cX7_storm 95 = .ok (.iload_n 3, 1) := by decide +kernel
theorem dX7_storm_96 : decode cX7_storm 96 = .ok (.iconst 1, 1) := by decide +kernel
theorem dX7_storm_97 : decode cX7_storm 97 = .ok (.aload_n 0, 1) := by decide +kernel
theorem dX7_storm_98 : decode cX7_storm 98 = .ok (.iload_n 3, 1) := by decide +kernel
theorem dX7_storm_99 : decode cX7_storm 99 = .ok (.invokevirtual 65, 3) := by decide +kernel
theorem dX7_storm_102 : decode cX7_storm 102 = .ok (.aload_n 0, 1) := by decide +kernel
theorem dX7_storm_103 : decode cX7_storm 103 = .ok (.getfield 7, 3) := by decide +kernel
theorem dX7_storm_106 : decode cX7_storm 106 = .ok (.iconst 2, 1) := by decide +kernel
theorem dX7_storm_107 : decode cX7_storm 107 = .ok (.iaload, 1) := by decide +kernel
theorem dX7_storm_108 : decode cX7_storm 108 = .ok (.sipush 128, 3) := by decide +kernel
theorem dX7_storm_111 : decode cX7_storm 111 = .ok (.idiv, 1) := by decide +kernel
theorem dX7_storm_112 : decode cX7_storm 112 = .ok (.iconst 5, 1) := by decide +kernel
theorem dX7_storm_113 : decode cX7_storm 113 = .ok (.irem, 1) := by decide +kernel
theorem dX7_storm_114 : decode cX7_storm 114 = .ok (.iadd, 1) := by decide +kernel
theorem dX7_storm_115 : decode cX7_storm 115 = .ok (.invokestatic 61, 3) := by decide +kernel
theorem dX7_storm_118 : decode cX7_storm 118 = .ok (.invokevirtual 81, 3) := by decide +kernel
theorem dX7_storm_121 : decode cX7_storm 121 = .ok (.aload_n 0, 1) := by decide +kernel
theorem dX7_storm_122 : decode cX7_storm 122 = .ok (.invokevirtual 85, 3) := by decide +kernel
theorem dX7_storm_125 : decode cX7_storm 125 = .ok (.iinc 2 1, 3) := by decide +kernel
theorem dX7_storm_128 : decode cX7_storm 128 = .ok (.goto (-95), 3) := by decide +kernel
theorem dX7_storm_131 : decode cX7_storm 131 = .ok (.aload_n 0, 1) := by decide +kernel
theorem dX7_storm_132 : decode cX7_storm 132 = .ok (.invokevirtual 114, 3) := by decide +kernel
theorem dX7_storm_135 : decode cX7_storm 135 = .ok (.ireturn, 1) := by decide +kernel
theorem dX7_undo_0 : decode cX7_undo 0 = .ok (.aload_n 0, 1) := by decide +kernel
theorem dX7_undo_1 : decode cX7_undo 1 = .ok (.getfield 91, 3) := by decide +kernel
theorem dX7_undo_4 : decode cX7_undo 4 = .ok (.ifCond .ne 6, 3) := by decide +kernel
theorem dX7_undo_7 : decode cX7_undo 7 = .ok (.bipush (-4), 2) := by decide +kernel
theorem dX7_undo_9 : decode cX7_undo 9 = .ok (.ireturn, 1) := by decide +kernel
theorem dX7_undo_10 : decode cX7_undo 10 = .ok (.aload_n 0, 1) := by decide +kernel
theorem dX7_undo_11 : decode cX7_undo 11 = .ok (.dup, 1) := by decide +kernel
theorem dX7_undo_12 : decode cX7_undo 12 = .ok (.getfield 91, 3) := by decide +kernel
theorem dX7_undo_15 : decode cX7_undo 15 = .ok (.iconst 1, 1) := by decide +kernel
theorem dX7_undo_16 : decode cX7_undo 16 = .ok (.isub, 1) := by decide +kernel
theorem dX7_undo_17 : decode cX7_undo 17 = .ok (.putfield 91, 3) := by decide +kernel
theorem dX7_undo_20 : decode cX7_undo 20 = .ok (.iconst 0, 1) := by decide +kernel
theorem dX7_undo_21 : decode cX7_undo 21 = .ok (.istore_n 1, 1) := by decide +kernel
theorem dX7_undo_22 : decode cX7_undo 22 = .ok (.iload_n 1, 1) := by decide +kernel
theorem dX7_undo_23 : decode cX7_undo 23 = .ok (.bipush 27, 2) := by decide +kernel
theorem dX7_undo_25 : decode cX7_undo 25 = .ok (.if_icmp .ge 29, 3) := by decide +kernel
theorem dX7_undo_28 : decode cX7_undo 28 = .ok (.aload_n 0, 1) := by decide +kernel
theorem dX7_undo_29 : decode cX7_undo 29 = .ok (.getfield 7, 3) := by decide +kernel
theorem dX7_undo_32 : decode cX7_undo 32 = .ok (.iload_n 1, 1) := by decide +kernel
theorem dX7_undo_33 : decode cX7_undo 33 = .ok (.aload_n 0, 1) := by decide +kernel
theorem dX7_undo_34 : decode cX7_undo 34 = .ok (.getfield 22, 3) := by decide +kernel
theorem dX7_undo_37 : decode cX7_undo 37 = .ok (.bipush 27, 2) := by decide +kernel
theorem dX7_undo_39 : decode cX7_undo 39 = .ok (.aload_n 0, 1) := by decide +kernel
theorem dX7_undo_40 : decode cX7_undo 40 = .ok (.getfield 91, 3) := by decide +kernel
theorem dX7_undo_43 : decode cX7_undo 43 = .ok (.imul, 1) := by decide +kernel
theorem dX7_undo_44 : decode cX7_undo 44 = .ok (.iload_n 1, 1) := by decide +kernel
theorem dX7_undo_45 : decode cX7_undo 45 = .ok (.iadd, 1) := by decide +kernel
theorem dX7_undo_46 : decode cX7_undo 46 = .ok (.iaload, 1) := by decide +kernel
theorem dX7_undo_47 : decode cX7_undo 47 = .ok (.iastore, 1) := by decide +kernel
theorem dX7_undo_48 : decode cX7_undo 48 = .ok (.iinc 1 1, 3) := by decide +kernel
theorem dX7_undo_51 : decode cX7_undo 51 = .ok (.goto (-29), 3) := by decide +kernel
theorem dX7_undo_54 : decode cX7_undo 54 = .ok (.aload_n 0, 1) := by decide +kernel
theorem dX7_undo_55 : decode cX7_undo 55 = .ok (.getfield 91, 3) := by decide +kernel
theorem dX7_undo_58 : decode cX7_undo 58 = .ok (.ireturn, 1) := by decide +kernel
theorem dX7_seed_0 : decode cX7_seed 0 = .ok (.iload_n 1, 1) := by decide +kernel
theorem dX7_seed_1 : decode cX7_seed 1 = .ok (.ifCond .ge 5, 3) := by decide +kernel
theorem dX7_seed_4 : decode cX7_seed 4 = .ok (.iconst (-1), 1) := by decide +kernel
theorem dX7_seed_5 : decode cX7_seed 5 = .ok (.ireturn, 1) := by decide +kernel
theorem dX7_seed_6 : decode cX7_seed 6 = .ok (.aload_n 0, 1) := by decide +kernel
theorem dX7_seed_7 : decode cX7_seed 7 = .ok (.getfield 7, 3) := by decide +kernel
theorem dX7_seed_10 : decode cX7_seed 10 = .ok (.iconst 2, 1) := by decide +kernel
theorem dX7_seed_11 : decode cX7_seed 11 = .ok (.iaload, 1) := by decide +kernel
theorem dX7_seed_12 : decode cX7_seed 12 = .ok (.istore_n 2, 1) := by decide +kernel
theorem dX7_seed_13 : decode cX7_seed 13 = .ok (.aload_n 0, 1) := by decide +kernel
theorem dX7_seed_14 : decode cX7_seed 14 = .ok (.getfield 7, 3) := by decide +kernel
theorem dX7_seed_17 : decode cX7_seed 17 = .ok (.iconst 2, 1) := by decide +kernel
theorem dX7_seed_18 : decode cX7_seed 18 = .ok (.iload_n 1, 1) := by decide +kernel
theorem dX7_seed_19 : decode cX7_seed 19 = .ok (.iastore, 1) := by decide +kernel
theorem dX7_seed_20 : decode cX7_seed 20 = .ok (.iload_n 2, 1) := by decide +kernel
theorem dX7_seed_21 : decode cX7_seed 21 = .ok (.ireturn, 1) := by decide +kernel
theorem dX7_asides_0 : decode cX7_asides 0 = .ok (.iconst 0, 1) := by decide +kernel
theorem dX7_asides_1 : decode cX7_asides 1 = .ok (.istore_n 1, 1) := by decide +kernel
theorem dX7_asides_2 : decode cX7_asides 2 = .ok (.iload_n 1, 1) := by decide +kernel
theorem dX7_asides_3 : decode cX7_asides 3 = .ok (.bipush 27, 2) := by decide +kernel
theorem dX7_asides_5 : decode cX7_asides 5 = .ok (.if_icmp .ge 21, 3) := by decide +kernel
theorem dX7_asides_8 : decode cX7_asides 8 = .ok (.aload_n 0, 1) := by decide +kernel
theorem dX7_asides_9 : decode cX7_asides 9 = .ok (.getfield 25, 3) := by decide +kernel
theorem dX7_asides_12 : decode cX7_asides 12 = .ok (.iload_n 1, 1) := by decide +kernel
theorem dX7_asides_13 : decode cX7_asides 13 = .ok (.aload_n 0, 1) := by decide +kernel
theorem dX7_asides_14 : decode cX7_asides 14 = .ok (.getfield 7, 3) := by decide +kernel
theorem dX7_asides_17 : decode cX7_asides 17 = .ok (.iload_n 1, 1) := by decide +kernel
theorem dX7_asides_18 : decode cX7_asides 18 = .ok (.iaload, 1) := by decide +kernel
theorem dX7_asides_19 : decode cX7_asides 19 = .ok (.iastore, 1) := by decide +kernel
theorem dX7_asides_20 : decode cX7_asides 20 = .ok (.iinc 1 1, 3) := by decide +kernel
theorem dX7_asides_23 : decode cX7_asides 23 = .ok (.goto (-21), 3) := by decide +kernel
theorem dX7_asides_26 : decode cX7_asides 26 = .ok (.return_, 1) := by decide +kernel
theorem dX7_backs_0 : decode cX7_backs 0 = .ok (.iconst 0, 1) := by decide +kernel
theorem dX7_backs_1 : decode cX7_backs 1 = .ok (.istore_n 1, 1) := by decide +kernel
theorem dX7_backs_2 : decode cX7_backs 2 = .ok (.iload_n 1, 1) := by decide +kernel
theorem dX7_backs_3 : decode cX7_backs 3 = .ok (.bipush 27, 2) := by decide +kernel
theorem dX7_backs_5 : decode cX7_backs 5 = .ok (.if_icmp .ge 21, 3) := by decide +kernel
theorem dX7_backs_8 : decode cX7_backs 8 = .ok (.aload_n 0, 1) := by decide +kernel
theorem dX7_backs_9 : decode cX7_backs 9 = .ok (.getfield 7, 3) := by decide +kernel
theorem dX7_backs_12 : decode cX7_backs 12 = .ok (.iload_n 1, 1) := by decide +kernel
theorem dX7_backs_13 : decode cX7_backs 13 = .ok (.aload_n 0, 1) := by decide +kernel
theorem dX7_backs_14 : decode cX7_backs 14 = .ok (.getfield 25, 3) := by decide +kernel
theorem dX7_backs_17 : decode cX7_backs 17 = .ok (.iload_n 1, 1) := by decide +kernel
theorem dX7_backs_18 : decode cX7_backs 18 = .ok (.iaload, 1) := by decide +kernel
theorem dX7_backs_19 : decode cX7_backs 19 = .ok (.iastore, 1) := by decide +kernel
theorem dX7_backs_20 : decode cX7_backs 20 = .ok (.iinc 1 1, 3) := by decide +kernel
theorem dX7_backs_23 : decode cX7_backs 23 = .ok (.goto (-21), 3) := by decide +kernel
theorem dX7_backs_26 : decode cX7_backs 26 = .ok (.return_, 1) := by decide +kernel
theorem dX7_ahead_0 : decode cX7_ahead 0 = .ok (.aload_n 0, 1) := by decide +kernel
theorem dX7_ahead_1 : decode cX7_ahead 1 = .ok (.iload_n 1, 1) := by decide +kernel
theorem dX7_ahead_2 : decode cX7_ahead 2 = .ok (.invokevirtual 107, 3) := by decide +kernel
theorem dX7_ahead_5 : decode cX7_ahead 5 = .ok (.ifCond .eq 15, 3) := by decide +kernel
theorem dX7_ahead_8 : decode cX7_ahead 8 = .ok (.iload_n 2, 1) := by decide +kernel
theorem dX7_ahead_9 : decode cX7_ahead 9 = .ok (.i2l, 1) := by decide +kernel
theorem dX7_ahead_10 : decode cX7_ahead 10 = .ok (.lconst 0, 1) := by decide +kernel
theorem dX7_ahead_11 : decode cX7_ahead 11 = .ok (.ldc2_w 173, 3) := by decide +kernel
theorem dX7_ahead_14 : decode cX7_ahead 14 = .ok (.invokestatic 53, 3) := by decide +kernel
theorem dX7_ahead_17 : decode cX7_ahead 17 = .ok (.ifCond .ne 5, 3) := by decide +kernel
theorem dX7_ahead_20 : decode cX7_ahead 20 = .ok (.iconst (-1), 1) := by decide +kernel
theorem dX7_ahead_21 : decode cX7_ahead 21 = .ok (.ireturn, 1) := by decide +kernel
theorem dX7_ahead_22 : decode cX7_ahead 22 = .ok (.aload_n 0, 1) := by decide +kernel
theorem dX7_ahead_23 : decode cX7_ahead 23 = .ok (.invokevirtual 175, 3) := by decide +kernel
theorem dX7_ahead_26 : decode cX7_ahead 26 = .ok (.aload_n 0, 1) := by decide +kernel
theorem dX7_ahead_27 : decode cX7_ahead 27 = .ok (.iload_n 2, 1) := by decide +kernel
theorem dX7_ahead_28 : decode cX7_ahead 28 = .ok (.invokevirtual 178, 3) := by decide +kernel
theorem dX7_ahead_31 : decode cX7_ahead 31 = .ok (.aload_n 0, 1) := by decide +kernel
theorem dX7_ahead_32 : decode cX7_ahead 32 = .ok (.iload_n 1, 1) := by decide +kernel
theorem dX7_ahead_33 : decode cX7_ahead 33 = .ok (.invokevirtual 65, 3) := by decide +kernel
theorem dX7_ahead_36 : decode cX7_ahead 36 = .ok (.istore_n 3, 1) := by decide +kernel
theorem dX7_ahead_37 : decode cX7_ahead 37 = .ok (.aload_n 0, 1) := by decide +kernel
theorem dX7_ahead_38 : decode cX7_ahead 38 = .ok (.invokevirtual 182, 3) := by decide +kernel
theorem dX7_ahead_41 : decode cX7_ahead 41 = .ok (.iload_n 3, 1) := by decide +kernel
theorem dX7_ahead_42 : decode cX7_ahead 42 = .ok (.ireturn, 1) := by decide +kernel
theorem dX7_near_0 : decode cX7_near 0 = .ok (.iload_n 1, 1) := by decide +kernel
theorem dX7_near_1 : decode cX7_near 1 = .ok (.i2l, 1) := by decide +kernel
theorem dX7_near_2 : decode cX7_near 2 = .ok (.lconst 0, 1) := by decide +kernel
theorem dX7_near_3 : decode cX7_near 3 = .ok (.ldc2_w 173, 3) := by decide +kernel
theorem dX7_near_6 : decode cX7_near 6 = .ok (.invokestatic 53, 3) := by decide +kernel
theorem dX7_near_9 : decode cX7_near 9 = .ok (.ifCond .ne 5, 3) := by decide +kernel
theorem dX7_near_12 : decode cX7_near 12 = .ok (.iconst (-1), 1) := by decide +kernel
theorem dX7_near_13 : decode cX7_near 13 = .ok (.ireturn, 1) := by decide +kernel
theorem dX7_near_14 : decode cX7_near 14 = .ok (.aload_n 0, 1) := by decide +kernel
theorem dX7_near_15 : decode cX7_near 15 = .ok (.invokevirtual 175, 3) := by decide +kernel
theorem dX7_near_18 : decode cX7_near 18 = .ok (.aload_n 0, 1) := by decide +kernel
theorem dX7_near_19 : decode cX7_near 19 = .ok (.iload_n 1, 1) := by decide +kernel
theorem dX7_near_20 : decode cX7_near 20 = .ok (.invokevirtual 178, 3) := by decide +kernel
theorem dX7_near_23 : decode cX7_near 23 = .ok (.aload_n 0, 1) := by decide +kernel
theorem dX7_near_24 : decode cX7_near 24 = .ok (.invokevirtual 114, 3) := by decide +kernel
theorem dX7_near_27 : decode cX7_near 27 = .ok (.istore_n 2, 1) := by decide +kernel
theorem dX7_near_28 : decode cX7_near 28 = .ok (.aload_n 0, 1) := by decide +kernel
theorem dX7_near_29 : decode cX7_near 29 = .ok (.invokevirtual 182, 3) := by decide +kernel
theorem dX7_near_32 : decode cX7_near 32 = .ok (.iload_n 2, 1) := by decide +kernel
theorem dX7_near_33 : decode cX7_near 33 = .ok (.ireturn, 1) := by decide +kernel
theorem dX7_meet_0 : decode cX7_meet 0 = .ok (.aload_n 0, 1) := by decide +kernel
theorem dX7_meet_1 : decode cX7_meet 1 = .ok (.iload_n 1, 1) := by decide +kernel
theorem dX7_meet_2 : decode cX7_meet 2 = .ok (.iload_n 2, 1) := by decide +kernel
theorem dX7_meet_3 : decode cX7_meet 3 = .ok (.invokevirtual 110, 3) := by decide +kernel
theorem dX7_meet_6 : decode cX7_meet 6 = .ok (.ifCond .ne 5, 3) := by decide +kernel
theorem dX7_meet_9 : decode cX7_meet 9 = .ok (.iconst (-1), 1) := by decide +kernel
theorem dX7_meet_10 : decode cX7_meet 10 = .ok (.ireturn, 1) := by decide +kernel
theorem dX7_meet_11 : decode cX7_meet 11 = .ok (.aload_n 0, 1) := by decide +kernel
theorem dX7_meet_12 : decode cX7_meet 12 = .ok (.invokevirtual 175, 3) := by decide +kernel
theorem dX7_meet_15 : decode cX7_meet 15 = .ok (.iconst 0, 1) := by decide +kernel
theorem dX7_meet_16 : decode cX7_meet 16 = .ok (.istore_n 3, 1) := by decide +kernel
theorem dX7_meet_17 : decode cX7_meet 17 = .ok (.iload_n 3, 1) := by decide +kernel
theorem dX7_meet_18 : decode cX7_meet 18 = .ok (.bipush 61, 2) := by decide +kernel
theorem dX7_meet_20 : decode cX7_meet 20 = .ok (.if_icmp .ge 26, 3) := by decide +kernel
theorem dX7_meet_23 : decode cX7_meet 23 = .ok (.aload_n 0, 1) := by decide +kernel
theorem dX7_meet_24 : decode cX7_meet 24 = .ok (.iload_n 1, 1) := by decide +kernel
theorem dX7_meet_25 : decode cX7_meet 25 = .ok (.invokevirtual 65, 3) := by decide +kernel
theorem dX7_meet_28 : decode cX7_meet 28 = .ok (.aload_n 0, 1) := by decide +kernel
theorem dX7_meet_29 : decode cX7_meet 29 = .ok (.iload_n 2, 1) := by decide +kernel
theorem dX7_meet_30 : decode cX7_meet 30 = .ok (.invokevirtual 65, 3) := by decide +kernel
theorem dX7_meet_33 : decode cX7_meet 33 = .ok (.if_icmp .eq 13, 3) := by decide +kernel
theorem dX7_meet_36 : decode cX7_meet 36 = .ok (.aload_n 0, 1) := by decide +kernel
theorem dX7_meet_37 : decode cX7_meet 37 = .ok (.invokevirtual 85, 3) := by decide +kernel
theorem dX7_meet_40 : decode cX7_meet 40 = .ok (.iinc 3 1, 3) := by decide +kernel
theorem dX7_meet_43 : decode cX7_meet 43 = .ok (.goto (-26), 3) := by decide +kernel
theorem dX7_meet_46 : decode cX7_meet 46 = .ok (.aload_n 0, 1) := by decide +kernel
theorem dX7_meet_47 : decode cX7_meet 47 = .ok (.invokevirtual 182, 3) := by decide +kernel
theorem dX7_meet_50 : decode cX7_meet 50 = .ok (.iload_n 3, 1) := by decide +kernel
theorem dX7_meet_51 : decode cX7_meet 51 = .ok (.bipush 61, 2) := by decide +kernel
theorem dX7_meet_53 : decode cX7_meet 53 = .ok (.if_icmp .ge 7, 3) := by decide +kernel
theorem dX7_meet_56 : decode cX7_meet 56 = .ok (.iload_n 3, 1) := by decide +kernel
theorem dX7_meet_57 : decode cX7_meet 57 = .ok (.goto 5, 3) := by decide +kernel
theorem dX7_meet_60 : decode cX7_meet 60 = .ok (.bipush (-4), 2) := by decide +kernel
theorem dX7_meet_62 : decode cX7_meet 62 = .ok (.ireturn, 1) := by decide +kernel
theorem dX7_whenTogether_0 : decode cX7_whenTogether 0 = .ok (.iconst 0, 1) := by decide +kernel
theorem dX7_whenTogether_1 : decode cX7_whenTogether 1 = .ok (.istore_n 1, 1) := by decide +kernel
theorem dX7_whenTogether_2 : decode cX7_whenTogether 2 = .ok (.iload_n 1, 1) := by decide +kernel
theorem dX7_whenTogether_3 : decode cX7_whenTogether 3 = .ok (.bipush 61, 2) := by decide +kernel
theorem dX7_whenTogether_5 : decode cX7_whenTogether 5 = .ok (.if_icmp .ge 20, 3) := by decide +kernel
theorem dX7_whenTogether_8 : decode cX7_whenTogether 8 = .ok (.aload_n 0, 1) := by decide +kernel
theorem dX7_whenTogether_9 : decode cX7_whenTogether 9 = .ok (.invokevirtual 118, 3) := by decide +kernel
theorem dX7_whenTogether_12 : decode cX7_whenTogether 12 = .ok (.ifCond .ne 13, 3) := by decide +kernel
theorem dX7_whenTogether_15 : decode cX7_whenTogether 15 = .ok (.aload_n 0, 1) := by decide +kernel
theorem dX7_whenTogether_16 : decode cX7_whenTogether 16 = .ok (.invokevirtual 85, 3) := by decide +kernel
theorem dX7_whenTogether_19 : decode cX7_whenTogether 19 = .ok (.iinc 1 1, 3) := by decide +kernel
theorem dX7_whenTogether_22 : decode cX7_whenTogether 22 = .ok (.goto (-20), 3) := by decide +kernel
theorem dX7_whenTogether_25 : decode cX7_whenTogether 25 = .ok (.aload_n 0, 1) := by decide +kernel
theorem dX7_whenTogether_26 : decode cX7_whenTogether 26 = .ok (.iload_n 1, 1) := by decide +kernel
theorem dX7_whenTogether_27 : decode cX7_whenTogether 27 = .ok (.bipush 61, 2) := by decide +kernel
theorem dX7_whenTogether_29 : decode cX7_whenTogether 29 = .ok (.if_icmp .ge 10, 3) := by decide +kernel
theorem dX7_whenTogether_32 : decode cX7_whenTogether 32 = .ok (.aload_n 0, 1) := by decide +kernel
theorem dX7_whenTogether_33 : decode cX7_whenTogether 33 = .ok (.invokevirtual 118, 3) := by decide +kernel
theorem dX7_whenTogether_36 : decode cX7_whenTogether 36 = .ok (.goto 4, 3) := by decide +kernel
theorem dX7_whenTogether_39 : decode cX7_whenTogether 39 = .ok (.iconst 0, 1) := by decide +kernel
theorem dX7_whenTogether_40 : decode cX7_whenTogether 40 = .ok (.putfield 185, 3) := by decide +kernel
theorem dX7_whenTogether_43 : decode cX7_whenTogether 43 = .ok (.aload_n 0, 1) := by decide +kernel
theorem dX7_whenTogether_44 : decode cX7_whenTogether 44 = .ok (.invokevirtual 182, 3) := by decide +kernel
theorem dX7_whenTogether_47 : decode cX7_whenTogether 47 = .ok (.iload_n 1, 1) := by decide +kernel
theorem dX7_whenTogether_48 : decode cX7_whenTogether 48 = .ok (.bipush 61, 2) := by decide +kernel
theorem dX7_whenTogether_50 : decode cX7_whenTogether 50 = .ok (.if_icmp .ge 7, 3) := by decide +kernel
theorem dX7_whenTogether_53 : decode cX7_whenTogether 53 = .ok (.iload_n 1, 1) := by decide +kernel
theorem dX7_whenTogether_54 : decode cX7_whenTogether 54 = .ok (.goto 5, 3) := by decide +kernel
theorem dX7_whenTogether_57 : decode cX7_whenTogether 57 = .ok (.bipush (-4), 2) := by decide +kernel
theorem dX7_whenTogether_59 : decode cX7_whenTogether 59 = .ok (.ireturn, 1) := by decide +kernel
theorem dX7_together_0 : decode cX7_together 0 = .ok (.iload_n 1, 1) := by decide +kernel
theorem dX7_together_1 : decode cX7_together 1 = .ok (.i2l, 1) := by decide +kernel
theorem dX7_together_2 : decode cX7_together 2 = .ok (.lconst 0, 1) := by decide +kernel
theorem dX7_together_3 : decode cX7_together 3 = .ok (.lconst 1, 1) := by decide +kernel
theorem dX7_together_4 : decode cX7_together 4 = .ok (.invokestatic 53, 3) := by decide +kernel
theorem dX7_together_7 : decode cX7_together 7 = .ok (.ifCond .ne 5, 3) := by decide +kernel
theorem dX7_together_10 : decode cX7_together 10 = .ok (.iconst (-1), 1) := by decide +kernel
theorem dX7_together_11 : decode cX7_together 11 = .ok (.ireturn, 1) := by decide +kernel
theorem dX7_together_12 : decode cX7_together 12 = .ok (.aload_n 0, 1) := by decide +kernel
theorem dX7_together_13 : decode cX7_together 13 = .ok (.invokevirtual 175, 3) := by decide +kernel
theorem dX7_together_16 : decode cX7_together 16 = .ok (.aload_n 0, 1) := by decide +kernel
theorem dX7_together_17 : decode cX7_together 17 = .ok (.invokevirtual 188, 3) := by decide +kernel
theorem dX7_together_20 : decode cX7_together 20 = .ok (.istore_n 2, 1) := by decide +kernel
theorem dX7_together_21 : decode cX7_together 21 = .ok (.iload_n 1, 1) := by decide +kernel
theorem dX7_together_22 : decode cX7_together 22 = .ok (.ifCond .ne 7, 3) := by decide +kernel
theorem dX7_together_25 : decode cX7_together 25 = .ok (.iload_n 2, 1) := by decide +kernel
theorem dX7_together_26 : decode cX7_together 26 = .ok (.goto 7, 3) := by decide +kernel
theorem dX7_together_29 : decode cX7_together 29 = .ok (.aload_n 0, 1) := by decide +kernel
theorem dX7_together_30 : decode cX7_together 30 = .ok (.getfield 185, 3) := by decide +kernel
theorem dX7_together_33 : decode cX7_together 33 = .ok (.ireturn, 1) := by decide +kernel
theorem dX7_setsIn_0 : decode cX7_setsIn 0 = .ok (.iload_n 1, 1) := by decide +kernel
theorem dX7_setsIn_1 : decode cX7_setsIn 1 = .ok (.istore_n 3, 1) := by decide +kernel
theorem dX7_setsIn_2 : decode cX7_setsIn 2 = .ok (.iconst 0, 1) := by decide +kernel
theorem dX7_setsIn_3 : decode cX7_setsIn 3 = .ok (.istore 4, 2) := by decide +kernel
theorem dX7_setsIn_5 : decode cX7_setsIn 5 = .ok (.aload_n 0, 1) := by decide +kernel
theorem dX7_setsIn_6 : decode cX7_setsIn 6 = .ok (.getfield 7, 3) := by decide +kernel
theorem dX7_setsIn_9 : decode cX7_setsIn 9 = .ok (.iconst 0, 1) := by decide +kernel
theorem dX7_setsIn_10 : decode cX7_setsIn 10 = .ok (.iaload, 1) := by decide +kernel
theorem dX7_setsIn_11 : decode cX7_setsIn 11 = .ok (.iconst 1, 1) := by decide +kernel
theorem dX7_setsIn_12 : decode cX7_setsIn 12 = .ok (.isub, 1) := by decide +kernel
theorem dX7_setsIn_13 : decode cX7_setsIn 13 = .ok (.istore 5, 2) := by decide +kernel
theorem dX7_setsIn_15 : decode cX7_setsIn 15 = .ok (.iload 5, 2) := by decide +kernel
theorem dX7_setsIn_17 : decode cX7_setsIn 17 = .ok (.ifCond .lt 60, 3) := by decide +kernel
theorem dX7_setsIn_20 : decode cX7_setsIn 20 = .ok (.aload_n 0, 1) := by decide +kernel
theorem dX7_setsIn_21 : decode cX7_setsIn 21 = .ok (.getfield 28, 3) := by decide +kernel
theorem dX7_setsIn_24 : decode cX7_setsIn 24 = .ok (.iload 5, 2) := by decide +kernel
theorem dX7_setsIn_26 : decode cX7_setsIn 26 = .ok (.iload_n 3, 1) := by decide +kernel
theorem dX7_setsIn_27 : decode cX7_setsIn 27 = .ok (.iconst 5, 1) := by decide +kernel
theorem dX7_setsIn_28 : decode cX7_setsIn 28 = .ok (.irem, 1) := by decide +kernel
theorem dX7_setsIn_29 : decode cX7_setsIn 29 = .ok (.iastore, 1) := by decide +kernel
theorem dX7_setsIn_30 : decode cX7_setsIn 30 = .ok (.iload_n 3, 1) := by decide +kernel
theorem dX7_setsIn_31 : decode cX7_setsIn 31 = .ok (.iconst 5, 1) := by decide +kernel
theorem dX7_setsIn_32 : decode cX7_setsIn 32 = .ok (.idiv, 1) := by decide +kernel
theorem dX7_setsIn_33 : decode cX7_setsIn 33 = .ok (.istore_n 3, 1) := by decide +kernel
theorem dX7_setsIn_34 : decode cX7_setsIn 34 = .ok (.iload 4, 2) := by decide +kernel
theorem dX7_setsIn_36 : decode cX7_setsIn 36 = .ok (.aload_n 0, 1) := by decide +kernel
theorem dX7_setsIn_37 : decode cX7_setsIn 37 = .ok (.getfield 28, 3) := by decide +kernel
theorem dX7_setsIn_40 : decode cX7_setsIn 40 = .ok (.iload 5, 2) := by decide +kernel
theorem dX7_setsIn_42 : decode cX7_setsIn 42 = .ok (.iaload, 1) := by decide +kernel
theorem dX7_setsIn_43 : decode cX7_setsIn 43 = .ok (.iconst 2, 1) := by decide +kernel
theorem dX7_setsIn_44 : decode cX7_setsIn 44 = .ok (.if_icmp .ge 15, 3) := by decide +kernel
theorem dX7_setsIn_47 : decode cX7_setsIn 47 = .ok (.iconst 2, 1) := by decide +kernel
theorem dX7_setsIn_48 : decode cX7_setsIn 48 = .ok (.aload_n 0, 1) := by decide +kernel
theorem dX7_setsIn_49 : decode cX7_setsIn 49 = .ok (.getfield 28, 3) := by decide +kernel
theorem dX7_setsIn_52 : decode cX7_setsIn 52 = .ok (.iload 5, 2) := by decide +kernel
theorem dX7_setsIn_54 : decode cX7_setsIn 54 = .ok (.iaload, 1) := by decide +kernel
theorem dX7_setsIn_55 : decode cX7_setsIn 55 = .ok (.isub, 1) := by decide +kernel
theorem dX7_setsIn_56 : decode cX7_setsIn 56 = .ok (.goto 12, 3) := by decide +kernel
theorem dX7_setsIn_59 : decode cX7_setsIn 59 = .ok (.aload_n 0, 1) := by decide +kernel
theorem dX7_setsIn_60 : decode cX7_setsIn 60 = .ok (.getfield 28, 3) := by decide +kernel
theorem dX7_setsIn_63 : decode cX7_setsIn 63 = .ok (.iload 5, 2) := by decide +kernel
theorem dX7_setsIn_65 : decode cX7_setsIn 65 = .ok (.iaload, 1) := by decide +kernel
theorem dX7_setsIn_66 : decode cX7_setsIn 66 = .ok (.iconst 2, 1) := by decide +kernel
theorem dX7_setsIn_67 : decode cX7_setsIn 67 = .ok (.isub, 1) := by decide +kernel
theorem dX7_setsIn_68 : decode cX7_setsIn 68 = .ok (.iadd, 1) := by decide +kernel
theorem dX7_setsIn_69 : decode cX7_setsIn 69 = .ok (.istore 4, 2) := by decide +kernel
theorem dX7_setsIn_71 : decode cX7_setsIn 71 = .ok (.iinc 5 (-1), 3) := by decide +kernel
theorem dX7_setsIn_74 : decode cX7_setsIn 74 = .ok (.goto (-59), 3) := by decide +kernel
theorem dX7_setsIn_77 : decode cX7_setsIn 77 = .ok (.iconst 0, 1) := by decide +kernel
theorem dX7_setsIn_78 : decode cX7_setsIn 78 = .ok (.istore 5, 2) := by decide +kernel
theorem dX7_setsIn_80 : decode cX7_setsIn 80 = .ok (.iload 5, 2) := by decide +kernel
theorem dX7_setsIn_82 : decode cX7_setsIn 82 = .ok (.aload_n 0, 1) := by decide +kernel
theorem dX7_setsIn_83 : decode cX7_setsIn 83 = .ok (.getfield 7, 3) := by decide +kernel
theorem dX7_setsIn_86 : decode cX7_setsIn 86 = .ok (.iconst 0, 1) := by decide +kernel
theorem dX7_setsIn_87 : decode cX7_setsIn 87 = .ok (.iaload, 1) := by decide +kernel
theorem dX7_setsIn_88 : decode cX7_setsIn 88 = .ok (.if_icmp .ge 63, 3) := by decide +kernel
theorem dX7_setsIn_91 : decode cX7_setsIn 91 = .ok (.iconst 0, 1) := by decide +kernel
theorem dX7_setsIn_92 : decode cX7_setsIn 92 = .ok (.istore 6, 2) := by decide +kernel
theorem dX7_setsIn_94 : decode cX7_setsIn 94 = .ok (.iload 6, 2) := by decide +kernel
theorem dX7_setsIn_96 : decode cX7_setsIn 96 = .ok (.iload 5, 2) := by decide +kernel
theorem dX7_setsIn_98 : decode cX7_setsIn 98 = .ok (.if_icmp .ge 47, 3) := by decide +kernel
theorem dX7_setsIn_101 : decode cX7_setsIn 101 = .ok (.aload_n 0, 1) := by decide +kernel
theorem dX7_setsIn_102 : decode cX7_setsIn 102 = .ok (.iload 5, 2) := by decide +kernel
theorem dX7_setsIn_104 : decode cX7_setsIn 104 = .ok (.invokevirtual 65, 3) := by decide +kernel
theorem dX7_setsIn_107 : decode cX7_setsIn 107 = .ok (.aload_n 0, 1) := by decide +kernel
theorem dX7_setsIn_108 : decode cX7_setsIn 108 = .ok (.getfield 28, 3) := by decide +kernel
theorem dX7_setsIn_111 : decode cX7_setsIn 111 = .ok (.iload 5, 2) := by decide +kernel
theorem dX7_setsIn_113 : decode cX7_setsIn 113 = .ok (.iaload, 1) := by decide +kernel
theorem dX7_setsIn_114 : decode cX7_setsIn 114 = .ok (.iadd, 1) := by decide +kernel
theorem dX7_setsIn_115 : decode cX7_setsIn 115 = .ok (.aload_n 0, 1) := by decide +kernel
theorem dX7_setsIn_116 : decode cX7_setsIn 116 = .ok (.iload 6, 2) := by decide +kernel
theorem dX7_setsIn_118 : decode cX7_setsIn 118 = .ok (.invokevirtual 65, 3) := by decide +kernel
theorem dX7_setsIn_121 : decode cX7_setsIn 121 = .ok (.aload_n 0, 1) := by decide +kernel
theorem dX7_setsIn_122 : decode cX7_setsIn 122 = .ok (.getfield 28, 3) := by decide +kernel
theorem dX7_setsIn_125 : decode cX7_setsIn 125 = .ok (.iload 6, 2) := by decide +kernel
theorem dX7_setsIn_127 : decode cX7_setsIn 127 = .ok (.iaload, 1) := by decide +kernel
theorem dX7_setsIn_128 : decode cX7_setsIn 128 = .ok (.iadd, 1) := by decide +kernel
theorem dX7_setsIn_129 : decode cX7_setsIn 129 = .ok (.invokestatic 68, 3) := by decide +kernel
theorem dX7_setsIn_132 : decode cX7_setsIn 132 = .ok (.iload_n 2, 1) := by decide +kernel
theorem dX7_setsIn_133 : decode cX7_setsIn 133 = .ok (.if_icmp .ge 6, 3) := by decide +kernel
theorem dX7_setsIn_136 : decode cX7_setsIn 136 = .ok (.bipush (-4), 2) := by decide +kernel
theorem dX7_setsIn_138 : decode cX7_setsIn 138 = .ok (.ireturn, 1) := by decide +kernel
theorem dX7_setsIn_139 : decode cX7_setsIn 139 = .ok (.iinc 6 1, 3) := by decide +kernel
theorem dX7_setsIn_142 : decode cX7_setsIn 142 = .ok (.goto (-48), 3) := by decide +kernel
theorem dX7_setsIn_145 : decode cX7_setsIn 145 = .ok (.iinc 5 1, 3) := by decide +kernel
theorem dX7_setsIn_148 : decode cX7_setsIn 148 = .ok (.goto (-68), 3) := by decide +kernel
theorem dX7_setsIn_151 : decode cX7_setsIn 151 = .ok (.iload 4, 2) := by decide +kernel
theorem dX7_setsIn_153 : decode cX7_setsIn 153 = .ok (.ireturn, 1) := by decide +kernel
theorem dX7_fix_0 : decode cX7_fix 0 = .ok (.iload_n 1, 1) := by decide +kernel
theorem dX7_fix_1 : decode cX7_fix 1 = .ok (.i2l, 1) := by decide +kernel
theorem dX7_fix_2 : decode cX7_fix 2 = .ok (.lconst 1, 1) := by decide +kernel
theorem dX7_fix_3 : decode cX7_fix 3 = .ok (.ldc2_w 191, 3) := by decide +kernel
theorem dX7_fix_6 : decode cX7_fix 6 = .ok (.invokestatic 53, 3) := by decide +kernel
theorem dX7_fix_9 : decode cX7_fix 9 = .ok (.ifCond .eq 23, 3) := by decide +kernel
theorem dX7_fix_12 : decode cX7_fix 12 = .ok (.iload_n 2, 1) := by decide +kernel
theorem dX7_fix_13 : decode cX7_fix 13 = .ok (.i2l, 1) := by decide +kernel
theorem dX7_fix_14 : decode cX7_fix 14 = .ok (.ldc2_w 193, 3) := by decide +kernel
theorem dX7_fix_17 : decode cX7_fix 17 = .ok (.aload_n 0, 1) := by decide +kernel
theorem dX7_fix_18 : decode cX7_fix 18 = .ok (.getfield 7, 3) := by decide +kernel
theorem dX7_fix_21 : decode cX7_fix 21 = .ok (.iconst 0, 1) := by decide +kernel
theorem dX7_fix_22 : decode cX7_fix 22 = .ok (.iaload, 1) := by decide +kernel
theorem dX7_fix_23 : decode cX7_fix 23 = .ok (.iconst 1, 1) := by decide +kernel
theorem dX7_fix_24 : decode cX7_fix 24 = .ok (.isub, 1) := by decide +kernel
theorem dX7_fix_25 : decode cX7_fix 25 = .ok (.i2l, 1) := by decide +kernel
theorem dX7_fix_26 : decode cX7_fix 26 = .ok (.invokestatic 53, 3) := by decide +kernel
theorem dX7_fix_29 : decode cX7_fix 29 = .ok (.ifCond .ne 5, 3) := by decide +kernel
theorem dX7_fix_32 : decode cX7_fix 32 = .ok (.iconst (-1), 1) := by decide +kernel
theorem dX7_fix_33 : decode cX7_fix 33 = .ok (.ireturn, 1) := by decide +kernel
theorem dX7_fix_34 : decode cX7_fix 34 = .ok (.iconst 1, 1) := by decide +kernel
theorem dX7_fix_35 : decode cX7_fix 35 = .ok (.istore_n 3, 1) := by decide +kernel
theorem dX7_fix_36 : decode cX7_fix 36 = .ok (.iconst 0, 1) := by decide +kernel
theorem dX7_fix_37 : decode cX7_fix 37 = .ok (.istore 4, 2) := by decide +kernel
theorem dX7_fix_39 : decode cX7_fix 39 = .ok (.iload 4, 2) := by decide +kernel
theorem dX7_fix_41 : decode cX7_fix 41 = .ok (.aload_n 0, 1) := by decide +kernel
theorem dX7_fix_42 : decode cX7_fix 42 = .ok (.getfield 7, 3) := by decide +kernel
theorem dX7_fix_45 : decode cX7_fix 45 = .ok (.iconst 0, 1) := by decide +kernel
theorem dX7_fix_46 : decode cX7_fix 46 = .ok (.iaload, 1) := by decide +kernel
theorem dX7_fix_47 : decode cX7_fix 47 = .ok (.if_icmp .ge 13, 3) := by decide +kernel
theorem dX7_fix_50 : decode cX7_fix 50 = .ok (.iload_n 3, 1) := by decide +kernel
theorem dX7_fix_51 : decode cX7_fix 51 = .ok (.iconst 5, 1) := by decide +kernel
theorem dX7_fix_52 : decode cX7_fix 52 = .ok (.imul, 1) := by decide +kernel
theorem dX7_fix_53 : decode cX7_fix 53 = .ok (.istore_n 3, 1) := by decide +kernel
theorem dX7_fix_54 : decode cX7_fix 54 = .ok (.iinc 4 1, 3) := by decide +kernel
theorem dX7_fix_57 : decode cX7_fix 57 = .ok (.goto (-18), 3) := by decide +kernel
theorem dX7_fix_60 : decode cX7_fix 60 = .ok (.bipush (-4), 2) := by decide +kernel
theorem dX7_fix_62 : decode cX7_fix 62 = .ok (.istore 4, 2) := by decide +kernel
theorem dX7_fix_64 : decode cX7_fix 64 = .ok (.iconst 0, 1) := by decide +kernel
theorem dX7_fix_65 : decode cX7_fix 65 = .ok (.istore 5, 2) := by decide +kernel
theorem dX7_fix_67 : decode cX7_fix 67 = .ok (.iload 5, 2) := by decide +kernel
theorem dX7_fix_69 : decode cX7_fix 69 = .ok (.iload_n 3, 1) := by decide +kernel
theorem dX7_fix_70 : decode cX7_fix 70 = .ok (.if_icmp .ge 73, 3) := by decide +kernel
theorem dX7_fix_73 : decode cX7_fix 73 = .ok (.aload_n 0, 1) := by decide +kernel
theorem dX7_fix_74 : decode cX7_fix 74 = .ok (.iload 5, 2) := by decide +kernel
theorem dX7_fix_76 : decode cX7_fix 76 = .ok (.iload_n 1, 1) := by decide +kernel
theorem dX7_fix_77 : decode cX7_fix 77 = .ok (.invokevirtual 195, 3) := by decide +kernel
theorem dX7_fix_80 : decode cX7_fix 80 = .ok (.istore 6, 2) := by decide +kernel
theorem dX7_fix_82 : decode cX7_fix 82 = .ok (.iload 6, 2) := by decide +kernel
theorem dX7_fix_84 : decode cX7_fix 84 = .ok (.bipush (-4), 2) := by decide +kernel
theorem dX7_fix_86 : decode cX7_fix 86 = .ok (.if_icmp .eq 51, 3) := by decide +kernel
theorem dX7_fix_89 : decode cX7_fix 89 = .ok (.iload 4, 2) := by decide +kernel
theorem dX7_fix_91 : decode cX7_fix 91 = .ok (.bipush (-4), 2) := by decide +kernel
theorem dX7_fix_93 : decode cX7_fix 93 = .ok (.if_icmp .eq 10, 3) := by decide +kernel
theorem dX7_fix_96 : decode cX7_fix 96 = .ok (.iload 6, 2) := by decide +kernel
theorem dX7_fix_98 : decode cX7_fix 98 = .ok (.iload 4, 2) := by decide +kernel
theorem dX7_fix_100 : decode cX7_fix 100 = .ok (.if_icmp .ge 37, 3) := by decide +kernel
theorem dX7_fix_103 : decode cX7_fix 103 = .ok (.iload 6, 2) := by decide +kernel
theorem dX7_fix_105 : decode cX7_fix 105 = .ok (.istore 4, 2) := by decide +kernel
theorem dX7_fix_107 : decode cX7_fix 107 = .ok (.iconst 0, 1) := by decide +kernel
theorem dX7_fix_108 : decode cX7_fix 108 = .ok (.istore 7, 2) := by decide +kernel
theorem dX7_fix_110 : decode cX7_fix 110 = .ok (.iload 7, 2) := by decide +kernel
theorem dX7_fix_112 : decode cX7_fix 112 = .ok (.bipush 6, 2) := by decide +kernel
theorem dX7_fix_114 : decode cX7_fix 114 = .ok (.if_icmp .ge 23, 3) := by decide +kernel
theorem dX7_fix_117 : decode cX7_fix 117 = .ok (.aload_n 0, 1) := by decide +kernel
theorem dX7_fix_118 : decode cX7_fix 118 = .ok (.getfield 31, 3) := by decide +kernel
theorem dX7_fix_121 : decode cX7_fix 121 = .ok (.iload 7, 2) := by decide +kernel
theorem dX7_fix_123 : decode cX7_fix 123 = .ok (.aload_n 0, 1) := by decide +kernel
theorem dX7_fix_124 : decode cX7_fix 124 = .ok (.getfield 28, 3) := by decide +kernel
theorem dX7_fix_127 : decode cX7_fix 127 = .ok (.iload 7, 2) := by decide +kernel
theorem dX7_fix_129 : decode cX7_fix 129 = .ok (.iaload, 1) := by decide +kernel
theorem dX7_fix_130 : decode cX7_fix 130 = .ok (.iastore, 1) := by decide +kernel
theorem dX7_fix_131 : decode cX7_fix 131 = .ok (.iinc 7 1, 3) := by decide +kernel
theorem dX7_fix_134 : decode cX7_fix 134 = .ok (.goto (-24), 3) := by decide +kernel
theorem dX7_fix_137 : decode cX7_fix 137 = .ok (.iinc 5 1, 3) := by decide +kernel
theorem dX7_fix_140 : decode cX7_fix 140 = .ok (.goto (-73), 3) := by decide +kernel
theorem dX7_fix_143 : decode cX7_fix 143 = .ok (.iload_n 2, 1) := by decide +kernel
theorem dX7_fix_144 : decode cX7_fix 144 = .ok (.ifCond .lt 10, 3) := by decide +kernel
theorem dX7_fix_147 : decode cX7_fix 147 = .ok (.iload 4, 2) := by decide +kernel
theorem dX7_fix_149 : decode cX7_fix 149 = .ok (.bipush (-4), 2) := by decide +kernel
theorem dX7_fix_151 : decode cX7_fix 151 = .ok (.if_icmp .ne 8, 3) := by decide +kernel
theorem dX7_fix_154 : decode cX7_fix 154 = .ok (.iload 4, 2) := by decide +kernel
theorem dX7_fix_156 : decode cX7_fix 156 = .ok (.goto 9, 3) := by decide +kernel
theorem dX7_fix_159 : decode cX7_fix 159 = .ok (.aload_n 0, 1) := by decide +kernel
theorem dX7_fix_160 : decode cX7_fix 160 = .ok (.getfield 31, 3) := by decide +kernel
theorem dX7_fix_163 : decode cX7_fix 163 = .ok (.iload_n 2, 1) := by decide +kernel
theorem dX7_fix_164 : decode cX7_fix 164 = .ok (.iaload, 1) := by decide +kernel
theorem dX7_fix_165 : decode cX7_fix 165 = .ok (.ireturn, 1) := by decide +kernel
theorem dX7_free_0 : decode cX7_free 0 = .ok (.iload_n 1, 1) := by decide +kernel
theorem dX7_free_1 : decode cX7_free 1 = .ok (.i2l, 1) := by decide +kernel
theorem dX7_free_2 : decode cX7_free 2 = .ok (.lconst 1, 1) := by decide +kernel
theorem dX7_free_3 : decode cX7_free 3 = .ok (.ldc2_w 198, 3) := by decide +kernel
theorem dX7_free_6 : decode cX7_free 6 = .ok (.invokestatic 53, 3) := by decide +kernel
theorem dX7_free_9 : decode cX7_free 9 = .ok (.ifCond .eq 15, 3) := by decide +kernel
theorem dX7_free_12 : decode cX7_free 12 = .ok (.iload_n 2, 1) := by decide +kernel
theorem dX7_free_13 : decode cX7_free 13 = .ok (.i2l, 1) := by decide +kernel
theorem dX7_free_14 : decode cX7_free 14 = .ok (.lconst 0, 1) := by decide +kernel
theorem dX7_free_15 : decode cX7_free 15 = .ok (.ldc2_w 200, 3) := by decide +kernel
