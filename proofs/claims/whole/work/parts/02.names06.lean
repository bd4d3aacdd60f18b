theorem dX7_free_18 : decode cX7_free 18 = .ok (.invokestatic 53, 3) := by decide +kernel
theorem dX7_free_21 : decode cX7_free 21 = .ok (.ifCond .ne 7, 3) := by decide +kernel
theorem dX7_free_24 : decode cX7_free 24 = .ok (.ldc2_w 193, 3) := by decide +kernel
theorem dX7_free_27 : decode cX7_free 27 = .ok (.lreturn, 1) := by decide +kernel
theorem dX7_free_28 : decode cX7_free 28 = .ok (.lconst 0, 1) := by decide +kernel
theorem dX7_free_29 : decode cX7_free 29 = .ok (.lstore_n 3, 1) := by decide +kernel
theorem dX7_free_30 : decode cX7_free 30 = .ok (.lconst 0, 1) := by decide +kernel
theorem dX7_free_31 : decode cX7_free 31 = .ok (.lstore 5, 2) := by decide +kernel
theorem dX7_free_33 : decode cX7_free 33 = .ok (.ldc2_w 202, 3) := by decide +kernel
theorem dX7_free_36 : decode cX7_free 36 = .ok (.lstore 7, 2) := by decide +kernel
theorem dX7_free_38 : decode cX7_free 38 = .ok (.bipush 59, 2) := by decide +kernel
theorem dX7_free_40 : decode cX7_free 40 = .ok (.istore 9, 2) := by decide +kernel
theorem dX7_free_42 : decode cX7_free 42 = .ok (.iload 9, 2) := by decide +kernel
theorem dX7_free_44 : decode cX7_free 44 = .ok (.ifCond .lt 105, 3) := by decide +kernel
theorem dX7_free_47 : decode cX7_free 47 = .ok (.iconst 1, 1) := by decide +kernel
theorem dX7_free_48 : decode cX7_free 48 = .ok (.istore 10, 2) := by decide +kernel
theorem dX7_free_50 : decode cX7_free 50 = .ok (.iconst 0, 1) := by decide +kernel
theorem dX7_free_51 : decode cX7_free 51 = .ok (.istore 11, 2) := by decide +kernel
theorem dX7_free_53 : decode cX7_free 53 = .ok (.iload 11, 2) := by decide +kernel
theorem dX7_free_55 : decode cX7_free 55 = .ok (.aload_n 0, 1) := by decide +kernel
theorem dX7_free_56 : decode cX7_free 56 = .ok (.getfield 7, 3) := by decide +kernel
theorem dX7_free_59 : decode cX7_free 59 = .ok (.iconst 0, 1) := by decide +kernel
theorem dX7_free_60 : decode cX7_free 60 = .ok (.iaload, 1) := by decide +kernel
theorem dX7_free_61 : decode cX7_free 61 = .ok (.if_icmp .ge 36, 3) := by decide +kernel
theorem dX7_free_64 : decode cX7_free 64 = .ok (.iload 10, 2) := by decide +kernel
theorem dX7_free_66 : decode cX7_free 66 = .ok (.ifCond .eq 22, 3) := by decide +kernel
theorem dX7_free_69 : decode cX7_free 69 = .ok (.aload_n 0, 1) := by decide +kernel
theorem dX7_free_70 : decode cX7_free 70 = .ok (.iload 11, 2) := by decide +kernel
theorem dX7_free_72 : decode cX7_free 72 = .ok (.invokevirtual 65, 3) := by decide +kernel
theorem dX7_free_75 : decode cX7_free 75 = .ok (.iload 9, 2) := by decide +kernel
theorem dX7_free_77 : decode cX7_free 77 = .ok (.invokestatic 68, 3) := by decide +kernel
theorem dX7_free_80 : decode cX7_free 80 = .ok (.iload_n 1, 1) := by decide +kernel
theorem dX7_free_81 : decode cX7_free 81 = .ok (.if_icmp .lt 7, 3) := by decide +kernel
theorem dX7_free_84 : decode cX7_free 84 = .ok (.iconst 1, 1) := by decide +kernel
theorem dX7_free_85 : decode cX7_free 85 = .ok (.goto 4, 3) := by decide +kernel
theorem dX7_free_88 : decode cX7_free 88 = .ok (.iconst 0, 1) := by decide +kernel
theorem dX7_free_89 : decode cX7_free 89 = .ok (.istore 10, 2) := by decide +kernel
theorem dX7_free_91 : decode cX7_free 91 = .ok (.iinc 11 1, 3) := by decide +kernel
theorem dX7_free_94 : decode cX7_free 94 = .ok (.goto (-41), 3) := by decide +kernel
theorem dX7_free_97 : decode cX7_free 97 = .ok (.lload_n 3, 1) := by decide +kernel
theorem dX7_free_98 : decode cX7_free 98 = .ok (.iload 10, 2) := by decide +kernel
theorem dX7_free_100 : decode cX7_free 100 = .ok (.ifCond .eq 10, 3) := by decide +kernel
theorem dX7_free_103 : decode cX7_free 103 = .ok (.lconst 1, 1) := by decide +kernel
theorem dX7_free_104 : decode cX7_free 104 = .ok (.iload 9, 2) := by decide +kernel
theorem dX7_free_106 : decode cX7_free 106 = .ok (.lshl, 1) := by decide +kernel
theorem dX7_free_107 : decode cX7_free 107 = .ok (.goto 4, 3) := by decide +kernel
theorem dX7_free_110 : decode cX7_free 110 = .ok (.lconst 0, 1) := by decide +kernel
theorem dX7_free_111 : decode cX7_free 111 = .ok (.lor, 1) := by decide +kernel
theorem dX7_free_112 : decode cX7_free 112 = .ok (.lstore_n 3, 1) := by decide +kernel
theorem dX7_free_113 : decode cX7_free 113 = .ok (.lload 5, 2) := by decide +kernel
theorem dX7_free_115 : decode cX7_free 115 = .ok (.iload 10, 2) := by decide +kernel
theorem dX7_free_117 : decode cX7_free 117 = .ok (.ifCond .eq 7, 3) := by decide +kernel
theorem dX7_free_120 : decode cX7_free 120 = .ok (.lconst 1, 1) := by decide +kernel
theorem dX7_free_121 : decode cX7_free 121 = .ok (.goto 4, 3) := by decide +kernel
theorem dX7_free_124 : decode cX7_free 124 = .ok (.lconst 0, 1) := by decide +kernel
theorem dX7_free_125 : decode cX7_free 125 = .ok (.ladd, 1) := by decide +kernel
theorem dX7_free_126 : decode cX7_free 126 = .ok (.lstore 5, 2) := by decide +kernel
theorem dX7_free_128 : decode cX7_free 128 = .ok (.iload 10, 2) := by decide +kernel
theorem dX7_free_130 : decode cX7_free 130 = .ok (.ifCond .eq 9, 3) := by decide +kernel
theorem dX7_free_133 : decode cX7_free 133 = .ok (.iload 9, 2) := by decide +kernel
theorem dX7_free_135 : decode cX7_free 135 = .ok (.i2l, 1) := by decide +kernel
theorem dX7_free_136 : decode cX7_free 136 = .ok (.goto 5, 3) := by decide +kernel
theorem dX7_free_139 : decode cX7_free 139 = .ok (.lload 7, 2) := by decide +kernel
theorem dX7_free_141 : decode cX7_free 141 = .ok (.lstore 7, 2) := by decide +kernel
theorem dX7_free_143 : decode cX7_free 143 = .ok (.iinc 9 (-1), 3) := by decide +kernel
theorem dX7_free_146 : decode cX7_free 146 = .ok (.goto (-104), 3) := by decide +kernel
theorem dX7_free_149 : decode cX7_free 149 = .ok (.iload_n 2, 1) := by decide +kernel
theorem dX7_free_150 : decode cX7_free 150 = .ok (.ifCond .ne 7, 3) := by decide +kernel
theorem dX7_free_153 : decode cX7_free 153 = .ok (.lload_n 3, 1) := by decide +kernel
theorem dX7_free_154 : decode cX7_free 154 = .ok (.goto 15, 3) := by decide +kernel
theorem dX7_free_157 : decode cX7_free 157 = .ok (.iload_n 2, 1) := by decide +kernel
theorem dX7_free_158 : decode cX7_free 158 = .ok (.iconst 1, 1) := by decide +kernel
theorem dX7_free_159 : decode cX7_free 159 = .ok (.if_icmp .ne 8, 3) := by decide +kernel
theorem dX7_free_162 : decode cX7_free 162 = .ok (.lload 5, 2) := by decide +kernel
theorem dX7_free_164 : decode cX7_free 164 = .ok (.goto 5, 3) := by decide +kernel
theorem dX7_free_167 : decode cX7_free 167 = .ok (.lload 7, 2) := by decide +kernel
theorem dX7_free_169 : decode cX7_free 169 = .ok (.lreturn, 1) := by decide +kernel
theorem dX7_isOrder_0 : decode cX7_isOrder 0 = .ok (.iload_n 1, 1) := by decide +kernel
theorem dX7_isOrder_1 : decode cX7_isOrder 1 = .ok (.istore_n 2, 1) := by decide +kernel
theorem dX7_isOrder_2 : decode cX7_isOrder 2 = .ok (.iconst 0, 1) := by decide +kernel
theorem dX7_isOrder_3 : decode cX7_isOrder 3 = .ok (.istore_n 3, 1) := by decide +kernel
theorem dX7_isOrder_4 : decode cX7_isOrder 4 = .ok (.aload_n 0, 1) := by decide +kernel
theorem dX7_isOrder_5 : decode cX7_isOrder 5 = .ok (.getfield 7, 3) := by decide +kernel
theorem dX7_isOrder_8 : decode cX7_isOrder 8 = .ok (.iconst 0, 1) := by decide +kernel
theorem dX7_isOrder_9 : decode cX7_isOrder 9 = .ok (.iaload, 1) := by decide +kernel
theorem dX7_isOrder_10 : decode cX7_isOrder 10 = .ok (.iconst 1, 1) := by decide +kernel
theorem dX7_isOrder_11 : decode cX7_isOrder 11 = .ok (.isub, 1) := by decide +kernel
theorem dX7_isOrder_12 : decode cX7_isOrder 12 = .ok (.istore 4, 2) := by decide +kernel
theorem dX7_isOrder_14 : decode cX7_isOrder 14 = .ok (.iload 4, 2) := by decide +kernel
theorem dX7_isOrder_16 : decode cX7_isOrder 16 = .ok (.ifCond .lt 45, 3) := by decide +kernel
theorem dX7_isOrder_19 : decode cX7_isOrder 19 = .ok (.aload_n 0, 1) := by decide +kernel
theorem dX7_isOrder_20 : decode cX7_isOrder 20 = .ok (.getfield 34, 3) := by decide +kernel
theorem dX7_isOrder_23 : decode cX7_isOrder 23 = .ok (.iload 4, 2) := by decide +kernel
theorem dX7_isOrder_25 : decode cX7_isOrder 25 = .ok (.iload_n 2, 1) := by decide +kernel
theorem dX7_isOrder_26 : decode cX7_isOrder 26 = .ok (.aload_n 0, 1) := by decide +kernel
theorem dX7_isOrder_27 : decode cX7_isOrder 27 = .ok (.getfield 7, 3) := by decide +kernel
theorem dX7_isOrder_30 : decode cX7_isOrder 30 = .ok (.iconst 0, 1) := by decide +kernel
theorem dX7_isOrder_31 : decode cX7_isOrder 31 = .ok (.iaload, 1) := by decide +kernel
theorem dX7_isOrder_32 : decode cX7_isOrder 32 = .ok (.irem, 1) := by decide +kernel
theorem dX7_isOrder_33 : decode cX7_isOrder 33 = .ok (.iastore, 1) := by decide +kernel
theorem dX7_isOrder_34 : decode cX7_isOrder 34 = .ok (.iload_n 3, 1) := by decide +kernel
theorem dX7_isOrder_35 : decode cX7_isOrder 35 = .ok (.iconst 1, 1) := by decide +kernel
theorem dX7_isOrder_36 : decode cX7_isOrder 36 = .ok (.aload_n 0, 1) := by decide +kernel
theorem dX7_isOrder_37 : decode cX7_isOrder 37 = .ok (.getfield 34, 3) := by decide +kernel
theorem dX7_isOrder_40 : decode cX7_isOrder 40 = .ok (.iload 4, 2) := by decide +kernel
theorem dX7_isOrder_42 : decode cX7_isOrder 42 = .ok (.iaload, 1) := by decide +kernel
theorem dX7_isOrder_43 : decode cX7_isOrder 43 = .ok (.ishl, 1) := by decide +kernel
theorem dX7_isOrder_44 : decode cX7_isOrder 44 = .ok (.ior, 1) := by decide +kernel
theorem dX7_isOrder_45 : decode cX7_isOrder 45 = .ok (.istore_n 3, 1) := by decide +kernel
theorem dX7_isOrder_46 : decode cX7_isOrder 46 = .ok (.iload_n 2, 1) := by decide +kernel
theorem dX7_isOrder_47 : decode cX7_isOrder 47 = .ok (.aload_n 0, 1) := by decide +kernel
theorem dX7_isOrder_48 : decode cX7_isOrder 48 = .ok (.getfield 7, 3) := by decide +kernel
theorem dX7_isOrder_51 : decode cX7_isOrder 51 = .ok (.iconst 0, 1) := by decide +kernel
theorem dX7_isOrder_52 : decode cX7_isOrder 52 = .ok (.iaload, 1) := by decide +kernel
theorem dX7_isOrder_53 : decode cX7_isOrder 53 = .ok (.idiv, 1) := by decide +kernel
theorem dX7_isOrder_54 : decode cX7_isOrder 54 = .ok (.istore_n 2, 1) := by decide +kernel
theorem dX7_isOrder_55 : decode cX7_isOrder 55 = .ok (.iinc 4 (-1), 3) := by decide +kernel
theorem dX7_isOrder_58 : decode cX7_isOrder 58 = .ok (.goto (-44), 3) := by decide +kernel
theorem dX7_isOrder_61 : decode cX7_isOrder 61 = .ok (.iload_n 3, 1) := by decide +kernel
theorem dX7_isOrder_62 : decode cX7_isOrder 62 = .ok (.iconst 1, 1) := by decide +kernel
theorem dX7_isOrder_63 : decode cX7_isOrder 63 = .ok (.aload_n 0, 1) := by decide +kernel
theorem dX7_isOrder_64 : decode cX7_isOrder 64 = .ok (.getfield 7, 3) := by decide +kernel
theorem dX7_isOrder_67 : decode cX7_isOrder 67 = .ok (.iconst 0, 1) := by decide +kernel
theorem dX7_isOrder_68 : decode cX7_isOrder 68 = .ok (.iaload, 1) := by decide +kernel
theorem dX7_isOrder_69 : decode cX7_isOrder 69 = .ok (.ishl, 1) := by decide +kernel
theorem dX7_isOrder_70 : decode cX7_isOrder 70 = .ok (.iconst 1, 1) := by decide +kernel
theorem dX7_isOrder_71 : decode cX7_isOrder 71 = .ok (.isub, 1) := by decide +kernel
theorem dX7_isOrder_72 : decode cX7_isOrder 72 = .ok (.if_icmp .ne 7, 3) := by decide +kernel
theorem dX7_isOrder_75 : decode cX7_isOrder 75 = .ok (.iconst 1, 1) := by decide +kernel
theorem dX7_isOrder_76 : decode cX7_isOrder 76 = .ok (.goto 4, 3) := by decide +kernel
theorem dX7_isOrder_79 : decode cX7_isOrder 79 = .ok (.iconst 0, 1) := by decide +kernel
theorem dX7_isOrder_80 : decode cX7_isOrder 80 = .ok (.ireturn, 1) := by decide +kernel
theorem dX7_hears_0 : decode cX7_hears 0 = .ok (.iload_n 1, 1) := by decide +kernel
theorem dX7_hears_1 : decode cX7_hears 1 = .ok (.istore 4, 2) := by decide +kernel
theorem dX7_hears_3 : decode cX7_hears 3 = .ok (.iconst 0, 1) := by decide +kernel
theorem dX7_hears_4 : decode cX7_hears 4 = .ok (.istore 5, 2) := by decide +kernel
theorem dX7_hears_6 : decode cX7_hears 6 = .ok (.iconst 0, 1) := by decide +kernel
theorem dX7_hears_7 : decode cX7_hears 7 = .ok (.istore 6, 2) := by decide +kernel
theorem dX7_hears_9 : decode cX7_hears 9 = .ok (.iload 6, 2) := by decide +kernel
theorem dX7_hears_11 : decode cX7_hears 11 = .ok (.aload_n 0, 1) := by decide +kernel
theorem dX7_hears_12 : decode cX7_hears 12 = .ok (.getfield 7, 3) := by decide +kernel
theorem dX7_hears_15 : decode cX7_hears 15 = .ok (.iconst 0, 1) := by decide +kernel
theorem dX7_hears_16 : decode cX7_hears 16 = .ok (.iaload, 1) := by decide +kernel
theorem dX7_hears_17 : decode cX7_hears 17 = .ok (.if_icmp .ge 56, 3) := by decide +kernel
theorem dX7_hears_20 : decode cX7_hears 20 = .ok (.aload_n 0, 1) := by decide +kernel
theorem dX7_hears_21 : decode cX7_hears 21 = .ok (.getfield 34, 3) := by decide +kernel
theorem dX7_hears_24 : decode cX7_hears 24 = .ok (.iload 6, 2) := by decide +kernel
theorem dX7_hears_26 : decode cX7_hears 26 = .ok (.iaload, 1) := by decide +kernel
theorem dX7_hears_27 : decode cX7_hears 27 = .ok (.istore 7, 2) := by decide +kernel
theorem dX7_hears_29 : decode cX7_hears 29 = .ok (.iload 5, 2) := by decide +kernel
theorem dX7_hears_31 : decode cX7_hears 31 = .ok (.iload_n 3, 1) := by decide +kernel
theorem dX7_hears_32 : decode cX7_hears 32 = .ok (.aload_n 0, 1) := by decide +kernel
theorem dX7_hears_33 : decode cX7_hears 33 = .ok (.iload 4, 2) := by decide +kernel
theorem dX7_hears_35 : decode cX7_hears 35 = .ok (.iload 7, 2) := by decide +kernel
theorem dX7_hears_37 : decode cX7_hears 37 = .ok (.invokevirtual 75, 3) := by decide +kernel
theorem dX7_hears_40 : decode cX7_hears 40 = .ok (.imul, 1) := by decide +kernel
theorem dX7_hears_41 : decode cX7_hears 41 = .ok (.iadd, 1) := by decide +kernel
theorem dX7_hears_42 : decode cX7_hears 42 = .ok (.istore 5, 2) := by decide +kernel
theorem dX7_hears_44 : decode cX7_hears 44 = .ok (.iload 5, 2) := by decide +kernel
theorem dX7_hears_46 : decode cX7_hears 46 = .ok (.aload_n 0, 1) := by decide +kernel
theorem dX7_hears_47 : decode cX7_hears 47 = .ok (.iload 7, 2) := by decide +kernel
theorem dX7_hears_49 : decode cX7_hears 49 = .ok (.invokevirtual 65, 3) := by decide +kernel
theorem dX7_hears_52 : decode cX7_hears 52 = .ok (.iload_n 2, 1) := by decide +kernel
theorem dX7_hears_53 : decode cX7_hears 53 = .ok (.isub, 1) := by decide +kernel
theorem dX7_hears_54 : decode cX7_hears 54 = .ok (.iload 5, 2) := by decide +kernel
theorem dX7_hears_56 : decode cX7_hears 56 = .ok (.isub, 1) := by decide +kernel
theorem dX7_hears_57 : decode cX7_hears 57 = .ok (.invokestatic 61, 3) := by decide +kernel
theorem dX7_hears_60 : decode cX7_hears 60 = .ok (.iadd, 1) := by decide +kernel
theorem dX7_hears_61 : decode cX7_hears 61 = .ok (.istore 5, 2) := by decide +kernel
theorem dX7_hears_63 : decode cX7_hears 63 = .ok (.iload 7, 2) := by decide +kernel
theorem dX7_hears_65 : decode cX7_hears 65 = .ok (.istore 4, 2) := by decide +kernel
theorem dX7_hears_67 : decode cX7_hears 67 = .ok (.iinc 6 1, 3) := by decide +kernel
theorem dX7_hears_70 : decode cX7_hears 70 = .ok (.goto (-61), 3) := by decide +kernel
theorem dX7_hears_73 : decode cX7_hears 73 = .ok (.iload 5, 2) := by decide +kernel
theorem dX7_hears_75 : decode cX7_hears 75 = .ok (.ireturn, 1) := by decide +kernel
theorem dX7_hear_0 : decode cX7_hear 0 = .ok (.aload_n 0, 1) := by decide +kernel
theorem dX7_hear_1 : decode cX7_hear 1 = .ok (.iload_n 1, 1) := by decide +kernel
theorem dX7_hear_2 : decode cX7_hear 2 = .ok (.invokevirtual 107, 3) := by decide +kernel
theorem dX7_hear_5 : decode cX7_hear 5 = .ok (.ifCond .eq 33, 3) := by decide +kernel
theorem dX7_hear_8 : decode cX7_hear 8 = .ok (.iload_n 2, 1) := by decide +kernel
theorem dX7_hear_9 : decode cX7_hear 9 = .ok (.i2l, 1) := by decide +kernel
theorem dX7_hear_10 : decode cX7_hear 10 = .ok (.lconst 0, 1) := by decide +kernel
theorem dX7_hear_11 : decode cX7_hear 11 = .ok (.ldc2_w 97, 3) := by decide +kernel
theorem dX7_hear_14 : decode cX7_hear 14 = .ok (.invokestatic 53, 3) := by decide +kernel
theorem dX7_hear_17 : decode cX7_hear 17 = .ok (.ifCond .eq 21, 3) := by decide +kernel
theorem dX7_hear_20 : decode cX7_hear 20 = .ok (.iload_n 3, 1) := by decide +kernel
theorem dX7_hear_21 : decode cX7_hear 21 = .ok (.i2l, 1) := by decide +kernel
theorem dX7_hear_22 : decode cX7_hear 22 = .ok (.lconst 1, 1) := by decide +kernel
theorem dX7_hear_23 : decode cX7_hear 23 = .ok (.ldc2_w 101, 3) := by decide +kernel
theorem dX7_hear_26 : decode cX7_hear 26 = .ok (.invokestatic 53, 3) := by decide +kernel
theorem dX7_hear_29 : decode cX7_hear 29 = .ok (.ifCond .eq 9, 3) := by decide +kernel
theorem dX7_hear_32 : decode cX7_hear 32 = .ok (.iload 4, 2) := by decide +kernel
theorem dX7_hear_34 : decode cX7_hear 34 = .ok (.iconst (-1), 1) := by decide +kernel
theorem dX7_hear_35 : decode cX7_hear 35 = .ok (.if_icmp .ge 5, 3) := by decide +kernel
theorem dX7_hear_38 : decode cX7_hear 38 = .ok (.iconst (-1), 1) := by decide +kernel
theorem dX7_hear_39 : decode cX7_hear 39 = .ok (.ireturn, 1) := by decide +kernel
theorem dX7_hear_40 : decode cX7_hear 40 = .ok (.iconst 1, 1) := by decide +kernel
theorem dX7_hear_41 : decode cX7_hear 41 = .ok (.istore 5, 2) := by decide +kernel
theorem dX7_hear_43 : decode cX7_hear 43 = .ok (.iconst 0, 1) := by decide +kernel
theorem dX7_hear_44 : decode cX7_hear 44 = .ok (.istore 6, 2) := by decide +kernel
theorem dX7_hear_46 : decode cX7_hear 46 = .ok (.iload 6, 2) := by decide +kernel
theorem dX7_hear_48 : decode cX7_hear 48 = .ok (.aload_n 0, 1) := by decide +kernel
theorem dX7_hear_49 : decode cX7_hear 49 = .ok (.getfield 7, 3) := by decide +kernel
theorem dX7_hear_52 : decode cX7_hear 52 = .ok (.iconst 0, 1) := by decide +kernel
theorem dX7_hear_53 : decode cX7_hear 53 = .ok (.iaload, 1) := by decide +kernel
theorem dX7_hear_54 : decode cX7_hear 54 = .ok (.if_icmp .ge 20, 3) := by decide +kernel
theorem dX7_hear_57 : decode cX7_hear 57 = .ok (.iload 5, 2) := by decide +kernel
theorem dX7_hear_59 : decode cX7_hear 59 = .ok (.aload_n 0, 1) := by decide +kernel
theorem dX7_hear_60 : decode cX7_hear 60 = .ok (.getfield 7, 3) := by decide +kernel
theorem dX7_hear_63 : decode cX7_hear 63 = .ok (.iconst 0, 1) := by decide +kernel
theorem dX7_hear_64 : decode cX7_hear 64 = .ok (.iaload, 1) := by decide +kernel
theorem dX7_hear_65 : decode cX7_hear 65 = .ok (.imul, 1) := by decide +kernel
theorem dX7_hear_66 : decode cX7_hear 66 = .ok (.istore 5, 2) := by decide +kernel
theorem dX7_hear_68 : decode cX7_hear 68 = .ok (.iinc 6 1, 3) := by decide +kernel
theorem dX7_hear_71 : decode cX7_hear 71 = .ok (.goto (-25), 3) := by decide +kernel
theorem dX7_hear_74 : decode cX7_hear 74 = .ok (.iconst (-1), 1) := by decide +kernel
theorem dX7_hear_75 : decode cX7_hear 75 = .ok (.istore 6, 2) := by decide +kernel
theorem dX7_hear_77 : decode cX7_hear 77 = .ok (.iconst 0, 1) := by decide +kernel
theorem dX7_hear_78 : decode cX7_hear 78 = .ok (.istore 7, 2) := by decide +kernel
theorem dX7_hear_80 : decode cX7_hear 80 = .ok (.iload 7, 2) := by decide +kernel
theorem dX7_hear_82 : decode cX7_hear 82 = .ok (.iload 5, 2) := by decide +kernel
theorem dX7_hear_84 : decode cX7_hear 84 = .ok (.if_icmp .ge 73, 3) := by decide +kernel
theorem dX7_hear_87 : decode cX7_hear 87 = .ok (.aload_n 0, 1) := by decide +kernel
theorem dX7_hear_88 : decode cX7_hear 88 = .ok (.iload 7, 2) := by decide +kernel
theorem dX7_hear_90 : decode cX7_hear 90 = .ok (.invokevirtual 204, 3) := by decide +kernel
theorem dX7_hear_93 : decode cX7_hear 93 = .ok (.ifCond .eq 58, 3) := by decide +kernel
theorem dX7_hear_96 : decode cX7_hear 96 = .ok (.aload_n 0, 1) := by decide +kernel
theorem dX7_hear_97 : decode cX7_hear 97 = .ok (.iload_n 1, 1) := by decide +kernel
theorem dX7_hear_98 : decode cX7_hear 98 = .ok (.iload_n 2, 1) := by decide +kernel
theorem dX7_hear_99 : decode cX7_hear 99 = .ok (.iload_n 3, 1) := by decide +kernel
theorem dX7_hear_100 : decode cX7_hear 100 = .ok (.invokevirtual 207, 3) := by decide +kernel
theorem dX7_hear_103 : decode cX7_hear 103 = .ok (.istore 8, 2) := by decide +kernel
theorem dX7_hear_105 : decode cX7_hear 105 = .ok (.iload 6, 2) := by decide +kernel
theorem dX7_hear_107 : decode cX7_hear 107 = .ok (.ifCond .lt 10, 3) := by decide +kernel
theorem dX7_hear_110 : decode cX7_hear 110 = .ok (.iload 8, 2) := by decide +kernel
theorem dX7_hear_112 : decode cX7_hear 112 = .ok (.iload 6, 2) := by decide +kernel
theorem dX7_hear_114 : decode cX7_hear 114 = .ok (.if_icmp .ge 37, 3) := by decide +kernel
theorem dX7_hear_117 : decode cX7_hear 117 = .ok (.iload 8, 2) := by decide +kernel
theorem dX7_hear_119 : decode cX7_hear 119 = .ok (.istore 6, 2) := by decide +kernel
theorem dX7_hear_121 : decode cX7_hear 121 = .ok (.iconst 0, 1) := by decide +kernel
theorem dX7_hear_122 : decode cX7_hear 122 = .ok (.istore 9, 2) := by decide +kernel
theorem dX7_hear_124 : decode cX7_hear 124 = .ok (.iload 9, 2) := by decide +kernel
theorem dX7_hear_126 : decode cX7_hear 126 = .ok (.bipush 6, 2) := by decide +kernel
theorem dX7_hear_128 : decode cX7_hear 128 = .ok (.if_icmp .ge 23, 3) := by decide +kernel
theorem dX7_hear_131 : decode cX7_hear 131 = .ok (.aload_n 0, 1) := by decide +kernel
theorem dX7_hear_132 : decode cX7_hear 132 = .ok (.getfield 31, 3) := by decide +kernel
theorem dX7_hear_135 : decode cX7_hear 135 = .ok (.iload 9, 2) := by decide +kernel
theorem dX7_hear_137 : decode cX7_hear 137 = .ok (.aload_n 0, 1) := by decide +kernel
theorem dX7_hear_138 : decode cX7_hear 138 = .ok (.getfield 34, 3) := by decide +kernel
theorem dX7_hear_141 : decode cX7_hear 141 = .ok (.iload 9, 2) := by decide +kernel
theorem dX7_hear_143 : decode cX7_hear 143 = .ok (.iaload, 1) := by decide +kernel
theorem dX7_hear_144 : decode cX7_hear 144 = .ok (.iastore, 1) := by decide +kernel
theorem dX7_hear_145 : decode cX7_hear 145 = .ok (.iinc 9 1, 3) := by decide +kernel
theorem dX7_hear_148 : decode cX7_hear 148 = .ok (.goto (-24), 3) := by decide +kernel
theorem dX7_hear_151 : decode cX7_hear 151 = .ok (.iinc 7 1, 3) := by decide +kernel
theorem dX7_hear_154 : decode cX7_hear 154 = .ok (.goto (-74), 3) := by decide +kernel
theorem dX7_hear_157 : decode cX7_hear 157 = .ok (.iload 4, 2) := by decide +kernel
theorem dX7_hear_159 : decode cX7_hear 159 = .ok (.ifCond .ge 8, 3) := by decide +kernel
theorem dX7_hear_162 : decode cX7_hear 162 = .ok (.iload 6, 2) := by decide +kernel
theorem dX7_hear_164 : decode cX7_hear 164 = .ok (.goto 26, 3) := by decide +kernel
theorem dX7_hear_167 : decode cX7_hear 167 = .ok (.iload 4, 2) := by decide +kernel
theorem dX7_hear_169 : decode cX7_hear 169 = .ok (.aload_n 0, 1) := by decide +kernel
theorem dX7_hear_170 : decode cX7_hear 170 = .ok (.getfield 7, 3) := by decide +kernel
theorem dX7_hear_173 : decode cX7_hear 173 = .ok (.iconst 0, 1) := by decide +kernel
theorem dX7_hear_174 : decode cX7_hear 174 = .ok (.iaload, 1) := by decide +kernel
theorem dX7_hear_175 : decode cX7_hear 175 = .ok (.if_icmp .ge 13, 3) := by decide +kernel
theorem dX7_hear_178 : decode cX7_hear 178 = .ok (.aload_n 0, 1) := by decide +kernel
theorem dX7_hear_179 : decode cX7_hear 179 = .ok (.getfield 31, 3) := by decide +kernel
theorem dX7_hear_182 : decode cX7_hear 182 = .ok (.iload 4, 2) := by decide +kernel
theorem dX7_hear_184 : decode cX7_hear 184 = .ok (.iaload, 1) := by decide +kernel
theorem dX7_hear_185 : decode cX7_hear 185 = .ok (.goto 5, 3) := by decide +kernel
theorem dX7_hear_188 : decode cX7_hear 188 = .ok (.bipush (-4), 2) := by decide +kernel
theorem dX7_hear_190 : decode cX7_hear 190 = .ok (.ireturn, 1) := by decide +kernel
theorem dX7_isAsAside_0 : decode cX7_isAsAside 0 = .ok (.iconst 1, 1) := by decide +kernel
theorem dX7_isAsAside_1 : decode cX7_isAsAside 1 = .ok (.istore_n 1, 1) := by decide +kernel
theorem dX7_isAsAside_2 : decode cX7_isAsAside 2 = .ok (.iconst 0, 1) := by decide +kernel
theorem dX7_isAsAside_3 : decode cX7_isAsAside 3 = .ok (.istore_n 2, 1) := by decide +kernel
theorem dX7_isAsAside_4 : decode cX7_isAsAside 4 = .ok (.iload_n 2, 1) := by decide +kernel
theorem dX7_isAsAside_5 : decode cX7_isAsAside 5 = .ok (.aload_n 0, 1) := by decide +kernel
theorem dX7_isAsAside_6 : decode cX7_isAsAside 6 = .ok (.getfield 7, 3) := by decide +kernel
theorem dX7_isAsAside_9 : decode cX7_isAsAside 9 = .ok (.iconst 0, 1) := by decide +kernel
theorem dX7_isAsAside_10 : decode cX7_isAsAside 10 = .ok (.iaload, 1) := by decide +kernel
theorem dX7_isAsAside_11 : decode cX7_isAsAside 11 = .ok (.if_icmp .ge 39, 3) := by decide +kernel
theorem dX7_isAsAside_14 : decode cX7_isAsAside 14 = .ok (.iload_n 1, 1) := by decide +kernel
theorem dX7_isAsAside_15 : decode cX7_isAsAside 15 = .ok (.ifCond .eq 27, 3) := by decide +kernel
theorem dX7_isAsAside_18 : decode cX7_isAsAside 18 = .ok (.aload_n 0, 1) := by decide +kernel
theorem dX7_isAsAside_19 : decode cX7_isAsAside 19 = .ok (.iload_n 2, 1) := by decide +kernel
theorem dX7_isAsAside_20 : decode cX7_isAsAside 20 = .ok (.invokevirtual 65, 3) := by decide +kernel
theorem dX7_isAsAside_23 : decode cX7_isAsAside 23 = .ok (.aload_n 0, 1) := by decide +kernel
theorem dX7_isAsAside_24 : decode cX7_isAsAside 24 = .ok (.getfield 25, 3) := by decide +kernel
theorem dX7_isAsAside_27 : decode cX7_isAsAside 27 = .ok (.iconst 3, 1) := by decide +kernel
theorem dX7_isAsAside_28 : decode cX7_isAsAside 28 = .ok (.iconst 4, 1) := by decide +kernel
theorem dX7_isAsAside_29 : decode cX7_isAsAside 29 = .ok (.iload_n 2, 1) := by decide +kernel
theorem dX7_isAsAside_30 : decode cX7_isAsAside 30 = .ok (.imul, 1) := by decide +kernel
theorem dX7_isAsAside_31 : decode cX7_isAsAside 31 = .ok (.iadd, 1) := by decide +kernel
theorem dX7_isAsAside_32 : decode cX7_isAsAside 32 = .ok (.iconst 1, 1) := by decide +kernel
theorem dX7_isAsAside_33 : decode cX7_isAsAside 33 = .ok (.iadd, 1) := by decide +kernel
theorem dX7_isAsAside_34 : decode cX7_isAsAside 34 = .ok (.iaload, 1) := by decide +kernel
theorem dX7_isAsAside_35 : decode cX7_isAsAside 35 = .ok (.if_icmp .ne 7, 3) := by decide +kernel
theorem dX7_isAsAside_38 : decode cX7_isAsAside 38 = .ok (.iconst 1, 1) := by decide +kernel
theorem dX7_isAsAside_39 : decode cX7_isAsAside 39 = .ok (.goto 4, 3) := by decide +kernel
theorem dX7_isAsAside_42 : decode cX7_isAsAside 42 = .ok (.iconst 0, 1) := by decide +kernel
theorem dX7_isAsAside_43 : decode cX7_isAsAside 43 = .ok (.istore_n 1, 1) := by decide +kernel
theorem dX7_isAsAside_44 : decode cX7_isAsAside 44 = .ok (.iinc 2 1, 3) := by decide +kernel
theorem dX7_isAsAside_47 : decode cX7_isAsAside 47 = .ok (.goto (-43), 3) := by decide +kernel
theorem dX7_isAsAside_50 : decode cX7_isAsAside 50 = .ok (.iload_n 1, 1) := by decide +kernel
theorem dX7_isAsAside_51 : decode cX7_isAsAside 51 = .ok (.ireturn, 1) := by decide +kernel
theorem dX7_again_0 : decode cX7_again 0 = .ok (.aload_n 0, 1) := by decide +kernel
theorem dX7_again_1 : decode cX7_again 1 = .ok (.invokevirtual 175, 3) := by decide +kernel
theorem dX7_again_4 : decode cX7_again 4 = .ok (.bipush (-4), 2) := by decide +kernel
theorem dX7_again_6 : decode cX7_again 6 = .ok (.istore_n 1, 1) := by decide +kernel
theorem dX7_again_7 : decode cX7_again 7 = .ok (.iconst 2, 1) := by decide +kernel
theorem dX7_again_8 : decode cX7_again 8 = .ok (.istore_n 2, 1) := by decide +kernel
theorem dX7_again_9 : decode cX7_again 9 = .ok (.iload_n 2, 1) := by decide +kernel
theorem dX7_again_10 : decode cX7_again 10 = .ok (.sipush 241, 3) := by decide +kernel
theorem dX7_again_13 : decode cX7_again 13 = .ok (.if_icmp .ge 34, 3) := by decide +kernel
theorem dX7_again_16 : decode cX7_again 16 = .ok (.iload_n 1, 1) := by decide +kernel
theorem dX7_again_17 : decode cX7_again 17 = .ok (.bipush (-4), 2) := by decide +kernel
theorem dX7_again_19 : decode cX7_again 19 = .ok (.if_icmp .ne 28, 3) := by decide +kernel
theorem dX7_again_22 : decode cX7_again 22 = .ok (.aload_n 0, 1) := by decide +kernel
theorem dX7_again_23 : decode cX7_again 23 = .ok (.iconst 2, 1) := by decide +kernel
theorem dX7_again_24 : decode cX7_again 24 = .ok (.invokevirtual 178, 3) := by decide +kernel
theorem dX7_again_27 : decode cX7_again 27 = .ok (.aload_n 0, 1) := by decide +kernel
theorem dX7_again_28 : decode cX7_again 28 = .ok (.invokevirtual 211, 3) := by decide +kernel
theorem dX7_again_31 : decode cX7_again 31 = .ok (.ifCond .eq 7, 3) := by decide +kernel
theorem dX7_again_34 : decode cX7_again 34 = .ok (.iload_n 2, 1) := by decide +kernel
theorem dX7_again_35 : decode cX7_again 35 = .ok (.goto 5, 3) := by decide +kernel
theorem dX7_again_38 : decode cX7_again 38 = .ok (.bipush (-4), 2) := by decide +kernel
theorem dX7_again_40 : decode cX7_again 40 = .ok (.istore_n 1, 1) := by decide +kernel
theorem dX7_again_41 : decode cX7_again 41 = .ok (.iinc 2 2, 3) := by decide +kernel
theorem dX7_again_44 : decode cX7_again 44 = .ok (.goto (-35), 3) := by decide +kernel
theorem dX7_again_47 : decode cX7_again 47 = .ok (.aload_n 0, 1) := by decide +kernel
theorem dX7_again_48 : decode cX7_again 48 = .ok (.invokevirtual 182, 3) := by decide +kernel
theorem dX7_again_51 : decode cX7_again 51 = .ok (.iload_n 1, 1) := by decide +kernel
theorem dX7_again_52 : decode cX7_again 52 = .ok (.ireturn, 1) := by decide +kernel
theorem dX7_worst_0 : decode cX7_worst 0 = .ok (.iload_n 1, 1) := by decide +kernel
theorem dX7_worst_1 : decode cX7_worst 1 = .ok (.i2l, 1) := by decide +kernel
theorem dX7_worst_2 : decode cX7_worst 2 = .ok (.lconst 0, 1) := by decide +kernel
theorem dX7_worst_3 : decode cX7_worst 3 = .ok (.lconst 1, 1) := by decide +kernel
theorem dX7_worst_4 : decode cX7_worst 4 = .ok (.invokestatic 53, 3) := by decide +kernel
theorem dX7_worst_7 : decode cX7_worst 7 = .ok (.ifCond .ne 5, 3) := by decide +kernel
theorem dX7_worst_10 : decode cX7_worst 10 = .ok (.iconst (-1), 1) := by decide +kernel
theorem dX7_worst_11 : decode cX7_worst 11 = .ok (.ireturn, 1) := by decide +kernel
theorem dX7_worst_12 : decode cX7_worst 12 = .ok (.bipush (-4), 2) := by decide +kernel
theorem dX7_worst_14 : decode cX7_worst 14 = .ok (.istore_n 2, 1) := by decide +kernel
theorem dX7_worst_15 : decode cX7_worst 15 = .ok (.iconst (-1), 1) := by decide +kernel
theorem dX7_worst_16 : decode cX7_worst 16 = .ok (.istore_n 3, 1) := by decide +kernel
theorem dX7_worst_17 : decode cX7_worst 17 = .ok (.aload_n 0, 1) := by decide +kernel
theorem dX7_worst_18 : decode cX7_worst 18 = .ok (.invokevirtual 175, 3) := by decide +kernel
theorem dX7_worst_21 : decode cX7_worst 21 = .ok (.iconst 0, 1) := by decide +kernel
theorem dX7_worst_22 : decode cX7_worst 22 = .ok (.istore 4, 2) := by decide +kernel
theorem dX7_worst_24 : decode cX7_worst 24 = .ok (.iload 4, 2) := by decide +kernel
theorem dX7_worst_26 : decode cX7_worst 26 = .ok (.aload_n 0, 1) := by decide +kernel
theorem dX7_worst_27 : decode cX7_worst 27 = .ok (.getfield 7, 3) := by decide +kernel
theorem dX7_worst_30 : decode cX7_worst 30 = .ok (.iconst 0, 1) := by decide +kernel
theorem dX7_worst_31 : decode cX7_worst 31 = .ok (.iaload, 1) := by decide +kernel
theorem dX7_worst_32 : decode cX7_worst 32 = .ok (.if_icmp .ge 65, 3) := by decide +kernel
theorem dX7_worst_35 : decode cX7_worst 35 = .ok (.aload_n 0, 1) := by decide +kernel
theorem dX7_worst_36 : decode cX7_worst 36 = .ok (.iload 4, 2) := by decide +kernel
theorem dX7_worst_38 : decode cX7_worst 38 = .ok (.iconst 2, 1) := by decide +kernel
theorem dX7_worst_39 : decode cX7_worst 39 = .ok (.iconst 0, 1) := by decide +kernel
theorem dX7_worst_40 : decode cX7_worst 40 = .ok (.invokevirtual 81, 3) := by decide +kernel
theorem dX7_worst_43 : decode cX7_worst 43 = .ok (.aload_n 0, 1) := by decide +kernel
theorem dX7_worst_44 : decode cX7_worst 44 = .ok (.invokevirtual 188, 3) := by decide +kernel
theorem dX7_worst_47 : decode cX7_worst 47 = .ok (.istore 5, 2) := by decide +kernel
theorem dX7_worst_49 : decode cX7_worst 49 = .ok (.iload 5, 2) := by decide +kernel
theorem dX7_worst_51 : decode cX7_worst 51 = .ok (.bipush (-4), 2) := by decide +kernel
theorem dX7_worst_53 : decode cX7_worst 53 = .ok (.if_icmp .ne 8, 3) := by decide +kernel
theorem dX7_worst_56 : decode cX7_worst 56 = .ok (.bipush 99, 2) := by decide +kernel
theorem dX7_worst_58 : decode cX7_worst 58 = .ok (.goto 5, 3) := by decide +kernel
theorem dX7_worst_61 : decode cX7_worst 61 = .ok (.iload 5, 2) := by decide +kernel
theorem dX7_worst_63 : decode cX7_worst 63 = .ok (.istore 5, 2) := by decide +kernel
theorem dX7_worst_65 : decode cX7_worst 65 = .ok (.iload 5, 2) := by decide +kernel
theorem dX7_worst_67 : decode cX7_worst 67 = .ok (.iload_n 3, 1) := by decide +kernel
theorem dX7_worst_68 : decode cX7_worst 68 = .ok (.if_icmp .le 8, 3) := by decide +kernel
theorem dX7_worst_71 : decode cX7_worst 71 = .ok (.iload 4, 2) := by decide +kernel
theorem dX7_worst_73 : decode cX7_worst 73 = .ok (.goto 4, 3) := by decide +kernel
theorem dX7_worst_76 : decode cX7_worst 76 = .ok (.iload_n 2, 1) := by decide +kernel
theorem dX7_worst_77 : decode cX7_worst 77 = .ok (.istore_n 2, 1) := by decide +kernel
theorem dX7_worst_78 : decode cX7_worst 78 = .ok (.iload 5, 2) := by decide +kernel
theorem dX7_worst_80 : decode cX7_worst 80 = .ok (.iload_n 3, 1) := by decide +kernel
theorem dX7_worst_81 : decode cX7_worst 81 = .ok (.if_icmp .le 8, 3) := by decide +kernel
theorem dX7_worst_84 : decode cX7_worst 84 = .ok (.iload 5, 2) := by decide +kernel
theorem dX7_worst_86 : decode cX7_worst 86 = .ok (.goto 4, 3) := by decide +kernel
theorem dX7_worst_89 : decode cX7_worst 89 = .ok (.iload_n 3, 1) := by decide +kernel
theorem dX7_worst_90 : decode cX7_worst 90 = .ok (.istore_n 3, 1) := by decide +kernel
theorem dX7_worst_91 : decode cX7_worst 91 = .ok (.iinc 4 1, 3) := by decide +kernel
theorem dX7_worst_94 : decode cX7_worst 94 = .ok (.goto (-70), 3) := by decide +kernel
theorem dX7_worst_97 : decode cX7_worst 97 = .ok (.iload_n 1, 1) := by decide +kernel
theorem dX7_worst_98 : decode cX7_worst 98 = .ok (.ifCond .ne 7, 3) := by decide +kernel
theorem dX7_worst_101 : decode cX7_worst 101 = .ok (.iload_n 2, 1) := by decide +kernel
theorem dX7_worst_102 : decode cX7_worst 102 = .ok (.goto 19, 3) := by decide +kernel
theorem dX7_worst_105 : decode cX7_worst 105 = .ok (.iload_n 3, 1) := by decide +kernel
theorem dX7_worst_106 : decode cX7_worst 106 = .ok (.ifCond .lt 9, 3) := by decide +kernel
theorem dX7_worst_109 : decode cX7_worst 109 = .ok (.iload_n 3, 1) := by decide +kernel
theorem dX7_worst_110 : decode cX7_worst 110 = .ok (.bipush 99, 2) := by decide +kernel
theorem dX7_worst_112 : decode cX7_worst 112 = .ok (.if_icmp .ne 8, 3) := by decide +kernel
theorem dX7_worst_115 : decode cX7_worst 115 = .ok (.bipush (-4), 2) := by decide +kernel
theorem dX7_worst_117 : decode cX7_worst 117 = .ok (.goto 4, 3) := by decide +kernel
theorem dX7_worst_120 : decode cX7_worst 120 = .ok (.iload_n 3, 1) := by decide +kernel
theorem dX7_worst_121 : decode cX7_worst 121 = .ok (.ireturn, 1) := by decide +kernel
theorem dX7_fog_0 : decode cX7_fog 0 = .ok (.iload_n 1, 1) := by decide +kernel
theorem dX7_fog_1 : decode cX7_fog 1 = .ok (.i2l, 1) := by decide +kernel
theorem dX7_fog_2 : decode cX7_fog 2 = .ok (.lconst 0, 1) := by decide +kernel
theorem dX7_fog_3 : decode cX7_fog 3 = .ok (.ldc2_w 215, 3) := by decide +kernel
theorem dX7_fog_6 : decode cX7_fog 6 = .ok (.invokestatic 53, 3) := by decide +kernel
theorem dX7_fog_9 : decode cX7_fog 9 = .ok (.ifCond .eq 13, 3) := by decide +kernel
theorem dX7_fog_12 : decode cX7_fog 12 = .ok (.iload_n 2, 1) := by decide +kernel
theorem dX7_fog_13 : decode cX7_fog 13 = .ok (.i2l, 1) := by decide +kernel
theorem dX7_fog_14 : decode cX7_fog 14 = .ok (.lconst 0, 1) := by decide +kernel
theorem dX7_fog_15 : decode cX7_fog 15 = .ok (.lconst 1, 1) := by decide +kernel
theorem dX7_fog_16 : decode cX7_fog 16 = .ok (.invokestatic 53, 3) := by decide +kernel
theorem dX7_fog_19 : decode cX7_fog 19 = .ok (.ifCond .ne 5, 3) := by decide +kernel
theorem dX7_fog_22 : decode cX7_fog 22 = .ok (.iconst (-1), 1) := by decide +kernel
theorem dX7_fog_23 : decode cX7_fog 23 = .ok (.ireturn, 1) := by decide +kernel
theorem dX7_fog_24 : decode cX7_fog 24 = .ok (.iconst 0, 1) := by decide +kernel
theorem dX7_fog_25 : decode cX7_fog 25 = .ok (.istore_n 3, 1) := by decide +kernel
theorem dX7_fog_26 : decode cX7_fog 26 = .ok (.iconst 0, 1) := by decide +kernel
theorem dX7_fog_27 : decode cX7_fog 27 = .ok (.istore 4, 2) := by decide +kernel
theorem dX7_fog_29 : decode cX7_fog 29 = .ok (.aload_n 0, 1) := by decide +kernel
theorem dX7_fog_30 : decode cX7_fog 30 = .ok (.invokevirtual 175, 3) := by decide +kernel
theorem dX7_fog_33 : decode cX7_fog 33 = .ok (.iconst 0, 1) := by decide +kernel
theorem dX7_fog_34 : decode cX7_fog 34 = .ok (.istore 5, 2) := by decide +kernel
theorem dX7_fog_36 : decode cX7_fog 36 = .ok (.iload 5, 2) := by decide +kernel
theorem dX7_fog_38 : decode cX7_fog 38 = .ok (.iconst 1, 1) := by decide +kernel
theorem dX7_fog_39 : decode cX7_fog 39 = .ok (.aload_n 0, 1) := by decide +kernel
theorem dX7_fog_40 : decode cX7_fog 40 = .ok (.getfield 7, 3) := by decide +kernel
theorem dX7_fog_43 : decode cX7_fog 43 = .ok (.iconst 0, 1) := by decide +kernel
theorem dX7_fog_44 : decode cX7_fog 44 = .ok (.iaload, 1) := by decide +kernel
theorem dX7_fog_45 : decode cX7_fog 45 = .ok (.ishl, 1) := by decide +kernel
theorem dX7_fog_46 : decode cX7_fog 46 = .ok (.if_icmp .ge 122, 3) := by decide +kernel
theorem dX7_fog_49 : decode cX7_fog 49 = .ok (.iconst 1, 1) := by decide +kernel
theorem dX7_fog_50 : decode cX7_fog 50 = .ok (.istore 6, 2) := by decide +kernel
theorem dX7_fog_52 : decode cX7_fog 52 = .ok (.iconst 0, 1) := by decide +kernel
theorem dX7_fog_53 : decode cX7_fog 53 = .ok (.istore 7, 2) := by decide +kernel
theorem dX7_fog_55 : decode cX7_fog 55 = .ok (.iload 7, 2) := by decide +kernel
theorem dX7_fog_57 : decode cX7_fog 57 = .ok (.aload_n 0, 1) := by decide +kernel
theorem dX7_fog_58 : decode cX7_fog 58 = .ok (.getfield 7, 3) := by decide +kernel
theorem dX7_fog_61 : decode cX7_fog 61 = .ok (.iconst 0, 1) := by decide +kernel
theorem dX7_fog_62 : decode cX7_fog 62 = .ok (.iaload, 1) := by decide +kernel
theorem dX7_fog_63 : decode cX7_fog 63 = .ok (.if_icmp .ge 72, 3) := by decide +kernel
theorem dX7_fog_66 : decode cX7_fog 66 = .ok (.iload 5, 2) := by decide +kernel
theorem dX7_fog_68 : decode cX7_fog 68 = .ok (.iload 7, 2) := by decide +kernel
theorem dX7_fog_70 : decode cX7_fog 70 = .ok (.ishr, 1) := by decide +kernel
theorem dX7_fog_71 : decode cX7_fog 71 = .ok (.iconst 1, 1) := by decide +kernel
theorem dX7_fog_72 : decode cX7_fog 72 = .ok (.iand, 1) := by decide +kernel
theorem dX7_fog_73 : decode cX7_fog 73 = .ok (.iconst 1, 1) := by decide +kernel
theorem dX7_fog_74 : decode cX7_fog 74 = .ok (.if_icmp .ne 7, 3) := by decide +kernel
theorem dX7_fog_77 : decode cX7_fog 77 = .ok (.iconst 1, 1) := by decide +kernel
theorem dX7_fog_78 : decode cX7_fog 78 = .ok (.goto 4, 3) := by decide +kernel
theorem dX7_fog_81 : decode cX7_fog 81 = .ok (.iconst 0, 1) := by decide +kernel
theorem dX7_fog_82 : decode cX7_fog 82 = .ok (.istore 8, 2) := by decide +kernel
theorem dX7_fog_84 : decode cX7_fog 84 = .ok (.iload 6, 2) := by decide +kernel
theorem dX7_fog_86 : decode cX7_fog 86 = .ok (.iload 8, 2) := by decide +kernel
theorem dX7_fog_88 : decode cX7_fog 88 = .ok (.ifCond .eq 7, 3) := by decide +kernel
theorem dX7_fog_91 : decode cX7_fog 91 = .ok (.iload_n 1, 1) := by decide +kernel
theorem dX7_fog_92 : decode cX7_fog 92 = .ok (.goto 7, 3) := by decide +kernel
theorem dX7_fog_95 : decode cX7_fog 95 = .ok (.bipush 10, 2) := by decide +kernel
theorem dX7_fog_97 : decode cX7_fog 97 = .ok (.iload_n 1, 1) := by decide +kernel
theorem dX7_fog_98 : decode cX7_fog 98 = .ok (.isub, 1) := by decide +kernel
theorem dX7_fog_99 : decode cX7_fog 99 = .ok (.imul, 1) := by decide +kernel
theorem dX7_fog_100 : decode cX7_fog 100 = .ok (.istore 6, 2) := by decide +kernel
theorem dX7_fog_102 : decode cX7_fog 102 = .ok (.aload_n 0, 1) := by decide +kernel
theorem dX7_fog_103 : decode cX7_fog 103 = .ok (.iload 7, 2) := by decide +kernel
theorem dX7_fog_105 : decode cX7_fog 105 = .ok (.iconst 1, 1) := by decide +kernel
theorem dX7_fog_106 : decode cX7_fog 106 = .ok (.aload_n 0, 1) := by decide +kernel
theorem dX7_fog_107 : decode cX7_fog 107 = .ok (.iload 7, 2) := by decide +kernel
theorem dX7_fog_109 : decode cX7_fog 109 = .ok (.invokevirtual 65, 3) := by decide +kernel
theorem dX7_fog_112 : decode cX7_fog 112 = .ok (.iload 8, 2) := by decide +kernel
theorem dX7_fog_114 : decode cX7_fog 114 = .ok (.ifCond .eq 7, 3) := by decide +kernel
theorem dX7_fog_117 : decode cX7_fog 117 = .ok (.iconst 1, 1) := by decide +kernel
theorem dX7_fog_118 : decode cX7_fog 118 = .ok (.goto 4, 3) := by decide +kernel
theorem dX7_fog_121 : decode cX7_fog 121 = .ok (.iconst 0, 1) := by decide +kernel
theorem dX7_fog_122 : decode cX7_fog 122 = .ok (.iadd, 1) := by decide +kernel
theorem dX7_fog_123 : decode cX7_fog 123 = .ok (.invokestatic 61, 3) := by decide +kernel
theorem dX7_fog_126 : decode cX7_fog 126 = .ok (.invokevirtual 81, 3) := by decide +kernel
theorem dX7_fog_129 : decode cX7_fog 129 = .ok (.iinc 7 1, 3) := by decide +kernel
theorem dX7_fog_132 : decode cX7_fog 132 = .ok (.goto (-77), 3) := by decide +kernel
theorem dX7_fog_135 : decode cX7_fog 135 = .ok (.iload 4, 2) := by decide +kernel
theorem dX7_fog_137 : decode cX7_fog 137 = .ok (.iload 6, 2) := by decide +kernel
theorem dX7_fog_139 : decode cX7_fog 139 = .ok (.iadd, 1) := by decide +kernel
theorem dX7_fog_140 : decode cX7_fog 140 = .ok (.istore 4, 2) := by decide +kernel
theorem dX7_fog_142 : decode cX7_fog 142 = .ok (.iload_n 3, 1) := by decide +kernel
theorem dX7_fog_143 : decode cX7_fog 143 = .ok (.aload_n 0, 1) := by decide +kernel
theorem dX7_fog_144 : decode cX7_fog 144 = .ok (.invokevirtual 118, 3) := by decide +kernel
theorem dX7_fog_147 : decode cX7_fog 147 = .ok (.ifCond .ne 8, 3) := by decide +kernel
theorem dX7_fog_150 : decode cX7_fog 150 = .ok (.iload 6, 2) := by decide +kernel
theorem dX7_fog_152 : decode cX7_fog 152 = .ok (.goto 4, 3) := by decide +kernel
theorem dX7_fog_155 : decode cX7_fog 155 = .ok (.iconst 0, 1) := by decide +kernel
theorem dX7_fog_156 : decode cX7_fog 156 = .ok (.iadd, 1) := by decide +kernel
theorem dX7_fog_157 : decode cX7_fog 157 = .ok (.istore_n 3, 1) := by decide +kernel
theorem dX7_fog_158 : decode cX7_fog 158 = .ok (.aload_n 0, 1) := by decide +kernel
theorem dX7_fog_159 : decode cX7_fog 159 = .ok (.invokevirtual 182, 3) := by decide +kernel
theorem dX7_fog_162 : decode cX7_fog 162 = .ok (.iinc 5 1, 3) := by decide +kernel
theorem dX7_fog_165 : decode cX7_fog 165 = .ok (.goto (-129), 3) := by decide +kernel
theorem dX7_fog_168 : decode cX7_fog 168 = .ok (.iload_n 3, 1) := by decide +kernel
theorem dX7_fog_169 : decode cX7_fog 169 = .ok (.istore 5, 2) := by decide +kernel
theorem dX7_fog_171 : decode cX7_fog 171 = .ok (.iload 4, 2) := by decide +kernel
theorem dX7_fog_173 : decode cX7_fog 173 = .ok (.istore 6, 2) := by decide +kernel
theorem dX7_fog_175 : decode cX7_fog 175 = .ok (.iload 6, 2) := by decide +kernel
theorem dX7_fog_177 : decode cX7_fog 177 = .ok (.ifCond .eq 21, 3) := by decide +kernel
theorem dX7_fog_180 : decode cX7_fog 180 = .ok (.iload 5, 2) := by decide +kernel
theorem dX7_fog_182 : decode cX7_fog 182 = .ok (.iload 6, 2) := by decide +kernel
theorem dX7_fog_184 : decode cX7_fog 184 = .ok (.irem, 1) := by decide +kernel
theorem dX7_fog_185 : decode cX7_fog 185 = .ok (.istore 7, 2) := by decide +kernel
theorem dX7_fog_187 : decode cX7_fog 187 = .ok (.iload 6, 2) := by decide +kernel
theorem dX7_fog_189 : decode cX7_fog 189 = .ok (.istore 5, 2) := by decide +kernel
theorem dX7_fog_191 : decode cX7_fog 191 = .ok (.iload 7, 2) := by decide +kernel
theorem dX7_fog_193 : decode cX7_fog 193 = .ok (.istore 6, 2) := by decide +kernel
theorem dX7_fog_195 : decode cX7_fog 195 = .ok (.goto (-20), 3) := by decide +kernel
theorem dX7_fog_198 : decode cX7_fog 198 = .ok (.iload_n 2, 1) := by decide +kernel
theorem dX7_fog_199 : decode cX7_fog 199 = .ok (.ifCond .ne 10, 3) := by decide +kernel
theorem dX7_fog_202 : decode cX7_fog 202 = .ok (.iload_n 3, 1) := by decide +kernel
theorem dX7_fog_203 : decode cX7_fog 203 = .ok (.iload 5, 2) := by decide +kernel
theorem dX7_fog_205 : decode cX7_fog 205 = .ok (.idiv, 1) := by decide +kernel
theorem dX7_fog_206 : decode cX7_fog 206 = .ok (.goto 8, 3) := by decide +kernel
theorem dX7_fog_209 : decode cX7_fog 209 = .ok (.iload 4, 2) := by decide +kernel
theorem dX7_fog_211 : decode cX7_fog 211 = .ok (.iload 5, 2) := by decide +kernel
theorem dX7_fog_213 : decode cX7_fog 213 = .ok (.idiv, 1) := by decide +kernel
theorem dX7_fog_214 : decode cX7_fog 214 = .ok (.ireturn, 1) := by decide +kernel
theorem dX7_image_0 : decode cX7_image 0 = .ok (.iconst 0, 1) := by decide +kernel
theorem dX7_image_1 : decode cX7_image 1 = .ok (.istore_n 1, 1) := by decide +kernel
theorem dX7_image_2 : decode cX7_image 2 = .ok (.iload_n 1, 1) := by decide +kernel
theorem dX7_image_3 : decode cX7_image 3 = .ok (.bipush 27, 2) := by decide +kernel
theorem dX7_image_5 : decode cX7_image 5 = .ok (.if_icmp .ge 21, 3) := by decide +kernel
theorem dX7_image_8 : decode cX7_image 8 = .ok (.aload_n 0, 1) := by decide +kernel
theorem dX7_image_9 : decode cX7_image 9 = .ok (.getfield 37, 3) := by decide +kernel
theorem dX7_image_12 : decode cX7_image 12 = .ok (.iload_n 1, 1) := by decide +kernel
theorem dX7_image_13 : decode cX7_image 13 = .ok (.aload_n 0, 1) := by decide +kernel
theorem dX7_image_14 : decode cX7_image 14 = .ok (.getfield 7, 3) := by decide +kernel
theorem dX7_image_17 : decode cX7_image 17 = .ok (.iload_n 1, 1) := by decide +kernel
theorem dX7_image_18 : decode cX7_image 18 = .ok (.iaload, 1) := by decide +kernel
theorem dX7_image_19 : decode cX7_image 19 = .ok (.iastore, 1) := by decide +kernel
theorem dX7_image_20 : decode cX7_image 20 = .ok (.iinc 1 1, 3) := by decide +kernel
theorem dX7_image_23 : decode cX7_image 23 = .ok (.goto (-21), 3) := by decide +kernel
theorem dX7_image_26 : decode cX7_image 26 = .ok (.iconst 0, 1) := by decide +kernel
theorem dX7_image_27 : decode cX7_image 27 = .ok (.istore_n 1, 1) := by decide +kernel
theorem dX7_image_28 : decode cX7_image 28 = .ok (.iload_n 1, 1) := by decide +kernel
theorem dX7_image_29 : decode cX7_image 29 = .ok (.sipush 216, 3) := by decide +kernel
theorem dX7_image_32 : decode cX7_image 32 = .ok (.if_icmp .ge 24, 3) := by decide +kernel
theorem dX7_image_35 : decode cX7_image 35 = .ok (.aload_n 0, 1) := by decide +kernel
theorem dX7_image_36 : decode cX7_image 36 = .ok (.getfield 37, 3) := by decide +kernel
theorem dX7_image_39 : decode cX7_image 39 = .ok (.bipush 27, 2) := by decide +kernel
theorem dX7_image_41 : decode cX7_image 41 = .ok (.iload_n 1, 1) := by decide +kernel
theorem dX7_image_42 : decode cX7_image 42 = .ok (.iadd, 1) := by decide +kernel
theorem dX7_image_43 : decode cX7_image 43 = .ok (.aload_n 0, 1) := by decide +kernel
theorem dX7_image_44 : decode cX7_image 44 = .ok (.getfield 22, 3) := by decide +kernel
theorem dX7_image_47 : decode cX7_image 47 = .ok (.iload_n 1, 1) := by decide +kernel
theorem dX7_image_48 : decode cX7_image 48 = .ok (.iaload, 1) := by decide +kernel
theorem dX7_image_49 : decode cX7_image 49 = .ok (.iastore, 1) := by decide +kernel
theorem dX7_image_50 : decode cX7_image 50 = .ok (.iinc 1 1, 3) := by decide +kernel
theorem dX7_image_53 : decode cX7_image 53 = .ok (.goto (-25), 3) := by decide +kernel
theorem dX7_image_56 : decode cX7_image 56 = .ok (.aload_n 0, 1) := by decide +kernel
theorem dX7_image_57 : decode cX7_image 57 = .ok (.aload_n 0, 1) := by decide +kernel
theorem dX7_image_58 : decode cX7_image 58 = .ok (.getfield 91, 3) := by decide +kernel
theorem dX7_image_61 : decode cX7_image 61 = .ok (.putfield 217, 3) := by decide +kernel
theorem dX7_image_64 : decode cX7_image 64 = .ok (.aload_n 0, 1) := by decide +kernel
theorem dX7_image_65 : decode cX7_image 65 = .ok (.iconst 1, 1) := by decide +kernel
theorem dX7_image_66 : decode cX7_image 66 = .ok (.putfield 220, 3) := by decide +kernel
theorem dX7_image_69 : decode cX7_image 69 = .ok (.iconst 1, 1) := by decide +kernel
theorem dX7_image_70 : decode cX7_image 70 = .ok (.ireturn, 1) := by decide +kernel
theorem dX7_restore_0 : decode cX7_restore 0 = .ok (.aload_n 0, 1) := by decide +kernel
theorem dX7_restore_1 : decode cX7_restore 1 = .ok (.getfield 220, 3) := by decide +kernel
theorem dX7_restore_4 : decode cX7_restore 4 = .ok (.ifCond .ne 6, 3) := by decide +kernel
theorem dX7_restore_7 : decode cX7_restore 7 = .ok (.bipush (-4), 2) := by decide +kernel
theorem dX7_restore_9 : decode cX7_restore 9 = .ok (.ireturn, 1) := by decide +kernel
theorem dX7_restore_10 : decode cX7_restore 10 = .ok (.iconst 0, 1) := by decide +kernel
theorem dX7_restore_11 : decode cX7_restore 11 = .ok (.istore_n 1, 1) := by decide +kernel
theorem dX7_restore_12 : decode cX7_restore 12 = .ok (.iload_n 1, 1) := by decide +kernel
theorem dX7_restore_13 : decode cX7_restore 13 = .ok (.bipush 27, 2) := by decide +kernel
theorem dX7_restore_15 : decode cX7_restore 15 = .ok (.if_icmp .ge 21, 3) := by decide +kernel
theorem dX7_restore_18 : decode cX7_restore 18 = .ok (.aload_n 0, 1) := by decide +kernel
theorem dX7_restore_19 : decode cX7_restore 19 = .ok (.getfield 7, 3) := by decide +kernel
theorem dX7_restore_22 : decode cX7_restore 22 = .ok (.iload_n 1, 1) := by decide +kernel
theorem dX7_restore_23 : decode cX7_restore 23 = .ok (.aload_n 0, 1) := by decide +kernel
theorem dX7_restore_24 : decode cX7_restore 24 = .ok (.getfield 37, 3) := by decide +kernel
theorem dX7_restore_27 : decode cX7_restore 27 = .ok (.iload_n 1, 1) := by decide +kernel
theorem dX7_restore_28 : decode cX7_restore 28 = .ok (.iaload, 1) := by decide +kernel
theorem dX7_restore_29 : decode cX7_restore 29 = .ok (.iastore, 1) := by decide +kernel
theorem dX7_restore_30 : decode cX7_restore 30 = .ok (.iinc 1 1, 3) := by decide +kernel
theorem dX7_restore_33 : decode cX7_restore 33 = .ok (.goto (-21), 3) := by decide +kernel
theorem dX7_restore_36 : decode cX7_restore 36 = .ok (.iconst 0, 1) := by decide +kernel
theorem dX7_restore_37 : decode cX7_restore 37 = .ok (.istore_n 1, 1) := by decide +kernel
theorem dX7_restore_38 : decode cX7_restore 38 = .ok (.iload_n 1, 1) := by decide +kernel
theorem dX7_restore_39 : decode cX7_restore 39 = .ok (.sipush 216, 3) := by decide +kernel
theorem dX7_restore_42 : decode cX7_restore 42 = .ok (.if_icmp .ge 24, 3) := by decide +kernel
theorem dX7_restore_45 : decode cX7_restore 45 = .ok (.aload_n 0, 1) := by decide +kernel
theorem dX7_restore_46 : decode cX7_restore 46 = .ok (.getfield 22, 3) := by decide +kernel
theorem dX7_restore_49 : decode cX7_restore 49 = .ok (.iload_n 1, 1) := by decide +kernel
theorem dX7_restore_50 : decode cX7_restore 50 = .ok (.aload_n 0, 1) := by decide +kernel
theorem dX7_restore_51 : decode cX7_restore 51 = .ok (.getfield 37, 3) := by decide +kernel
theorem dX7_restore_54 : decode cX7_restore 54 = .ok (.bipush 27, 2) := by decide +kernel
theorem dX7_restore_56 : decode cX7_restore 56 = .ok (.iload_n 1, 1) := by decide +kernel
theorem dX7_restore_57 : decode cX7_restore 57 = .ok (.iadd, 1) := by decide +kernel
theorem dX7_restore_58 : decode cX7_restore 58 = .ok (.iaload, 1) := by decide +kernel
theorem dX7_restore_59 : decode cX7_restore 59 = .ok (.iastore, 1) := by decide +kernel
theorem dX7_restore_60 : decode cX7_restore 60 = .ok (.iinc 1 1, 3) := by decide +kernel
theorem dX7_restore_63 : decode cX7_restore 63 = .ok (.goto (-25), 3) := by decide +kernel
theorem dX7_restore_66 : decode cX7_restore 66 = .ok (.aload_n 0, 1) := by decide +kernel
theorem dX7_restore_67 : decode cX7_restore 67 = .ok (.aload_n 0, 1) := by decide +kernel
theorem dX7_restore_68 : decode cX7_restore 68 = .ok (.getfield 217, 3) := by decide +kernel
theorem dX7_restore_71 : decode cX7_restore 71 = .ok (.putfield 91, 3) := by decide +kernel
theorem dX7_restore_74 : decode cX7_restore 74 = .ok (.iconst 1, 1) := by decide +kernel
theorem dX7_restore_75 : decode cX7_restore 75 = .ok (.ireturn, 1) := by decide +kernel
theorem dX7_isSheet_0 : decode cX7_isSheet 0 = .ok (.iload_n 0, 1) := by decide +kernel
theorem dX7_isSheet_1 : decode cX7_isSheet 1 = .ok (.i2l, 1) := by decide +kernel
theorem dX7_isSheet_2 : decode cX7_isSheet 2 = .ok (.lconst 0, 1) := by decide +kernel
theorem dX7_isSheet_3 : decode cX7_isSheet 3 = .ok (.ldc2_w 223, 3) := by decide +kernel
theorem dX7_isSheet_6 : decode cX7_isSheet 6 = .ok (.invokestatic 53, 3) := by decide +kernel
theorem dX7_isSheet_9 : decode cX7_isSheet 9 = .ok (.ireturn, 1) := by decide +kernel
theorem dX7_isLane_0 : decode cX7_isLane 0 = .ok (.iload_n 0, 1) := by decide +kernel
theorem dX7_isLane_1 : decode cX7_isLane 1 = .ok (.i2l, 1) := by decide +kernel
theorem dX7_isLane_2 : decode cX7_isLane 2 = .ok (.lconst 0, 1) := by decide +kernel
theorem dX7_isLane_3 : decode cX7_isLane 3 = .ok (.ldc2_w 223, 3) := by decide +kernel
theorem dX7_isLane_6 : decode cX7_isLane 6 = .ok (.invokestatic 53, 3) := by decide +kernel
theorem dX7_isLane_9 : decode cX7_isLane 9 = .ok (.ireturn, 1) := by decide +kernel
theorem dX7_why_0 : decode cX7_why 0 = .ok (.aload_n 0, 1) := by decide +kernel
theorem dX7_why_1 : decode cX7_why 1 = .ok (.getfield 40, 3) := by decide +kernel
theorem dX7_why_4 : decode cX7_why 4 = .ok (.iload_n 1, 1) := by decide +kernel
theorem dX7_why_5 : decode cX7_why 5 = .ok (.iaload, 1) := by decide +kernel
theorem dX7_why_6 : decode cX7_why 6 = .ok (.ifCond .ge 6, 3) := by decide +kernel
theorem dX7_why_9 : decode cX7_why 9 = .ok (.bipush (-11), 2) := by decide +kernel
theorem dX7_why_11 : decode cX7_why 11 = .ok (.ireturn, 1) := by decide +kernel
theorem dX7_why_12 : decode cX7_why 12 = .ok (.aload_n 0, 1) := by decide +kernel
theorem dX7_why_13 : decode cX7_why 13 = .ok (.getfield 40, 3) := by decide +kernel
theorem dX7_why_16 : decode cX7_why 16 = .ok (.iload_n 1, 1) := by decide +kernel
theorem dX7_why_17 : decode cX7_why 17 = .ok (.iaload, 1) := by decide +kernel
theorem dX7_why_18 : decode cX7_why 18 = .ok (.iload_n 2, 1) := by decide +kernel
theorem dX7_why_19 : decode cX7_why 19 = .ok (.if_icmp .eq 6, 3) := by decide +kernel
theorem dX7_why_22 : decode cX7_why 22 = .ok (.bipush (-12), 2) := by decide +kernel
theorem dX7_why_24 : decode cX7_why 24 = .ok (.ireturn, 1) := by decide +kernel
theorem dX7_why_25 : decode cX7_why 25 = .ok (.iload_n 3, 1) := by decide +kernel
theorem dX7_why_26 : decode cX7_why 26 = .ok (.ifCond .lt 25, 3) := by decide +kernel
theorem dX7_why_29 : decode cX7_why 29 = .ok (.iload 4, 2) := by decide +kernel
theorem dX7_why_31 : decode cX7_why 31 = .ok (.ifCond .lt 20, 3) := by decide +kernel
theorem dX7_why_34 : decode cX7_why 34 = .ok (.iload_n 3, 1) := by decide +kernel
theorem dX7_why_35 : decode cX7_why 35 = .ok (.i2l, 1) := by decide +kernel
theorem dX7_why_36 : decode cX7_why 36 = .ok (.iload 4, 2) := by decide +kernel
theorem dX7_why_38 : decode cX7_why 38 = .ok (.i2l, 1) := by decide +kernel
theorem dX7_why_39 : decode cX7_why 39 = .ok (.ladd, 1) := by decide +kernel
theorem dX7_why_40 : decode cX7_why 40 = .ok (.aload_n 0, 1) := by decide +kernel
theorem dX7_why_41 : decode cX7_why 41 = .ok (.getfield 43, 3) := by decide +kernel
theorem dX7_why_44 : decode cX7_why 44 = .ok (.iload_n 1, 1) := by decide +kernel
theorem dX7_why_45 : decode cX7_why 45 = .ok (.iaload, 1) := by decide +kernel
theorem dX7_why_46 : decode cX7_why 46 = .ok (.i2l, 1) := by decide +kernel
theorem dX7_why_47 : decode cX7_why 47 = .ok (.lcmp, 1) := by decide +kernel
theorem dX7_why_48 : decode cX7_why 48 = .ok (.ifCond .le 8, 3) := by decide +kernel
theorem dX7_why_51 : decode cX7_why 51 = .ok (.bipush (-13), 2) := by decide +kernel
theorem dX7_why_53 : decode cX7_why 53 = .ok (.goto 4, 3) := by decide +kernel
theorem dX7_why_56 : decode cX7_why 56 = .ok (.iconst 0, 1) := by decide +kernel
theorem dX7_why_57 : decode cX7_why 57 = .ok (.ireturn, 1) := by decide +kernel
theorem dX7_isSo_0 : decode cX7_isSo 0 = .ok (.iconst 1, 1) := by decide +kernel
theorem dX7_isSo_1 : decode cX7_isSo 1 = .ok (.istore 4, 2) := by decide +kernel
theorem dX7_isSo_3 : decode cX7_isSo 3 = .ok (.iconst 0, 1) := by decide +kernel
theorem dX7_isSo_4 : decode cX7_isSo 4 = .ok (.istore 5, 2) := by decide +kernel
theorem dX7_isSo_6 : decode cX7_isSo 6 = .ok (.iload 5, 2) := by decide +kernel
theorem dX7_isSo_8 : decode cX7_isSo 8 = .ok (.iload_n 3, 1) := by decide +kernel
theorem dX7_isSo_9 : decode cX7_isSo 9 = .ok (.if_icmp .ge 44, 3) := by decide +kernel
theorem dX7_isSo_12 : decode cX7_isSo 12 = .ok (.aload_n 0, 1) := by decide +kernel
theorem dX7_isSo_13 : decode cX7_isSo 13 = .ok (.invokevirtual 85, 3) := by decide +kernel
theorem dX7_isSo_16 : decode cX7_isSo 16 = .ok (.iload 4, 2) := by decide +kernel
theorem dX7_isSo_18 : decode cX7_isSo 18 = .ok (.ifCond .eq 26, 3) := by decide +kernel
theorem dX7_isSo_21 : decode cX7_isSo 21 = .ok (.aload_n 0, 1) := by decide +kernel
theorem dX7_isSo_22 : decode cX7_isSo 22 = .ok (.iload_n 1, 1) := by decide +kernel
theorem dX7_isSo_23 : decode cX7_isSo 23 = .ok (.invokevirtual 65, 3) := by decide +kernel
theorem dX7_isSo_26 : decode cX7_isSo 26 = .ok (.i2l, 1) := by decide +kernel
theorem dX7_isSo_27 : decode cX7_isSo 27 = .ok (.aload_n 0, 1) := by decide +kernel
theorem dX7_isSo_28 : decode cX7_isSo 28 = .ok (.getfield 46, 3) := by decide +kernel
theorem dX7_isSo_31 : decode cX7_isSo 31 = .ok (.iload_n 2, 1) := by decide +kernel
theorem dX7_isSo_32 : decode cX7_isSo 32 = .ok (.iload 5, 2) := by decide +kernel
theorem dX7_isSo_34 : decode cX7_isSo 34 = .ok (.iadd, 1) := by decide +kernel
theorem dX7_isSo_35 : decode cX7_isSo 35 = .ok (.laload, 1) := by decide +kernel
theorem dX7_isSo_36 : decode cX7_isSo 36 = .ok (.lcmp, 1) := by decide +kernel
theorem dX7_isSo_37 : decode cX7_isSo 37 = .ok (.ifCond .ne 7, 3) := by decide +kernel
theorem dX7_isSo_40 : decode cX7_isSo 40 = .ok (.iconst 1, 1) := by decide +kernel
theorem dX7_isSo_41 : decode cX7_isSo 41 = .ok (.goto 4, 3) := by decide +kernel
theorem dX7_isSo_44 : decode cX7_isSo 44 = .ok (.iconst 0, 1) := by decide +kernel
theorem dX7_isSo_45 : decode cX7_isSo 45 = .ok (.istore 4, 2) := by decide +kernel
theorem dX7_isSo_47 : decode cX7_isSo 47 = .ok (.iinc 5 1, 3) := by decide +kernel
theorem dX7_isSo_50 : decode cX7_isSo 50 = .ok (.goto (-44), 3) := by decide +kernel
theorem dX7_isSo_53 : decode cX7_isSo 53 = .ok (.aload_n 0, 1) := by decide +kernel
theorem dX7_isSo_54 : decode cX7_isSo 54 = .ok (.invokevirtual 182, 3) := by decide +kernel
theorem dX7_isSo_57 : decode cX7_isSo 57 = .ok (.iload 4, 2) := by decide +kernel
theorem dX7_isSo_59 : decode cX7_isSo 59 = .ok (.ireturn, 1) := by decide +kernel
theorem dX7_heard_0 : decode cX7_heard 0 = .ok (.aload_n 0, 1) := by decide +kernel
theorem dX7_heard_1 : decode cX7_heard 1 = .ok (.iload_n 1, 1) := by decide +kernel
theorem dX7_heard_2 : decode cX7_heard 2 = .ok (.invokevirtual 107, 3) := by decide +kernel
theorem dX7_heard_5 : decode cX7_heard 5 = .ok (.ifCond .eq 41, 3) := by decide +kernel
theorem dX7_heard_8 : decode cX7_heard 8 = .ok (.iload_n 2, 1) := by decide +kernel
theorem dX7_heard_9 : decode cX7_heard 9 = .ok (.invokestatic 225, 3) := by decide +kernel
theorem dX7_heard_12 : decode cX7_heard 12 = .ok (.ifCond .eq 34, 3) := by decide +kernel
theorem dX7_heard_15 : decode cX7_heard 15 = .ok (.iload_n 3, 1) := by decide +kernel
theorem dX7_heard_16 : decode cX7_heard 16 = .ok (.invokestatic 228, 3) := by decide +kernel
theorem dX7_heard_19 : decode cX7_heard 19 = .ok (.ifCond .eq 27, 3) := by decide +kernel
theorem dX7_heard_22 : decode cX7_heard 22 = .ok (.iload 5, 2) := by decide +kernel
theorem dX7_heard_24 : decode cX7_heard 24 = .ok (.i2l, 1) := by decide +kernel
theorem dX7_heard_25 : decode cX7_heard 25 = .ok (.lconst 1, 1) := by decide +kernel
theorem dX7_heard_26 : decode cX7_heard 26 = .ok (.ldc2_w 231, 3) := by decide +kernel
theorem dX7_heard_29 : decode cX7_heard 29 = .ok (.invokestatic 53, 3) := by decide +kernel
theorem dX7_heard_32 : decode cX7_heard 32 = .ok (.ifCond .eq 14, 3) := by decide +kernel
theorem dX7_heard_35 : decode cX7_heard 35 = .ok (.iload 6, 2) := by decide +kernel
theorem dX7_heard_37 : decode cX7_heard 37 = .ok (.i2l, 1) := by decide +kernel
theorem dX7_heard_38 : decode cX7_heard 38 = .ok (.lconst 0, 1) := by decide +kernel
theorem dX7_heard_39 : decode cX7_heard 39 = .ok (.lconst 1, 1) := by decide +kernel
theorem dX7_heard_40 : decode cX7_heard 40 = .ok (.invokestatic 53, 3) := by decide +kernel
theorem dX7_heard_43 : decode cX7_heard 43 = .ok (.ifCond .ne 5, 3) := by decide +kernel
theorem dX7_heard_46 : decode cX7_heard 46 = .ok (.iconst (-1), 1) := by decide +kernel
theorem dX7_heard_47 : decode cX7_heard 47 = .ok (.ireturn, 1) := by decide +kernel
theorem dX7_heard_48 : decode cX7_heard 48 = .ok (.aload_n 0, 1) := by decide +kernel
theorem dX7_heard_49 : decode cX7_heard 49 = .ok (.iload_n 2, 1) := by decide +kernel
theorem dX7_heard_50 : decode cX7_heard 50 = .ok (.iload_n 3, 1) := by decide +kernel
theorem dX7_heard_51 : decode cX7_heard 51 = .ok (.iload 4, 2) := by decide +kernel
theorem dX7_heard_53 : decode cX7_heard 53 = .ok (.iload 5, 2) := by decide +kernel
theorem dX7_heard_55 : decode cX7_heard 55 = .ok (.invokevirtual 233, 3) := by decide +kernel
theorem dX7_heard_58 : decode cX7_heard 58 = .ok (.istore 7, 2) := by decide +kernel
theorem dX7_heard_60 : decode cX7_heard 60 = .ok (.iload 7, 2) := by decide +kernel
theorem dX7_heard_62 : decode cX7_heard 62 = .ok (.ifCond .ge 6, 3) := by decide +kernel
theorem dX7_heard_65 : decode cX7_heard 65 = .ok (.iload 7, 2) := by decide +kernel
theorem dX7_heard_67 : decode cX7_heard 67 = .ok (.ireturn, 1) := by decide +kernel
theorem dX7_heard_68 : decode cX7_heard 68 = .ok (.iconst 0, 1) := by decide +kernel
theorem dX7_heard_69 : decode cX7_heard 69 = .ok (.istore 8, 2) := by decide +kernel
theorem dX7_heard_71 : decode cX7_heard 71 = .ok (.aload_n 0, 1) := by decide +kernel
theorem dX7_heard_72 : decode cX7_heard 72 = .ok (.invokevirtual 175, 3) := by decide +kernel
theorem dX7_heard_75 : decode cX7_heard 75 = .ok (.iconst 0, 1) := by decide +kernel
theorem dX7_heard_76 : decode cX7_heard 76 = .ok (.istore 9, 2) := by decide +kernel
theorem dX7_heard_78 : decode cX7_heard 78 = .ok (.iload 9, 2) := by decide +kernel
theorem dX7_heard_80 : decode cX7_heard 80 = .ok (.iload 6, 2) := by decide +kernel
theorem dX7_heard_82 : decode cX7_heard 82 = .ok (.ifCond .ne 7, 3) := by decide +kernel
theorem dX7_heard_85 : decode cX7_heard 85 = .ok (.iconst 5, 1) := by decide +kernel
theorem dX7_heard_86 : decode cX7_heard 86 = .ok (.goto 5, 3) := by decide +kernel
theorem dX7_heard_89 : decode cX7_heard 89 = .ok (.bipush 19, 2) := by decide +kernel
theorem dX7_heard_91 : decode cX7_heard 91 = .ok (.if_icmp .ge 63, 3) := by decide +kernel
theorem dX7_heard_94 : decode cX7_heard 94 = .ok (.aload_n 0, 1) := by decide +kernel
theorem dX7_heard_95 : decode cX7_heard 95 = .ok (.iload_n 1, 1) := by decide +kernel
theorem dX7_heard_96 : decode cX7_heard 96 = .ok (.iconst 2, 1) := by decide +kernel
theorem dX7_heard_97 : decode cX7_heard 97 = .ok (.iload 6, 2) := by decide +kernel
theorem dX7_heard_99 : decode cX7_heard 99 = .ok (.imul, 1) := by decide +kernel
theorem dX7_heard_100 : decode cX7_heard 100 = .ok (.iload 6, 2) := by decide +kernel
theorem dX7_heard_102 : decode cX7_heard 102 = .ok (.ifCond .ne 8, 3) := by decide +kernel
theorem dX7_heard_105 : decode cX7_heard 105 = .ok (.iload 9, 2) := by decide +kernel
theorem dX7_heard_107 : decode cX7_heard 107 = .ok (.goto 8, 3) := by decide +kernel
theorem dX7_heard_110 : decode cX7_heard 110 = .ok (.iload 9, 2) := by decide +kernel
theorem dX7_heard_112 : decode cX7_heard 112 = .ok (.bipush 9, 2) := by decide +kernel
theorem dX7_heard_114 : decode cX7_heard 114 = .ok (.isub, 1) := by decide +kernel
theorem dX7_heard_115 : decode cX7_heard 115 = .ok (.invokevirtual 81, 3) := by decide +kernel
theorem dX7_heard_118 : decode cX7_heard 118 = .ok (.iload 8, 2) := by decide +kernel
theorem dX7_heard_120 : decode cX7_heard 120 = .ok (.aload_n 0, 1) := by decide +kernel
theorem dX7_heard_121 : decode cX7_heard 121 = .ok (.iload_n 1, 1) := by decide +kernel
theorem dX7_heard_122 : decode cX7_heard 122 = .ok (.bipush 24, 2) := by decide +kernel
theorem dX7_heard_124 : decode cX7_heard 124 = .ok (.iload_n 2, 1) := by decide +kernel
theorem dX7_heard_125 : decode cX7_heard 125 = .ok (.imul, 1) := by decide +kernel
theorem dX7_heard_126 : decode cX7_heard 126 = .ok (.iload 4, 2) := by decide +kernel
theorem dX7_heard_128 : decode cX7_heard 128 = .ok (.iadd, 1) := by decide +kernel
theorem dX7_heard_129 : decode cX7_heard 129 = .ok (.iload 5, 2) := by decide +kernel
theorem dX7_heard_131 : decode cX7_heard 131 = .ok (.invokevirtual 237, 3) := by decide +kernel
theorem dX7_heard_134 : decode cX7_heard 134 = .ok (.ifCond .eq 10, 3) := by decide +kernel
theorem dX7_heard_137 : decode cX7_heard 137 = .ok (.iconst 1, 1) := by decide +kernel
theorem dX7_heard_138 : decode cX7_heard 138 = .ok (.iload 9, 2) := by decide +kernel
theorem dX7_heard_140 : decode cX7_heard 140 = .ok (.ishl, 1) := by decide +kernel
theorem dX7_heard_141 : decode cX7_heard 141 = .ok (.goto 4, 3) := by decide +kernel
theorem dX7_heard_144 : decode cX7_heard 144 = .ok (.iconst 0, 1) := by decide +kernel
theorem dX7_heard_145 : decode cX7_heard 145 = .ok (.ior, 1) := by decide +kernel
theorem dX7_heard_146 : decode cX7_heard 146 = .ok (.istore 8, 2) := by decide +kernel
theorem dX7_heard_148 : decode cX7_heard 148 = .ok (.iinc 9 1, 3) := by decide +kernel
theorem dX7_heard_151 : decode cX7_heard 151 = .ok (.goto (-73), 3) := by decide +kernel
theorem dX7_heard_154 : decode cX7_heard 154 = .ok (.iload 8, 2) := by decide +kernel
theorem dX7_heard_156 : decode cX7_heard 156 = .ok (.ireturn, 1) := by decide +kernel
theorem dX7_film_0 : decode cX7_film 0 = .ok (.aload_n 0, 1) := by decide +kernel
theorem dX7_film_1 : decode cX7_film 1 = .ok (.iload_n 1, 1) := by decide +kernel
theorem dX7_film_2 : decode cX7_film 2 = .ok (.invokevirtual 107, 3) := by decide +kernel
theorem dX7_film_5 : decode cX7_film 5 = .ok (.ifCond .eq 30, 3) := by decide +kernel
theorem dX7_film_8 : decode cX7_film 8 = .ok (.iload_n 2, 1) := by decide +kernel
theorem dX7_film_9 : decode cX7_film 9 = .ok (.i2l, 1) := by decide +kernel
theorem dX7_film_10 : decode cX7_film 10 = .ok (.lconst 1, 1) := by decide +kernel
theorem dX7_film_11 : decode cX7_film 11 = .ok (.ldc2_w 241, 3) := by decide +kernel
theorem dX7_film_14 : decode cX7_film 14 = .ok (.invokestatic 53, 3) := by decide +kernel
theorem dX7_film_17 : decode cX7_film 17 = .ok (.ifCond .eq 18, 3) := by decide +kernel
theorem dX7_film_20 : decode cX7_film 20 = .ok (.iload_n 3, 1) := by decide +kernel
theorem dX7_film_21 : decode cX7_film 21 = .ok (.invokestatic 225, 3) := by decide +kernel
theorem dX7_film_24 : decode cX7_film 24 = .ok (.ifCond .eq 11, 3) := by decide +kernel
theorem dX7_film_27 : decode cX7_film 27 = .ok (.iload 4, 2) := by decide +kernel
theorem dX7_film_29 : decode cX7_film 29 = .ok (.invokestatic 228, 3) := by decide +kernel
theorem dX7_film_32 : decode cX7_film 32 = .ok (.ifCond .ne 5, 3) := by decide +kernel
theorem dX7_film_35 : decode cX7_film 35 = .ok (.iconst (-1), 1) := by decide +kernel
theorem dX7_film_36 : decode cX7_film 36 = .ok (.ireturn, 1) := by decide +kernel
theorem dX7_film_37 : decode cX7_film 37 = .ok (.aload_n 0, 1) := by decide +kernel
theorem dX7_film_38 : decode cX7_film 38 = .ok (.iload_n 3, 1) := by decide +kernel
theorem dX7_film_39 : decode cX7_film 39 = .ok (.iload 4, 2) := by decide +kernel
theorem dX7_film_41 : decode cX7_film 41 = .ok (.iload 5, 2) := by decide +kernel
theorem dX7_film_43 : decode cX7_film 43 = .ok (.iload_n 2, 1) := by decide +kernel
theorem dX7_film_44 : decode cX7_film 44 = .ok (.invokevirtual 233, 3) := by decide +kernel
theorem dX7_film_47 : decode cX7_film 47 = .ok (.istore 6, 2) := by decide +kernel
theorem dX7_film_49 : decode cX7_film 49 = .ok (.iload 6, 2) := by decide +kernel
theorem dX7_film_51 : decode cX7_film 51 = .ok (.ifCond .ge 6, 3) := by decide +kernel
theorem dX7_film_54 : decode cX7_film 54 = .ok (.iload 6, 2) := by decide +kernel
theorem dX7_film_56 : decode cX7_film 56 = .ok (.ireturn, 1) := by decide +kernel
theorem dX7_film_57 : decode cX7_film 57 = .ok (.aload_n 0, 1) := by decide +kernel
theorem dX7_film_58 : decode cX7_film 58 = .ok (.invokevirtual 175, 3) := by decide +kernel
theorem dX7_film_61 : decode cX7_film 61 = .ok (.iconst 0, 1) := by decide +kernel
theorem dX7_film_62 : decode cX7_film 62 = .ok (.istore 7, 2) := by decide +kernel
theorem dX7_film_64 : decode cX7_film 64 = .ok (.iload 7, 2) := by decide +kernel
theorem dX7_film_66 : decode cX7_film 66 = .ok (.iload_n 2, 1) := by decide +kernel
theorem dX7_film_67 : decode cX7_film 67 = .ok (.if_icmp .ge 34, 3) := by decide +kernel
theorem dX7_film_70 : decode cX7_film 70 = .ok (.aload_n 0, 1) := by decide +kernel
theorem dX7_film_71 : decode cX7_film 71 = .ok (.invokevirtual 85, 3) := by decide +kernel
theorem dX7_film_74 : decode cX7_film 74 = .ok (.aload_n 0, 1) := by decide +kernel
theorem dX7_film_75 : decode cX7_film 75 = .ok (.getfield 46, 3) := by decide +kernel
theorem dX7_film_78 : decode cX7_film 78 = .ok (.bipush 24, 2) := by decide +kernel
theorem dX7_film_80 : decode cX7_film 80 = .ok (.iload_n 3, 1) := by decide +kernel
theorem dX7_film_81 : decode cX7_film 81 = .ok (.imul, 1) := by decide +kernel
theorem dX7_film_82 : decode cX7_film 82 = .ok (.iload 5, 2) := by decide +kernel
theorem dX7_film_84 : decode cX7_film 84 = .ok (.iadd, 1) := by decide +kernel
theorem dX7_film_85 : decode cX7_film 85 = .ok (.iload 7, 2) := by decide +kernel
theorem dX7_film_87 : decode cX7_film 87 = .ok (.iadd, 1) := by decide +kernel
theorem dX7_film_88 : decode cX7_film 88 = .ok (.aload_n 0, 1) := by decide +kernel
theorem dX7_film_89 : decode cX7_film 89 = .ok (.iload_n 1, 1) := by decide +kernel
theorem dX7_film_90 : decode cX7_film 90 = .ok (.invokevirtual 65, 3) := by decide +kernel
theorem dX7_film_93 : decode cX7_film 93 = .ok (.i2l, 1) := by decide +kernel
theorem dX7_film_94 : decode cX7_film 94 = .ok (.lastore, 1) := by decide +kernel
theorem dX7_film_95 : decode cX7_film 95 = .ok (.iinc 7 1, 3) := by decide +kernel
theorem dX7_film_98 : decode cX7_film 98 = .ok (.goto (-34), 3) := by decide +kernel
theorem dX7_film_101 : decode cX7_film 101 = .ok (.aload_n 0, 1) := by decide +kernel
theorem dX7_film_102 : decode cX7_film 102 = .ok (.invokevirtual 182, 3) := by decide +kernel
theorem dX7_film_105 : decode cX7_film 105 = .ok (.iload_n 2, 1) := by decide +kernel
theorem dX7_film_106 : decode cX7_film 106 = .ok (.ireturn, 1) := by decide +kernel
theorem dX7_sheet_0 : decode cX7_sheet 0 = .ok (.iload_n 1, 1) := by decide +kernel
theorem dX7_sheet_1 : decode cX7_sheet 1 = .ok (.invokestatic 225, 3) := by decide +kernel
theorem dX7_sheet_4 : decode cX7_sheet 4 = .ok (.ifCond .eq 16, 3) := by decide +kernel
theorem dX7_sheet_7 : decode cX7_sheet 7 = .ok (.iload_n 2, 1) := by decide +kernel
theorem dX7_sheet_8 : decode cX7_sheet 8 = .ok (.invokestatic 228, 3) := by decide +kernel
theorem dX7_sheet_11 : decode cX7_sheet 11 = .ok (.ifCond .eq 9, 3) := by decide +kernel
theorem dX7_sheet_14 : decode cX7_sheet 14 = .ok (.iload_n 3, 1) := by decide +kernel
theorem dX7_sheet_15 : decode cX7_sheet 15 = .ok (.bipush 24, 2) := by decide +kernel
theorem dX7_sheet_17 : decode cX7_sheet 17 = .ok (.if_icmp .le 5, 3) := by decide +kernel
theorem dX7_sheet_20 : decode cX7_sheet 20 = .ok (.iconst (-1), 1) := by decide +kernel
theorem dX7_sheet_21 : decode cX7_sheet 21 = .ok (.ireturn, 1) := by decide +kernel
theorem dX7_sheet_22 : decode cX7_sheet 22 = .ok (.iload_n 3, 1) := by decide +kernel
theorem dX7_sheet_23 : decode cX7_sheet 23 = .ok (.ifCond .ge 6, 3) := by decide +kernel
theorem dX7_sheet_26 : decode cX7_sheet 26 = .ok (.bipush (-14), 2) := by decide +kernel
theorem dX7_sheet_28 : decode cX7_sheet 28 = .ok (.ireturn, 1) := by decide +kernel
theorem dX7_sheet_29 : decode cX7_sheet 29 = .ok (.aload_n 0, 1) := by decide +kernel
theorem dX7_sheet_30 : decode cX7_sheet 30 = .ok (.getfield 40, 3) := by decide +kernel
theorem dX7_sheet_33 : decode cX7_sheet 33 = .ok (.iload_n 1, 1) := by decide +kernel
theorem dX7_sheet_34 : decode cX7_sheet 34 = .ok (.iload_n 2, 1) := by decide +kernel
theorem dX7_sheet_35 : decode cX7_sheet 35 = .ok (.iastore, 1) := by decide +kernel
theorem dX7_sheet_36 : decode cX7_sheet 36 = .ok (.aload_n 0, 1) := by decide +kernel
theorem dX7_sheet_37 : decode cX7_sheet 37 = .ok (.getfield 43, 3) := by decide +kernel
theorem dX7_sheet_40 : decode cX7_sheet 40 = .ok (.iload_n 1, 1) := by decide +kernel
theorem dX7_sheet_41 : decode cX7_sheet 41 = .ok (.iload_n 3, 1) := by decide +kernel
theorem dX7_sheet_42 : decode cX7_sheet 42 = .ok (.iastore, 1) := by decide +kernel
theorem dX7_sheet_43 : decode cX7_sheet 43 = .ok (.iconst 0, 1) := by decide +kernel
theorem dX7_sheet_44 : decode cX7_sheet 44 = .ok (.istore 4, 2) := by decide +kernel
theorem dX7_sheet_46 : decode cX7_sheet 46 = .ok (.iload 4, 2) := by decide +kernel
theorem dX7_sheet_48 : decode cX7_sheet 48 = .ok (.bipush 24, 2) := by decide +kernel
theorem dX7_sheet_50 : decode cX7_sheet 50 = .ok (.if_icmp .ge 22, 3) := by decide +kernel
theorem dX7_sheet_53 : decode cX7_sheet 53 = .ok (.aload_n 0, 1) := by decide +kernel
theorem dX7_sheet_54 : decode cX7_sheet 54 = .ok (.getfield 46, 3) := by decide +kernel
theorem dX7_sheet_57 : decode cX7_sheet 57 = .ok (.bipush 24, 2) := by decide +kernel
theorem dX7_sheet_59 : decode cX7_sheet 59 = .ok (.iload_n 1, 1) := by decide +kernel
theorem dX7_sheet_60 : decode cX7_sheet 60 = .ok (.imul, 1) := by decide +kernel
theorem dX7_sheet_61 : decode cX7_sheet 61 = .ok (.iload 4, 2) := by decide +kernel
theorem dX7_sheet_63 : decode cX7_sheet 63 = .ok (.iadd, 1) := by decide +kernel
theorem dX7_sheet_64 : decode cX7_sheet 64 = .ok (.lconst 0, 1) := by decide +kernel
theorem dX7_sheet_65 : decode cX7_sheet 65 = .ok (.lastore, 1) := by decide +kernel
theorem dX7_sheet_66 : decode cX7_sheet 66 = .ok (.iinc 4 1, 3) := by decide +kernel
theorem dX7_sheet_69 : decode cX7_sheet 69 = .ok (.goto (-23), 3) := by decide +kernel
theorem dX7_sheet_72 : decode cX7_sheet 72 = .ok (.iload_n 3, 1) := by decide +kernel
theorem dX7_sheet_73 : decode cX7_sheet 73 = .ok (.ireturn, 1) := by decide +kernel
theorem dX7_drop_0 : decode cX7_drop 0 = .ok (.iload_n 1, 1) := by decide +kernel
theorem dX7_drop_1 : decode cX7_drop 1 = .ok (.invokestatic 225, 3) := by decide +kernel
theorem dX7_drop_4 : decode cX7_drop 4 = .ok (.ifCond .ne 5, 3) := by decide +kernel
theorem dX7_drop_7 : decode cX7_drop 7 = .ok (.iconst (-1), 1) := by decide +kernel
theorem dX7_drop_8 : decode cX7_drop 8 = .ok (.ireturn, 1) := by decide +kernel
theorem dX7_drop_9 : decode cX7_drop 9 = .ok (.aload_n 0, 1) := by decide +kernel
theorem dX7_drop_10 : decode cX7_drop 10 = .ok (.getfield 40, 3) := by decide +kernel
theorem dX7_drop_13 : decode cX7_drop 13 = .ok (.iload_n 1, 1) := by decide +kernel
theorem dX7_drop_14 : decode cX7_drop 14 = .ok (.iaload, 1) := by decide +kernel
theorem dX7_drop_15 : decode cX7_drop 15 = .ok (.ifCond .ge 6, 3) := by decide +kernel
theorem dX7_drop_18 : decode cX7_drop 18 = .ok (.bipush (-11), 2) := by decide +kernel
theorem dX7_drop_20 : decode cX7_drop 20 = .ok (.ireturn, 1) := by decide +kernel
theorem dX7_drop_21 : decode cX7_drop 21 = .ok (.aload_n 0, 1) := by decide +kernel
theorem dX7_drop_22 : decode cX7_drop 22 = .ok (.getfield 40, 3) := by decide +kernel
theorem dX7_drop_25 : decode cX7_drop 25 = .ok (.iload_n 1, 1) := by decide +kernel
theorem dX7_drop_26 : decode cX7_drop 26 = .ok (.iconst (-1), 1) := by decide +kernel
theorem dX7_drop_27 : decode cX7_drop 27 = .ok (.iastore, 1) := by decide +kernel
theorem dX7_drop_28 : decode cX7_drop 28 = .ok (.aload_n 0, 1) := by decide +kernel
theorem dX7_drop_29 : decode cX7_drop 29 = .ok (.getfield 43, 3) := by decide +kernel
theorem dX7_drop_32 : decode cX7_drop 32 = .ok (.iload_n 1, 1) := by decide +kernel
theorem dX7_drop_33 : decode cX7_drop 33 = .ok (.iaload, 1) := by decide +kernel
theorem dX7_drop_34 : decode cX7_drop 34 = .ok (.ireturn, 1) := by decide +kernel
theorem dX7_item_0 : decode cX7_item 0 = .ok (.iload_n 1, 1) := by decide +kernel
theorem dX7_item_1 : decode cX7_item 1 = .ok (.invokestatic 225, 3) := by decide +kernel
theorem dX7_item_4 : decode cX7_item 4 = .ok (.ifCond .eq 10, 3) := by decide +kernel
theorem dX7_item_7 : decode cX7_item 7 = .ok (.iload_n 2, 1) := by decide +kernel
theorem dX7_item_8 : decode cX7_item 8 = .ok (.invokestatic 228, 3) := by decide +kernel
theorem dX7_item_11 : decode cX7_item 11 = .ok (.ifCond .ne 5, 3) := by decide +kernel
theorem dX7_item_14 : decode cX7_item 14 = .ok (.iconst (-1), 1) := by decide +kernel
theorem dX7_item_15 : decode cX7_item 15 = .ok (.ireturn, 1) := by decide +kernel
theorem dX7_item_16 : decode cX7_item 16 = .ok (.aload_n 0, 1) := by decide +kernel
theorem dX7_item_17 : decode cX7_item 17 = .ok (.iload_n 1, 1) := by decide +kernel
theorem dX7_item_18 : decode cX7_item 18 = .ok (.iload_n 2, 1) := by decide +kernel
theorem dX7_item_19 : decode cX7_item 19 = .ok (.iload_n 3, 1) := by decide +kernel
theorem dX7_item_20 : decode cX7_item 20 = .ok (.iconst 1, 1) := by decide +kernel
theorem dX7_item_21 : decode cX7_item 21 = .ok (.invokevirtual 233, 3) := by decide +kernel
theorem dX7_item_24 : decode cX7_item 24 = .ok (.istore 6, 2) := by decide +kernel
theorem dX7_item_26 : decode cX7_item 26 = .ok (.iload 6, 2) := by decide +kernel
theorem dX7_item_28 : decode cX7_item 28 = .ok (.ifCond .ge 6, 3) := by decide +kernel
theorem dX7_item_31 : decode cX7_item 31 = .ok (.iload 6, 2) := by decide +kernel
theorem dX7_item_33 : decode cX7_item 33 = .ok (.ireturn, 1) := by decide +kernel
theorem dX7_item_34 : decode cX7_item 34 = .ok (.aload_n 0, 1) := by decide +kernel
theorem dX7_item_35 : decode cX7_item 35 = .ok (.getfield 46, 3) := by decide +kernel
theorem dX7_item_38 : decode cX7_item 38 = .ok (.bipush 24, 2) := by decide +kernel
theorem dX7_item_40 : decode cX7_item 40 = .ok (.iload_n 1, 1) := by decide +kernel
theorem dX7_item_41 : decode cX7_item 41 = .ok (.imul, 1) := by decide +kernel
theorem dX7_item_42 : decode cX7_item 42 = .ok (.iload_n 3, 1) := by decide +kernel
theorem dX7_item_43 : decode cX7_item 43 = .ok (.iadd, 1) := by decide +kernel
theorem dX7_item_44 : decode cX7_item 44 = .ok (.iload_n 2, 1) := by decide +kernel
theorem dX7_item_45 : decode cX7_item 45 = .ok (.ifCond .ne 11, 3) := by decide +kernel
theorem dX7_item_48 : decode cX7_item 48 = .ok (.lload 4, 2) := by decide +kernel
theorem dX7_item_50 : decode cX7_item 50 = .ok (.l2i, 1) := by decide +kernel
theorem dX7_item_51 : decode cX7_item 51 = .ok (.i2b, 1) := by decide +kernel
theorem dX7_item_52 : decode cX7_item 52 = .ok (.i2l, 1) := by decide +kernel
theorem dX7_item_53 : decode cX7_item 53 = .ok (.goto 30, 3) := by decide +kernel
theorem dX7_item_56 : decode cX7_item 56 = .ok (.iload_n 2, 1) := by decide +kernel
theorem dX7_item_57 : decode cX7_item 57 = .ok (.iconst 1, 1) := by decide +kernel
theorem dX7_item_58 : decode cX7_item 58 = .ok (.if_icmp .ne 11, 3) := by decide +kernel
theorem dX7_item_61 : decode cX7_item 61 = .ok (.lload 4, 2) := by decide +kernel
theorem dX7_item_63 : decode cX7_item 63 = .ok (.l2i, 1) := by decide +kernel
theorem dX7_item_64 : decode cX7_item 64 = .ok (.i2s, 1) := by decide +kernel
theorem dX7_item_65 : decode cX7_item 65 = .ok (.i2l, 1) := by decide +kernel
theorem dX7_item_66 : decode cX7_item 66 = .ok (.goto 17, 3) := by decide +kernel
theorem dX7_item_69 : decode cX7_item 69 = .ok (.iload_n 2, 1) := by decide +kernel
theorem dX7_item_70 : decode cX7_item 70 = .ok (.iconst 2, 1) := by decide +kernel
theorem dX7_item_71 : decode cX7_item 71 = .ok (.if_icmp .ne 10, 3) := by decide +kernel
theorem dX7_item_74 : decode cX7_item 74 = .ok (.lload 4, 2) := by decide +kernel
theorem dX7_item_76 : decode cX7_item 76 = .ok (.l2i, 1) := by decide +kernel
theorem dX7_item_77 : decode cX7_item 77 = .ok (.i2l, 1) := by decide +kernel
theorem dX7_item_78 : decode cX7_item 78 = .ok (.goto 5, 3) := by decide +kernel
theorem dX7_item_81 : decode cX7_item 81 = .ok (.lload 4, 2) := by decide +kernel
theorem dX7_item_83 : decode cX7_item 83 = .ok (.lastore, 1) := by decide +kernel
theorem dX7_item_84 : decode cX7_item 84 = .ok (.iconst 1, 1) := by decide +kernel
theorem dX7_item_85 : decode cX7_item 85 = .ok (.ireturn, 1) := by decide +kernel
theorem dX7_copy_0 : decode cX7_copy 0 = .ok (.iload_n 1, 1) := by decide +kernel
theorem dX7_copy_1 : decode cX7_copy 1 = .ok (.invokestatic 225, 3) := by decide +kernel
theorem dX7_copy_4 : decode cX7_copy 4 = .ok (.ifCond .eq 10, 3) := by decide +kernel
theorem dX7_copy_7 : decode cX7_copy 7 = .ok (.iload_n 3, 1) := by decide +kernel
theorem dX7_copy_8 : decode cX7_copy 8 = .ok (.invokestatic 225, 3) := by decide +kernel
theorem dX7_copy_11 : decode cX7_copy 11 = .ok (.ifCond .ne 5, 3) := by decide +kernel
theorem dX7_copy_14 : decode cX7_copy 14 = .ok (.iconst (-1), 1) := by decide +kernel
theorem dX7_copy_15 : decode cX7_copy 15 = .ok (.ireturn, 1) := by decide +kernel
theorem dX7_copy_16 : decode cX7_copy 16 = .ok (.aload_n 0, 1) := by decide +kernel
theorem dX7_copy_17 : decode cX7_copy 17 = .ok (.getfield 40, 3) := by decide +kernel
theorem dX7_copy_20 : decode cX7_copy 20 = .ok (.iload_n 1, 1) := by decide +kernel
theorem dX7_copy_21 : decode cX7_copy 21 = .ok (.iaload, 1) := by decide +kernel
theorem dX7_copy_22 : decode cX7_copy 22 = .ok (.ifCond .lt 12, 3) := by decide +kernel
theorem dX7_copy_25 : decode cX7_copy 25 = .ok (.aload_n 0, 1) := by decide +kernel
theorem dX7_copy_26 : decode cX7_copy 26 = .ok (.getfield 40, 3) := by decide +kernel
theorem dX7_copy_29 : decode cX7_copy 29 = .ok (.iload_n 3, 1) := by decide +kernel
theorem dX7_copy_30 : decode cX7_copy 30 = .ok (.iaload, 1) := by decide +kernel
theorem dX7_copy_31 : decode cX7_copy 31 = .ok (.ifCond .ge 6, 3) := by decide +kernel
theorem dX7_copy_34 : decode cX7_copy 34 = .ok (.bipush (-11), 2) := by decide +kernel
theorem dX7_copy_36 : decode cX7_copy 36 = .ok (.ireturn, 1) := by decide +kernel
theorem dX7_copy_37 : decode cX7_copy 37 = .ok (.aload_n 0, 1) := by decide +kernel
theorem dX7_copy_38 : decode cX7_copy 38 = .ok (.iload_n 3, 1) := by decide +kernel
theorem dX7_copy_39 : decode cX7_copy 39 = .ok (.aload_n 0, 1) := by decide +kernel
theorem dX7_copy_40 : decode cX7_copy 40 = .ok (.getfield 40, 3) := by decide +kernel
theorem dX7_copy_43 : decode cX7_copy 43 = .ok (.iload_n 1, 1) := by decide +kernel
theorem dX7_copy_44 : decode cX7_copy 44 = .ok (.iaload, 1) := by decide +kernel
theorem dX7_copy_45 : decode cX7_copy 45 = .ok (.iload 4, 2) := by decide +kernel
theorem dX7_copy_47 : decode cX7_copy 47 = .ok (.iload 5, 2) := by decide +kernel
theorem dX7_copy_49 : decode cX7_copy 49 = .ok (.invokevirtual 233, 3) := by decide +kernel
theorem dX7_copy_52 : decode cX7_copy 52 = .ok (.istore 6, 2) := by decide +kernel
theorem dX7_copy_54 : decode cX7_copy 54 = .ok (.iload 6, 2) := by decide +kernel
theorem dX7_copy_56 : decode cX7_copy 56 = .ok (.ifCond .ne 20, 3) := by decide +kernel
theorem dX7_copy_59 : decode cX7_copy 59 = .ok (.aload_n 0, 1) := by decide +kernel
theorem dX7_copy_60 : decode cX7_copy 60 = .ok (.iload_n 1, 1) := by decide +kernel
theorem dX7_copy_61 : decode cX7_copy 61 = .ok (.aload_n 0, 1) := by decide +kernel
theorem dX7_copy_62 : decode cX7_copy 62 = .ok (.getfield 40, 3) := by decide +kernel
theorem dX7_copy_65 : decode cX7_copy 65 = .ok (.iload_n 1, 1) := by decide +kernel
theorem dX7_copy_66 : decode cX7_copy 66 = .ok (.iaload, 1) := by decide +kernel
theorem dX7_copy_67 : decode cX7_copy 67 = .ok (.iload_n 2, 1) := by decide +kernel
theorem dX7_copy_68 : decode cX7_copy 68 = .ok (.iload 5, 2) := by decide +kernel
theorem dX7_copy_70 : decode cX7_copy 70 = .ok (.invokevirtual 233, 3) := by decide +kernel
theorem dX7_copy_73 : decode cX7_copy 73 = .ok (.goto 5, 3) := by decide +kernel
theorem dX7_copy_76 : decode cX7_copy 76 = .ok (.iload 6, 2) := by decide +kernel
theorem dX7_copy_78 : decode cX7_copy 78 = .ok (.istore 6, 2) := by decide +kernel
theorem dX7_copy_80 : decode cX7_copy 80 = .ok (.iload 6, 2) := by decide +kernel
theorem dX7_copy_82 : decode cX7_copy 82 = .ok (.ifCond .ge 6, 3) := by decide +kernel
theorem dX7_copy_85 : decode cX7_copy 85 = .ok (.iload 6, 2) := by decide +kernel
theorem dX7_copy_87 : decode cX7_copy 87 = .ok (.ireturn, 1) := by decide +kernel
theorem dX7_copy_88 : decode cX7_copy 88 = .ok (.iconst 0, 1) := by decide +kernel
theorem dX7_copy_89 : decode cX7_copy 89 = .ok (.istore 7, 2) := by decide +kernel
theorem dX7_copy_91 : decode cX7_copy 91 = .ok (.iload 7, 2) := by decide +kernel
theorem dX7_copy_93 : decode cX7_copy 93 = .ok (.iload 5, 2) := by decide +kernel
theorem dX7_copy_95 : decode cX7_copy 95 = .ok (.if_icmp .ge 30, 3) := by decide +kernel
theorem dX7_copy_98 : decode cX7_copy 98 = .ok (.aload_n 0, 1) := by decide +kernel
theorem dX7_copy_99 : decode cX7_copy 99 = .ok (.getfield 50, 3) := by decide +kernel
theorem dX7_copy_102 : decode cX7_copy 102 = .ok (.iload 7, 2) := by decide +kernel
theorem dX7_copy_104 : decode cX7_copy 104 = .ok (.aload_n 0, 1) := by decide +kernel
theorem dX7_copy_105 : decode cX7_copy 105 = .ok (.getfield 46, 3) := by decide +kernel
theorem dX7_copy_108 : decode cX7_copy 108 = .ok (.bipush 24, 2) := by decide +kernel
theorem dX7_copy_110 : decode cX7_copy 110 = .ok (.iload_n 1, 1) := by decide +kernel
theorem dX7_copy_111 : decode cX7_copy 111 = .ok (.imul, 1) := by decide +kernel
theorem dX7_copy_112 : decode cX7_copy 112 = .ok (.iload_n 2, 1) := by decide +kernel
theorem dX7_copy_113 : decode cX7_copy 113 = .ok (.iadd, 1) := by decide +kernel
theorem dX7_copy_114 : decode cX7_copy 114 = .ok (.iload 7, 2) := by decide +kernel
theorem dX7_copy_116 : decode cX7_copy 116 = .ok (.iadd, 1) := by decide +kernel
theorem dX7_copy_117 : decode cX7_copy 117 = .ok (.laload, 1) := by decide +kernel
theorem dX7_copy_118 : decode cX7_copy 118 = .ok (.lastore, 1) := by decide +kernel
theorem dX7_copy_119 : decode cX7_copy 119 = .ok (.iinc 7 1, 3) := by decide +kernel
theorem dX7_copy_122 : decode cX7_copy 122 = .ok (.goto (-31), 3) := by decide +kernel
theorem dX7_copy_125 : decode cX7_copy 125 = .ok (.iconst 0, 1) := by decide +kernel
theorem dX7_copy_126 : decode cX7_copy 126 = .ok (.istore 7, 2) := by decide +kernel
theorem dX7_copy_128 : decode cX7_copy 128 = .ok (.iload 7, 2) := by decide +kernel
theorem dX7_copy_130 : decode cX7_copy 130 = .ok (.iload 5, 2) := by decide +kernel
theorem dX7_copy_132 : decode cX7_copy 132 = .ok (.if_icmp .ge 31, 3) := by decide +kernel
theorem dX7_copy_135 : decode cX7_copy 135 = .ok (.aload_n 0, 1) := by decide +kernel
theorem dX7_copy_136 : decode cX7_copy 136 = .ok (.getfield 46, 3) := by decide +kernel
theorem dX7_copy_139 : decode cX7_copy 139 = .ok (.bipush 24, 2) := by decide +kernel
theorem dX7_copy_141 : decode cX7_copy 141 = .ok (.iload_n 3, 1) := by decide +kernel
theorem dX7_copy_142 : decode cX7_copy 142 = .ok (.imul, 1) := by decide +kernel
theorem dX7_copy_143 : decode cX7_copy 143 = .ok (.iload 4, 2) := by decide +kernel
theorem dX7_copy_145 : decode cX7_copy 145 = .ok (.iadd, 1) := by decide +kernel
theorem dX7_copy_146 : decode cX7_copy 146 = .ok (.iload 7, 2) := by decide +kernel
theorem dX7_copy_148 : decode cX7_copy 148 = .ok (.iadd, 1) := by decide +kernel
theorem dX7_copy_149 : decode cX7_copy 149 = .ok (.aload_n 0, 1) := by decide +kernel
theorem dX7_copy_150 : decode cX7_copy 150 = .ok (.getfield 50, 3) := by decide +kernel
theorem dX7_copy_153 : decode cX7_copy 153 = .ok (.iload 7, 2) := by decide +kernel
theorem dX7_copy_155 : decode cX7_copy 155 = .ok (.laload, 1) := by decide +kernel
theorem dX7_copy_156 : decode cX7_copy 156 = .ok (.lastore, 1) := by decide +kernel
theorem dX7_copy_157 : decode cX7_copy 157 = .ok (.iinc 7 1, 3) := by decide +kernel
theorem dX7_copy_160 : decode cX7_copy 160 = .ok (.goto (-32), 3) := by decide +kernel
theorem dX7_copy_163 : decode cX7_copy 163 = .ok (.iload 5, 2) := by decide +kernel
theorem dX7_copy_165 : decode cX7_copy 165 = .ok (.ireturn, 1) := by decide +kernel
theorem dJ6_numberOfTrailingZeros_0f7a4_0 : decode cJ6_numberOfTrailingZeros_0f7a4 0 = .ok (.iload_n 0, 1) := by decide +kernel
theorem dJ6_numberOfTrailingZeros_0f7a4_1 : decode cJ6_numberOfTrailingZeros_0f7a4 1 = .ok (.iconst (-1), 1) := by decide +kernel
theorem dJ6_numberOfTrailingZeros_0f7a4_2 : decode cJ6_numberOfTrailingZeros_0f7a4 2 = .ok (.ixor, 1) := by decide +kernel
theorem dJ6_numberOfTrailingZeros_0f7a4_3 : decode cJ6_numberOfTrailingZeros_0f7a4 3 = .ok (.iload_n 0, 1) := by decide +kernel
theorem dJ6_numberOfTrailingZeros_0f7a4_4 : decode cJ6_numberOfTrailingZeros_0f7a4 4 = .ok (.iconst 1, 1) := by decide +kernel
theorem dJ6_numberOfTrailingZeros_0f7a4_5 : decode cJ6_numberOfTrailingZeros_0f7a4 5 = .ok (.isub, 1) := by decide +kernel
theorem dJ6_numberOfTrailingZeros_0f7a4_6 : decode cJ6_numberOfTrailingZeros_0f7a4 6 = .ok (.iand, 1) := by decide +kernel
theorem dJ6_numberOfTrailingZeros_0f7a4_7 : decode cJ6_numberOfTrailingZeros_0f7a4 7 = .ok (.istore_n 0, 1) := by decide +kernel
theorem dJ6_numberOfTrailingZeros_0f7a4_8 : decode cJ6_numberOfTrailingZeros_0f7a4 8 = .ok (.iload_n 0, 1) := by decide +kernel
theorem dJ6_numberOfTrailingZeros_0f7a4_9 : decode cJ6_numberOfTrailingZeros_0f7a4 9 = .ok (.ifCond .gt 8, 3) := by decide +kernel
theorem dJ6_numberOfTrailingZeros_0f7a4_12 : decode cJ6_numberOfTrailingZeros_0f7a4 12 = .ok (.iload_n 0, 1) := by decide +kernel
theorem dJ6_numberOfTrailingZeros_0f7a4_13 : decode cJ6_numberOfTrailingZeros_0f7a4 13 = .ok (.bipush 32, 2) := by decide +kernel
theorem dJ6_numberOfTrailingZeros_0f7a4_15 : decode cJ6_numberOfTrailingZeros_0f7a4 15 = .ok (.iand, 1) := by decide +kernel
theorem dJ6_numberOfTrailingZeros_0f7a4_16 : decode cJ6_numberOfTrailingZeros_0f7a4 16 = .ok (.ireturn, 1) := by decide +kernel
theorem dJ6_numberOfTrailingZeros_0f7a4_17 : decode cJ6_numberOfTrailingZeros_0f7a4 17 = .ok (.iconst 1, 1) := by decide +kernel
theorem dJ6_numberOfTrailingZeros_0f7a4_18 : decode cJ6_numberOfTrailingZeros_0f7a4 18 = .ok (.istore_n 1, 1) := by decide +kernel
theorem dJ6_numberOfTrailingZeros_0f7a4_19 : decode cJ6_numberOfTrailingZeros_0f7a4 19 = .ok (.iload_n 0, 1) := by decide +kernel
theorem dJ6_numberOfTrailingZeros_0f7a4_20 : decode cJ6_numberOfTrailingZeros_0f7a4 20 = .ok (.ldc_w 264, 3) := by decide +kernel
theorem dJ6_numberOfTrailingZeros_0f7a4_23 : decode cJ6_numberOfTrailingZeros_0f7a4 23 = .ok (.if_icmp .le 11, 3) := by decide +kernel
theorem dJ6_numberOfTrailingZeros_0f7a4_26 : decode cJ6_numberOfTrailingZeros_0f7a4 26 = .ok (.iinc 1 16, 3) := by decide +kernel
theorem dJ6_numberOfTrailingZeros_0f7a4_29 : decode cJ6_numberOfTrailingZeros_0f7a4 29 = .ok (.iload_n 0, 1) := by decide +kernel
theorem dJ6_numberOfTrailingZeros_0f7a4_30 : decode cJ6_numberOfTrailingZeros_0f7a4 30 = .ok (.bipush 16, 2) := by decide +kernel
theorem dJ6_numberOfTrailingZeros_0f7a4_32 : decode cJ6_numberOfTrailingZeros_0f7a4 32 = .ok (.iushr, 1) := by decide +kernel
theorem dJ6_numberOfTrailingZeros_0f7a4_33 : decode cJ6_numberOfTrailingZeros_0f7a4 33 = .ok (.istore_n 0, 1) := by decide +kernel
theorem dJ6_numberOfTrailingZeros_0f7a4_34 : decode cJ6_numberOfTrailingZeros_0f7a4 34 = .ok (.iload_n 0, 1) := by decide +kernel
theorem dJ6_numberOfTrailingZeros_0f7a4_35 : decode cJ6_numberOfTrailingZeros_0f7a4 35 = .ok (.sipush 256, 3) := by decide +kernel
theorem dJ6_numberOfTrailingZeros_0f7a4_38 : decode cJ6_numberOfTrailingZeros_0f7a4 38 = .ok (.if_icmp .le 11, 3) := by decide +kernel
theorem dJ6_numberOfTrailingZeros_0f7a4_41 : decode cJ6_numberOfTrailingZeros_0f7a4 41 = .ok (.iinc 1 8, 3) := by decide +kernel
theorem dJ6_numberOfTrailingZeros_0f7a4_44 : decode cJ6_numberOfTrailingZeros_0f7a4 44 = .ok (.iload_n 0, 1) := by decide +kernel
theorem dJ6_numberOfTrailingZeros_0f7a4_45 : decode cJ6_numberOfTrailingZeros_0f7a4 45 = .ok (.bipush 8, 2) := by decide +kernel
theorem dJ6_numberOfTrailingZeros_0f7a4_47 : decode cJ6_numberOfTrailingZeros_0f7a4 47 = .ok (.iushr, 1) := by decide +kernel
theorem dJ6_numberOfTrailingZeros_0f7a4_48 : decode cJ6_numberOfTrailingZeros_0f7a4 48 = .ok (.istore_n 0, 1) := by decide +kernel
theorem dJ6_numberOfTrailingZeros_0f7a4_49 : decode cJ6_numberOfTrailingZeros_0f7a4 49 = .ok (.iload_n 0, 1) := by decide +kernel
theorem dJ6_numberOfTrailingZeros_0f7a4_50 : decode cJ6_numberOfTrailingZeros_0f7a4 50 = .ok (.bipush 16, 2) := by decide +kernel
theorem dJ6_numberOfTrailingZeros_0f7a4_52 : decode cJ6_numberOfTrailingZeros_0f7a4 52 = .ok (.if_icmp .le 10, 3) := by decide +kernel
theorem dJ6_numberOfTrailingZeros_0f7a4_55 : decode cJ6_numberOfTrailingZeros_0f7a4 55 = .ok (.iinc 1 4, 3) := by decide +kernel
theorem dJ6_numberOfTrailingZeros_0f7a4_58 : decode cJ6_numberOfTrailingZeros_0f7a4 58 = .ok (.iload_n 0, 1) := by decide +kernel
theorem dJ6_numberOfTrailingZeros_0f7a4_59 : decode cJ6_numberOfTrailingZeros_0f7a4 59 = .ok (.iconst 4, 1) := by decide +kernel
theorem dJ6_numberOfTrailingZeros_0f7a4_60 : decode cJ6_numberOfTrailingZeros_0f7a4 60 = .ok (.iushr, 1) := by decide +kernel
theorem dJ6_numberOfTrailingZeros_0f7a4_61 : decode cJ6_numberOfTrailingZeros_0f7a4 61 = .ok (.istore_n 0, 1) := by decide +kernel
theorem dJ6_numberOfTrailingZeros_0f7a4_62 : decode cJ6_numberOfTrailingZeros_0f7a4 62 = .ok (.iload_n 0, 1) := by decide +kernel
theorem dJ6_numberOfTrailingZeros_0f7a4_63 : decode cJ6_numberOfTrailingZeros_0f7a4 63 = .ok (.iconst 4, 1) := by decide +kernel
theorem dJ6_numberOfTrailingZeros_0f7a4_64 : decode cJ6_numberOfTrailingZeros_0f7a4 64 = .ok (.if_icmp .le 10, 3) := by decide +kernel
theorem dJ6_numberOfTrailingZeros_0f7a4_67 : decode cJ6_numberOfTrailingZeros_0f7a4 67 = .ok (.iinc 1 2, 3) := by decide +kernel
theorem dJ6_numberOfTrailingZeros_0f7a4_70 : decode cJ6_numberOfTrailingZeros_0f7a4 70 = .ok (.iload_n 0, 1) := by decide +kernel
theorem dJ6_numberOfTrailingZeros_0f7a4_71 : decode cJ6_numberOfTrailingZeros_0f7a4 71 = .ok (.iconst 2, 1) := by decide +kernel
theorem dJ6_numberOfTrailingZeros_0f7a4_72 : decode cJ6_numberOfTrailingZeros_0f7a4 72 = .ok (.iushr, 1) := by decide +kernel
theorem dJ6_numberOfTrailingZeros_0f7a4_73 : decode cJ6_numberOfTrailingZeros_0f7a4 73 = .ok (.istore_n 0, 1) := by decide +kernel
theorem dJ6_numberOfTrailingZeros_0f7a4_74 : decode cJ6_numberOfTrailingZeros_0f7a4 74 = .ok (.iload_n 1, 1) := by decide +kernel
theorem dJ6_numberOfTrailingZeros_0f7a4_75 : decode cJ6_numberOfTrailingZeros_0f7a4 75 = .ok (.iload_n 0, 1) := by decide +kernel
theorem dJ6_numberOfTrailingZeros_0f7a4_76 : decode cJ6_numberOfTrailingZeros_0f7a4 76 = .ok (.iconst 1, 1) := by decide +kernel
theorem dJ6_numberOfTrailingZeros_0f7a4_77 : decode cJ6_numberOfTrailingZeros_0f7a4 77 = .ok (.iushr, 1) := by decide +kernel
theorem dJ6_numberOfTrailingZeros_0f7a4_78 : decode cJ6_numberOfTrailingZeros_0f7a4 78 = .ok (.iadd, 1) := by decide +kernel
theorem dJ6_numberOfTrailingZeros_0f7a4_79 : decode cJ6_numberOfTrailingZeros_0f7a4 79 = .ok (.ireturn, 1) := by decide +kernel
theorem dJ13_numberOfTrailingZeros_95d88_0 : decode cJ13_numberOfTrailingZeros_95d88 0 = .ok (.lload_n 0, 1) := by decide +kernel
theorem dJ13_numberOfTrailingZeros_95d88_1 : decode cJ13_numberOfTrailingZeros_95d88 1 = .ok (.l2i, 1) := by decide +kernel
theorem dJ13_numberOfTrailingZeros_95d88_2 : decode cJ13_numberOfTrailingZeros_95d88 2 = .ok (.istore_n 2, 1) := by decide +kernel
theorem dJ13_numberOfTrailingZeros_95d88_3 : decode cJ13_numberOfTrailingZeros_95d88 3 = .ok (.iload_n 2, 1) := by decide +kernel
theorem dJ13_numberOfTrailingZeros_95d88_4 : decode cJ13_numberOfTrailingZeros_95d88 4 = .ok (.ifCond .ne 17, 3) := by decide +kernel
theorem dJ13_numberOfTrailingZeros_95d88_7 : decode cJ13_numberOfTrailingZeros_95d88 7 = .ok (.bipush 32, 2) := by decide +kernel
theorem dJ13_numberOfTrailingZeros_95d88_9 : decode cJ13_numberOfTrailingZeros_95d88 9 = .ok (.lload_n 0, 1) := by decide +kernel
theorem dJ13_numberOfTrailingZeros_95d88_10 : decode cJ13_numberOfTrailingZeros_95d88 10 = .ok (.bipush 32, 2) := by decide +kernel
theorem dJ13_numberOfTrailingZeros_95d88_12 : decode cJ13_numberOfTrailingZeros_95d88 12 = .ok (.lushr, 1) := by decide +kernel
theorem dJ13_numberOfTrailingZeros_95d88_13 : decode cJ13_numberOfTrailingZeros_95d88 13 = .ok (.l2i, 1) := by decide +kernel
theorem dJ13_numberOfTrailingZeros_95d88_14 : decode cJ13_numberOfTrailingZeros_95d88 14 = .ok (.invokestatic 311, 3) := by decide +kernel
theorem dJ13_numberOfTrailingZeros_95d88_17 : decode cJ13_numberOfTrailingZeros_95d88 17 = .ok (.iadd, 1) := by decide +kernel
