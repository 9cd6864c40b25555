theorem dX10_layCan_232 : decode cX10_layCan 232 = .ok (.dup, 1) := by decide +kernel
theorem dX10_layCan_233 : decode cX10_layCan 233 = .ok (.getfield 222, 3) := by decide +kernel
theorem dX10_layCan_236 : decode cX10_layCan 236 = .ok (.iload 8, 2) := by decide +kernel
theorem dX10_layCan_238 : decode cX10_layCan 238 = .ok (.ifCond .eq 7, 3) := by decide +kernel
theorem dX10_layCan_241 : decode cX10_layCan 241 = .ok (.iconst 1, 1) := by decide +kernel
theorem dX10_layCan_242 : decode cX10_layCan 242 = .ok (.goto 4, 3) := by decide +kernel
theorem dX10_layCan_245 : decode cX10_layCan 245 = .ok (.iconst 0, 1) := by decide +kernel
theorem dX10_layCan_246 : decode cX10_layCan 246 = .ok (.iadd, 1) := by decide +kernel
theorem dX10_layCan_247 : decode cX10_layCan 247 = .ok (.putfield 222, 3) := by decide +kernel
theorem dX10_layCan_250 : decode cX10_layCan 250 = .ok (.iinc 3 1, 3) := by decide +kernel
theorem dX10_layCan_253 : decode cX10_layCan 253 = .ok (.goto (-234), 3) := by decide +kernel
theorem dX10_layCan_256 : decode cX10_layCan 256 = .ok (.return_, 1) := by decide +kernel
theorem dX10_group_0 : decode cX10_group 0 = .ok (.aload_n 0, 1) := by decide +kernel
theorem dX10_group_1 : decode cX10_group 1 = .ok (.invokevirtual 135, 3) := by decide +kernel
theorem dX10_group_4 : decode cX10_group 4 = .ok (.iload_n 1, 1) := by decide +kernel
theorem dX10_group_5 : decode cX10_group 5 = .ok (.iconst 0, 1) := by decide +kernel
theorem dX10_group_6 : decode cX10_group 6 = .ok (.aload_n 0, 1) := by decide +kernel
theorem dX10_group_7 : decode cX10_group 7 = .ok (.getfield 122, 3) := by decide +kernel
theorem dX10_group_10 : decode cX10_group 10 = .ok (.iconst 1, 1) := by decide +kernel
theorem dX10_group_11 : decode cX10_group 11 = .ok (.isub, 1) := by decide +kernel
theorem dX10_group_12 : decode cX10_group 12 = .ok (.invokestatic 48, 3) := by decide +kernel
theorem dX10_group_15 : decode cX10_group 15 = .ok (.ifCond .eq 13, 3) := by decide +kernel
theorem dX10_group_18 : decode cX10_group 18 = .ok (.iload_n 2, 1) := by decide +kernel
theorem dX10_group_19 : decode cX10_group 19 = .ok (.iconst 0, 1) := by decide +kernel
theorem dX10_group_20 : decode cX10_group 20 = .ok (.bipush 7, 2) := by decide +kernel
theorem dX10_group_22 : decode cX10_group 22 = .ok (.invokestatic 48, 3) := by decide +kernel
theorem dX10_group_25 : decode cX10_group 25 = .ok (.ifCond .ne 5, 3) := by decide +kernel
theorem dX10_group_28 : decode cX10_group 28 = .ok (.iconst (-1), 1) := by decide +kernel
theorem dX10_group_29 : decode cX10_group 29 = .ok (.ireturn, 1) := by decide +kernel
theorem dX10_group_30 : decode cX10_group 30 = .ok (.aload_n 0, 1) := by decide +kernel
theorem dX10_group_31 : decode cX10_group 31 = .ok (.getfield 41, 3) := by decide +kernel
theorem dX10_group_34 : decode cX10_group 34 = .ok (.iload_n 1, 1) := by decide +kernel
theorem dX10_group_35 : decode cX10_group 35 = .ok (.iaload, 1) := by decide +kernel
theorem dX10_group_36 : decode cX10_group 36 = .ok (.istore_n 3, 1) := by decide +kernel
theorem dX10_group_37 : decode cX10_group 37 = .ok (.iload_n 2, 1) := by decide +kernel
theorem dX10_group_38 : decode cX10_group 38 = .ok (.tableswitch 98 0 6 #[42, 44, 50, 56, 62, 68, 88], 42) := by decide +kernel
theorem dX10_group_80 : decode cX10_group 80 = .ok (.iload_n 3, 1) := by decide +kernel
theorem dX10_group_81 : decode cX10_group 81 = .ok (.ireturn, 1) := by decide +kernel
theorem dX10_group_82 : decode cX10_group 82 = .ok (.aload_n 0, 1) := by decide +kernel
theorem dX10_group_83 : decode cX10_group 83 = .ok (.iload_n 3, 1) := by decide +kernel
theorem dX10_group_84 : decode cX10_group 84 = .ok (.invokevirtual 191, 3) := by decide +kernel
theorem dX10_group_87 : decode cX10_group 87 = .ok (.ireturn, 1) := by decide +kernel
theorem dX10_group_88 : decode cX10_group 88 = .ok (.aload_n 0, 1) := by decide +kernel
theorem dX10_group_89 : decode cX10_group 89 = .ok (.iload_n 3, 1) := by decide +kernel
theorem dX10_group_90 : decode cX10_group 90 = .ok (.invokevirtual 207, 3) := by decide +kernel
theorem dX10_group_93 : decode cX10_group 93 = .ok (.ireturn, 1) := by decide +kernel
theorem dX10_group_94 : decode cX10_group 94 = .ok (.aload_n 0, 1) := by decide +kernel
theorem dX10_group_95 : decode cX10_group 95 = .ok (.iload_n 3, 1) := by decide +kernel
theorem dX10_group_96 : decode cX10_group 96 = .ok (.invokevirtual 231, 3) := by decide +kernel
theorem dX10_group_99 : decode cX10_group 99 = .ok (.ireturn, 1) := by decide +kernel
theorem dX10_group_100 : decode cX10_group 100 = .ok (.aload_n 0, 1) := by decide +kernel
theorem dX10_group_101 : decode cX10_group 101 = .ok (.iload_n 3, 1) := by decide +kernel
theorem dX10_group_102 : decode cX10_group 102 = .ok (.invokevirtual 234, 3) := by decide +kernel
theorem dX10_group_105 : decode cX10_group 105 = .ok (.ireturn, 1) := by decide +kernel
theorem dX10_group_106 : decode cX10_group 106 = .ok (.aload_n 0, 1) := by decide +kernel
theorem dX10_group_107 : decode cX10_group 107 = .ok (.iload_n 3, 1) := by decide +kernel
theorem dX10_group_108 : decode cX10_group 108 = .ok (.invokevirtual 234, 3) := by decide +kernel
theorem dX10_group_111 : decode cX10_group 111 = .ok (.bipush (-9), 2) := by decide +kernel
theorem dX10_group_113 : decode cX10_group 113 = .ok (.if_icmp .ne 8, 3) := by decide +kernel
theorem dX10_group_116 : decode cX10_group 116 = .ok (.bipush (-9), 2) := by decide +kernel
theorem dX10_group_118 : decode cX10_group 118 = .ok (.goto 7, 3) := by decide +kernel
theorem dX10_group_121 : decode cX10_group 121 = .ok (.aload_n 0, 1) := by decide +kernel
theorem dX10_group_122 : decode cX10_group 122 = .ok (.getfield 219, 3) := by decide +kernel
theorem dX10_group_125 : decode cX10_group 125 = .ok (.ireturn, 1) := by decide +kernel
theorem dX10_group_126 : decode cX10_group 126 = .ok (.aload_n 0, 1) := by decide +kernel
theorem dX10_group_127 : decode cX10_group 127 = .ok (.iload_n 3, 1) := by decide +kernel
theorem dX10_group_128 : decode cX10_group 128 = .ok (.invokevirtual 237, 3) := by decide +kernel
theorem dX10_group_131 : decode cX10_group 131 = .ok (.aload_n 0, 1) := by decide +kernel
theorem dX10_group_132 : decode cX10_group 132 = .ok (.getfield 222, 3) := by decide +kernel
theorem dX10_group_135 : decode cX10_group 135 = .ok (.ireturn, 1) := by decide +kernel
theorem dX10_group_136 : decode cX10_group 136 = .ok (.aload_n 0, 1) := by decide +kernel
theorem dX10_group_137 : decode cX10_group 137 = .ok (.iload_n 3, 1) := by decide +kernel
theorem dX10_group_138 : decode cX10_group 138 = .ok (.invokevirtual 237, 3) := by decide +kernel
theorem dX10_group_141 : decode cX10_group 141 = .ok (.aload_n 0, 1) := by decide +kernel
theorem dX10_group_142 : decode cX10_group 142 = .ok (.getfield 225, 3) := by decide +kernel
theorem dX10_group_145 : decode cX10_group 145 = .ok (.ireturn, 1) := by decide +kernel
theorem dX10_lowest_0 : decode cX10_lowest 0 = .ok (.lload_n 0, 1) := by decide +kernel
theorem dX10_lowest_1 : decode cX10_lowest 1 = .ok (.lconst 0, 1) := by decide +kernel
theorem dX10_lowest_2 : decode cX10_lowest 2 = .ok (.lcmp, 1) := by decide +kernel
theorem dX10_lowest_3 : decode cX10_lowest 3 = .ok (.ifCond .ge 8, 3) := by decide +kernel
theorem dX10_lowest_6 : decode cX10_lowest 6 = .ok (.lload_n 0, 1) := by decide +kernel
theorem dX10_lowest_7 : decode cX10_lowest 7 = .ok (.lneg, 1) := by decide +kernel
theorem dX10_lowest_8 : decode cX10_lowest 8 = .ok (.goto 4, 3) := by decide +kernel
theorem dX10_lowest_11 : decode cX10_lowest 11 = .ok (.lload_n 0, 1) := by decide +kernel
theorem dX10_lowest_12 : decode cX10_lowest 12 = .ok (.lstore 5, 2) := by decide +kernel
theorem dX10_lowest_14 : decode cX10_lowest 14 = .ok (.lload_n 2, 1) := by decide +kernel
theorem dX10_lowest_15 : decode cX10_lowest 15 = .ok (.lstore 7, 2) := by decide +kernel
theorem dX10_lowest_17 : decode cX10_lowest 17 = .ok (.lload 7, 2) := by decide +kernel
theorem dX10_lowest_19 : decode cX10_lowest 19 = .ok (.lconst 0, 1) := by decide +kernel
theorem dX10_lowest_20 : decode cX10_lowest 20 = .ok (.lcmp, 1) := by decide +kernel
theorem dX10_lowest_21 : decode cX10_lowest 21 = .ok (.ifCond .eq 21, 3) := by decide +kernel
theorem dX10_lowest_24 : decode cX10_lowest 24 = .ok (.lload 5, 2) := by decide +kernel
theorem dX10_lowest_26 : decode cX10_lowest 26 = .ok (.lload 7, 2) := by decide +kernel
theorem dX10_lowest_28 : decode cX10_lowest 28 = .ok (.lrem, 1) := by decide +kernel
theorem dX10_lowest_29 : decode cX10_lowest 29 = .ok (.lstore 9, 2) := by decide +kernel
theorem dX10_lowest_31 : decode cX10_lowest 31 = .ok (.lload 7, 2) := by decide +kernel
theorem dX10_lowest_33 : decode cX10_lowest 33 = .ok (.lstore 5, 2) := by decide +kernel
theorem dX10_lowest_35 : decode cX10_lowest 35 = .ok (.lload 9, 2) := by decide +kernel
theorem dX10_lowest_37 : decode cX10_lowest 37 = .ok (.lstore 7, 2) := by decide +kernel
theorem dX10_lowest_39 : decode cX10_lowest 39 = .ok (.goto (-22), 3) := by decide +kernel
theorem dX10_lowest_42 : decode cX10_lowest 42 = .ok (.iload 4, 2) := by decide +kernel
theorem dX10_lowest_44 : decode cX10_lowest 44 = .ok (.ifCond .eq 10, 3) := by decide +kernel
theorem dX10_lowest_47 : decode cX10_lowest 47 = .ok (.lload_n 0, 1) := by decide +kernel
theorem dX10_lowest_48 : decode cX10_lowest 48 = .ok (.lload 5, 2) := by decide +kernel
theorem dX10_lowest_50 : decode cX10_lowest 50 = .ok (.ldiv, 1) := by decide +kernel
theorem dX10_lowest_51 : decode cX10_lowest 51 = .ok (.goto 7, 3) := by decide +kernel
theorem dX10_lowest_54 : decode cX10_lowest 54 = .ok (.lload_n 2, 1) := by decide +kernel
theorem dX10_lowest_55 : decode cX10_lowest 55 = .ok (.lload 5, 2) := by decide +kernel
theorem dX10_lowest_57 : decode cX10_lowest 57 = .ok (.ldiv, 1) := by decide +kernel
theorem dX10_lowest_58 : decode cX10_lowest 58 = .ok (.l2i, 1) := by decide +kernel
theorem dX10_lowest_59 : decode cX10_lowest 59 = .ok (.ireturn, 1) := by decide +kernel
theorem dX10_place_0 : decode cX10_place 0 = .ok (.aload_n 0, 1) := by decide +kernel
theorem dX10_place_1 : decode cX10_place 1 = .ok (.invokevirtual 135, 3) := by decide +kernel
theorem dX10_place_4 : decode cX10_place 4 = .ok (.iload_n 1, 1) := by decide +kernel
theorem dX10_place_5 : decode cX10_place 5 = .ok (.iconst 0, 1) := by decide +kernel
theorem dX10_place_6 : decode cX10_place 6 = .ok (.aload_n 0, 1) := by decide +kernel
theorem dX10_place_7 : decode cX10_place 7 = .ok (.getfield 122, 3) := by decide +kernel
theorem dX10_place_10 : decode cX10_place 10 = .ok (.iconst 1, 1) := by decide +kernel
theorem dX10_place_11 : decode cX10_place 11 = .ok (.isub, 1) := by decide +kernel
theorem dX10_place_12 : decode cX10_place 12 = .ok (.invokestatic 48, 3) := by decide +kernel
theorem dX10_place_15 : decode cX10_place 15 = .ok (.ifCond .eq 25, 3) := by decide +kernel
theorem dX10_place_18 : decode cX10_place 18 = .ok (.iload_n 2, 1) := by decide +kernel
theorem dX10_place_19 : decode cX10_place 19 = .ok (.iconst 0, 1) := by decide +kernel
theorem dX10_place_20 : decode cX10_place 20 = .ok (.iconst 5, 1) := by decide +kernel
theorem dX10_place_21 : decode cX10_place 21 = .ok (.invokestatic 48, 3) := by decide +kernel
theorem dX10_place_24 : decode cX10_place 24 = .ok (.ifCond .eq 16, 3) := by decide +kernel
theorem dX10_place_27 : decode cX10_place 27 = .ok (.aload_n 0, 1) := by decide +kernel
theorem dX10_place_28 : decode cX10_place 28 = .ok (.aload_n 0, 1) := by decide +kernel
theorem dX10_place_29 : decode cX10_place 29 = .ok (.getfield 41, 3) := by decide +kernel
theorem dX10_place_32 : decode cX10_place 32 = .ok (.iload_n 1, 1) := by decide +kernel
theorem dX10_place_33 : decode cX10_place 33 = .ok (.iaload, 1) := by decide +kernel
theorem dX10_place_34 : decode cX10_place 34 = .ok (.invokevirtual 207, 3) := by decide +kernel
theorem dX10_place_37 : decode cX10_place 37 = .ok (.ifCond .eq 6, 3) := by decide +kernel
theorem dX10_place_40 : decode cX10_place 40 = .ok (.ldc 144, 2) := by decide +kernel
theorem dX10_place_42 : decode cX10_place 42 = .ok (.ireturn, 1) := by decide +kernel
theorem dX10_place_43 : decode cX10_place 43 = .ok (.iload_n 2, 1) := by decide +kernel
theorem dX10_place_44 : decode cX10_place 44 = .ok (.iconst 2, 1) := by decide +kernel
theorem dX10_place_45 : decode cX10_place 45 = .ok (.if_icmp .ge 10, 3) := by decide +kernel
theorem dX10_place_48 : decode cX10_place 48 = .ok (.aload_n 0, 1) := by decide +kernel
theorem dX10_place_49 : decode cX10_place 49 = .ok (.getfield 182, 3) := by decide +kernel
theorem dX10_place_52 : decode cX10_place 52 = .ok (.goto 19, 3) := by decide +kernel
theorem dX10_place_55 : decode cX10_place 55 = .ok (.iload_n 2, 1) := by decide +kernel
theorem dX10_place_56 : decode cX10_place 56 = .ok (.iconst 4, 1) := by decide +kernel
theorem dX10_place_57 : decode cX10_place 57 = .ok (.if_icmp .ge 10, 3) := by decide +kernel
theorem dX10_place_60 : decode cX10_place 60 = .ok (.aload_n 0, 1) := by decide +kernel
theorem dX10_place_61 : decode cX10_place 61 = .ok (.getfield 185, 3) := by decide +kernel
theorem dX10_place_64 : decode cX10_place 64 = .ok (.goto 7, 3) := by decide +kernel
theorem dX10_place_67 : decode cX10_place 67 = .ok (.aload_n 0, 1) := by decide +kernel
theorem dX10_place_68 : decode cX10_place 68 = .ok (.getfield 188, 3) := by decide +kernel
theorem dX10_place_71 : decode cX10_place 71 = .ok (.aload_n 0, 1) := by decide +kernel
theorem dX10_place_72 : decode cX10_place 72 = .ok (.getfield 178, 3) := by decide +kernel
theorem dX10_place_75 : decode cX10_place 75 = .ok (.iload_n 2, 1) := by decide +kernel
theorem dX10_place_76 : decode cX10_place 76 = .ok (.iconst 2, 1) := by decide +kernel
theorem dX10_place_77 : decode cX10_place 77 = .ok (.irem, 1) := by decide +kernel
theorem dX10_place_78 : decode cX10_place 78 = .ok (.ifCond .ne 7, 3) := by decide +kernel
theorem dX10_place_81 : decode cX10_place 81 = .ok (.iconst 1, 1) := by decide +kernel
theorem dX10_place_82 : decode cX10_place 82 = .ok (.goto 4, 3) := by decide +kernel
theorem dX10_place_85 : decode cX10_place 85 = .ok (.iconst 0, 1) := by decide +kernel
theorem dX10_place_86 : decode cX10_place 86 = .ok (.invokestatic 240, 3) := by decide +kernel
theorem dX10_place_89 : decode cX10_place 89 = .ok (.ireturn, 1) := by decide +kernel
theorem dX10_due_0 : decode cX10_due 0 = .ok (.aload_n 0, 1) := by decide +kernel
theorem dX10_due_1 : decode cX10_due 1 = .ok (.iload_n 1, 1) := by decide +kernel
theorem dX10_due_2 : decode cX10_due 2 = .ok (.invokevirtual 138, 3) := by decide +kernel
theorem dX10_due_5 : decode cX10_due 5 = .ok (.ifCond .eq 44, 3) := by decide +kernel
theorem dX10_due_8 : decode cX10_due 8 = .ok (.iload_n 2, 1) := by decide +kernel
theorem dX10_due_9 : decode cX10_due 9 = .ok (.iconst 0, 1) := by decide +kernel
theorem dX10_due_10 : decode cX10_due 10 = .ok (.bipush 29, 2) := by decide +kernel
theorem dX10_due_12 : decode cX10_due 12 = .ok (.invokestatic 48, 3) := by decide +kernel
theorem dX10_due_15 : decode cX10_due 15 = .ok (.ifCond .eq 34, 3) := by decide +kernel
theorem dX10_due_18 : decode cX10_due 18 = .ok (.iload_n 3, 1) := by decide +kernel
theorem dX10_due_19 : decode cX10_due 19 = .ok (.iconst 0, 1) := by decide +kernel
theorem dX10_due_20 : decode cX10_due 20 = .ok (.bipush 29, 2) := by decide +kernel
theorem dX10_due_22 : decode cX10_due 22 = .ok (.invokestatic 48, 3) := by decide +kernel
theorem dX10_due_25 : decode cX10_due 25 = .ok (.ifCond .eq 24, 3) := by decide +kernel
theorem dX10_due_28 : decode cX10_due 28 = .ok (.iload 4, 2) := by decide +kernel
theorem dX10_due_30 : decode cX10_due 30 = .ok (.iconst 0, 1) := by decide +kernel
theorem dX10_due_31 : decode cX10_due 31 = .ok (.bipush 60, 2) := by decide +kernel
theorem dX10_due_33 : decode cX10_due 33 = .ok (.invokestatic 48, 3) := by decide +kernel
theorem dX10_due_36 : decode cX10_due 36 = .ok (.ifCond .eq 13, 3) := by decide +kernel
theorem dX10_due_39 : decode cX10_due 39 = .ok (.iload 5, 2) := by decide +kernel
theorem dX10_due_41 : decode cX10_due 41 = .ok (.iconst 0, 1) := by decide +kernel
theorem dX10_due_42 : decode cX10_due 42 = .ok (.iconst 1, 1) := by decide +kernel
theorem dX10_due_43 : decode cX10_due 43 = .ok (.invokestatic 48, 3) := by decide +kernel
theorem dX10_due_46 : decode cX10_due 46 = .ok (.ifCond .ne 5, 3) := by decide +kernel
theorem dX10_due_49 : decode cX10_due 49 = .ok (.iconst (-1), 1) := by decide +kernel
theorem dX10_due_50 : decode cX10_due 50 = .ok (.ireturn, 1) := by decide +kernel
theorem dX10_due_51 : decode cX10_due 51 = .ok (.iload_n 2, 1) := by decide +kernel
theorem dX10_due_52 : decode cX10_due 52 = .ok (.aload_n 0, 1) := by decide +kernel
theorem dX10_due_53 : decode cX10_due 53 = .ok (.getfield 7, 3) := by decide +kernel
theorem dX10_due_56 : decode cX10_due 56 = .ok (.iload_n 1, 1) := by decide +kernel
theorem dX10_due_57 : decode cX10_due 57 = .ok (.iaload, 1) := by decide +kernel
theorem dX10_due_58 : decode cX10_due 58 = .ok (.isub, 1) := by decide +kernel
theorem dX10_due_59 : decode cX10_due 59 = .ok (.invokestatic 113, 3) := by decide +kernel
theorem dX10_due_62 : decode cX10_due 62 = .ok (.iload_n 3, 1) := by decide +kernel
theorem dX10_due_63 : decode cX10_due 63 = .ok (.aload_n 0, 1) := by decide +kernel
theorem dX10_due_64 : decode cX10_due 64 = .ok (.getfield 13, 3) := by decide +kernel
theorem dX10_due_67 : decode cX10_due 67 = .ok (.iload_n 1, 1) := by decide +kernel
theorem dX10_due_68 : decode cX10_due 68 = .ok (.iaload, 1) := by decide +kernel
theorem dX10_due_69 : decode cX10_due 69 = .ok (.isub, 1) := by decide +kernel
theorem dX10_due_70 : decode cX10_due 70 = .ok (.invokestatic 113, 3) := by decide +kernel
theorem dX10_due_73 : decode cX10_due 73 = .ok (.iadd, 1) := by decide +kernel
theorem dX10_due_74 : decode cX10_due 74 = .ok (.invokestatic 228, 3) := by decide +kernel
theorem dX10_due_77 : decode cX10_due 77 = .ok (.istore 6, 2) := by decide +kernel
theorem dX10_due_79 : decode cX10_due 79 = .ok (.iload 6, 2) := by decide +kernel
theorem dX10_due_81 : decode cX10_due 81 = .ok (.bipush (-9), 2) := by decide +kernel
theorem dX10_due_83 : decode cX10_due 83 = .ok (.if_icmp .eq 8, 3) := by decide +kernel
theorem dX10_due_86 : decode cX10_due 86 = .ok (.iload 5, 2) := by decide +kernel
theorem dX10_due_88 : decode cX10_due 88 = .ok (.ifCond .ne 21, 3) := by decide +kernel
theorem dX10_due_91 : decode cX10_due 91 = .ok (.iload 6, 2) := by decide +kernel
theorem dX10_due_93 : decode cX10_due 93 = .ok (.bipush (-9), 2) := by decide +kernel
theorem dX10_due_95 : decode cX10_due 95 = .ok (.if_icmp .ne 8, 3) := by decide +kernel
theorem dX10_due_98 : decode cX10_due 98 = .ok (.bipush (-9), 2) := by decide +kernel
theorem dX10_due_100 : decode cX10_due 100 = .ok (.goto 8, 3) := by decide +kernel
theorem dX10_due_103 : decode cX10_due 103 = .ok (.iload 4, 2) := by decide +kernel
theorem dX10_due_105 : decode cX10_due 105 = .ok (.iload 6, 2) := by decide +kernel
theorem dX10_due_107 : decode cX10_due 107 = .ok (.iadd, 1) := by decide +kernel
theorem dX10_due_108 : decode cX10_due 108 = .ok (.ireturn, 1) := by decide +kernel
theorem dX10_due_109 : decode cX10_due 109 = .ok (.iload 4, 2) := by decide +kernel
theorem dX10_due_111 : decode cX10_due 111 = .ok (.iload 6, 2) := by decide +kernel
theorem dX10_due_113 : decode cX10_due 113 = .ok (.iadd, 1) := by decide +kernel
theorem dX10_due_114 : decode cX10_due 114 = .ok (.istore 7, 2) := by decide +kernel
theorem dX10_due_116 : decode cX10_due 116 = .ok (.aload_n 0, 1) := by decide +kernel
theorem dX10_due_117 : decode cX10_due 117 = .ok (.getfield 16, 3) := by decide +kernel
theorem dX10_due_120 : decode cX10_due 120 = .ok (.iconst 1, 1) := by decide +kernel
theorem dX10_due_121 : decode cX10_due 121 = .ok (.iload_n 1, 1) := by decide +kernel
theorem dX10_due_122 : decode cX10_due 122 = .ok (.iadd, 1) := by decide +kernel
theorem dX10_due_123 : decode cX10_due 123 = .ok (.iaload, 1) := by decide +kernel
theorem dX10_due_124 : decode cX10_due 124 = .ok (.istore 8, 2) := by decide +kernel
theorem dX10_due_126 : decode cX10_due 126 = .ok (.iload 8, 2) := by decide +kernel
theorem dX10_due_128 : decode cX10_due 128 = .ok (.iconst 1, 1) := by decide +kernel
theorem dX10_due_129 : decode cX10_due 129 = .ok (.if_icmp .ne 10, 3) := by decide +kernel
theorem dX10_due_132 : decode cX10_due 132 = .ok (.iload 7, 2) := by decide +kernel
theorem dX10_due_134 : decode cX10_due 134 = .ok (.iconst 3, 1) := by decide +kernel
theorem dX10_due_135 : decode cX10_due 135 = .ok (.iadd, 1) := by decide +kernel
theorem dX10_due_136 : decode cX10_due 136 = .ok (.goto 45, 3) := by decide +kernel
theorem dX10_due_139 : decode cX10_due 139 = .ok (.iload 8, 2) := by decide +kernel
theorem dX10_due_141 : decode cX10_due 141 = .ok (.iconst 2, 1) := by decide +kernel
theorem dX10_due_142 : decode cX10_due 142 = .ok (.if_icmp .ne 10, 3) := by decide +kernel
theorem dX10_due_145 : decode cX10_due 145 = .ok (.iload 7, 2) := by decide +kernel
theorem dX10_due_147 : decode cX10_due 147 = .ok (.iconst 3, 1) := by decide +kernel
theorem dX10_due_148 : decode cX10_due 148 = .ok (.isub, 1) := by decide +kernel
theorem dX10_due_149 : decode cX10_due 149 = .ok (.goto 32, 3) := by decide +kernel
theorem dX10_due_152 : decode cX10_due 152 = .ok (.iload 8, 2) := by decide +kernel
theorem dX10_due_154 : decode cX10_due 154 = .ok (.iconst 3, 1) := by decide +kernel
theorem dX10_due_155 : decode cX10_due 155 = .ok (.if_icmp .ne 10, 3) := by decide +kernel
theorem dX10_due_158 : decode cX10_due 158 = .ok (.iconst 2, 1) := by decide +kernel
theorem dX10_due_159 : decode cX10_due 159 = .ok (.iload 7, 2) := by decide +kernel
theorem dX10_due_161 : decode cX10_due 161 = .ok (.imul, 1) := by decide +kernel
theorem dX10_due_162 : decode cX10_due 162 = .ok (.goto 19, 3) := by decide +kernel
theorem dX10_due_165 : decode cX10_due 165 = .ok (.iload 8, 2) := by decide +kernel
theorem dX10_due_167 : decode cX10_due 167 = .ok (.iconst 4, 1) := by decide +kernel
theorem dX10_due_168 : decode cX10_due 168 = .ok (.if_icmp .ne 11, 3) := by decide +kernel
theorem dX10_due_171 : decode cX10_due 171 = .ok (.bipush 60, 2) := by decide +kernel
theorem dX10_due_173 : decode cX10_due 173 = .ok (.iload 7, 2) := by decide +kernel
theorem dX10_due_175 : decode cX10_due 175 = .ok (.isub, 1) := by decide +kernel
theorem dX10_due_176 : decode cX10_due 176 = .ok (.goto 5, 3) := by decide +kernel
theorem dX10_due_179 : decode cX10_due 179 = .ok (.iload 7, 2) := by decide +kernel
theorem dX10_due_181 : decode cX10_due 181 = .ok (.istore 9, 2) := by decide +kernel
theorem dX10_due_183 : decode cX10_due 183 = .ok (.iload 9, 2) := by decide +kernel
theorem dX10_due_185 : decode cX10_due 185 = .ok (.iconst 0, 1) := by decide +kernel
theorem dX10_due_186 : decode cX10_due 186 = .ok (.bipush 60, 2) := by decide +kernel
theorem dX10_due_188 : decode cX10_due 188 = .ok (.invokestatic 48, 3) := by decide +kernel
theorem dX10_due_191 : decode cX10_due 191 = .ok (.ifCond .eq 8, 3) := by decide +kernel
theorem dX10_due_194 : decode cX10_due 194 = .ok (.iload 9, 2) := by decide +kernel
theorem dX10_due_196 : decode cX10_due 196 = .ok (.goto 5, 3) := by decide +kernel
theorem dX10_due_199 : decode cX10_due 199 = .ok (.bipush (-9), 2) := by decide +kernel
theorem dX10_due_201 : decode cX10_due 201 = .ok (.ireturn, 1) := by decide +kernel
theorem dX10_odds_0 : decode cX10_odds 0 = .ok (.aload_n 0, 1) := by decide +kernel
theorem dX10_odds_1 : decode cX10_odds 1 = .ok (.invokevirtual 135, 3) := by decide +kernel
theorem dX10_odds_4 : decode cX10_odds 4 = .ok (.iload_n 1, 1) := by decide +kernel
theorem dX10_odds_5 : decode cX10_odds 5 = .ok (.iconst 0, 1) := by decide +kernel
theorem dX10_odds_6 : decode cX10_odds 6 = .ok (.aload_n 0, 1) := by decide +kernel
theorem dX10_odds_7 : decode cX10_odds 7 = .ok (.getfield 122, 3) := by decide +kernel
theorem dX10_odds_10 : decode cX10_odds 10 = .ok (.iconst 1, 1) := by decide +kernel
theorem dX10_odds_11 : decode cX10_odds 11 = .ok (.isub, 1) := by decide +kernel
theorem dX10_odds_12 : decode cX10_odds 12 = .ok (.invokestatic 48, 3) := by decide +kernel
theorem dX10_odds_15 : decode cX10_odds 15 = .ok (.ifCond .eq 22, 3) := by decide +kernel
theorem dX10_odds_18 : decode cX10_odds 18 = .ok (.iload_n 2, 1) := by decide +kernel
theorem dX10_odds_19 : decode cX10_odds 19 = .ok (.iconst 0, 1) := by decide +kernel
theorem dX10_odds_20 : decode cX10_odds 20 = .ok (.bipush 10, 2) := by decide +kernel
theorem dX10_odds_22 : decode cX10_odds 22 = .ok (.invokestatic 48, 3) := by decide +kernel
theorem dX10_odds_25 : decode cX10_odds 25 = .ok (.ifCond .eq 12, 3) := by decide +kernel
theorem dX10_odds_28 : decode cX10_odds 28 = .ok (.iload_n 3, 1) := by decide +kernel
theorem dX10_odds_29 : decode cX10_odds 29 = .ok (.iconst 0, 1) := by decide +kernel
theorem dX10_odds_30 : decode cX10_odds 30 = .ok (.iconst 1, 1) := by decide +kernel
theorem dX10_odds_31 : decode cX10_odds 31 = .ok (.invokestatic 48, 3) := by decide +kernel
theorem dX10_odds_34 : decode cX10_odds 34 = .ok (.ifCond .ne 5, 3) := by decide +kernel
theorem dX10_odds_37 : decode cX10_odds 37 = .ok (.iconst (-1), 1) := by decide +kernel
theorem dX10_odds_38 : decode cX10_odds 38 = .ok (.ireturn, 1) := by decide +kernel
theorem dX10_odds_39 : decode cX10_odds 39 = .ok (.aload_n 0, 1) := by decide +kernel
theorem dX10_odds_40 : decode cX10_odds 40 = .ok (.getfield 41, 3) := by decide +kernel
theorem dX10_odds_43 : decode cX10_odds 43 = .ok (.iload_n 1, 1) := by decide +kernel
theorem dX10_odds_44 : decode cX10_odds 44 = .ok (.iaload, 1) := by decide +kernel
theorem dX10_odds_45 : decode cX10_odds 45 = .ok (.istore 4, 2) := by decide +kernel
theorem dX10_odds_47 : decode cX10_odds 47 = .ok (.lconst 1, 1) := by decide +kernel
theorem dX10_odds_48 : decode cX10_odds 48 = .ok (.lstore 5, 2) := by decide +kernel
theorem dX10_odds_50 : decode cX10_odds 50 = .ok (.lconst 0, 1) := by decide +kernel
theorem dX10_odds_51 : decode cX10_odds 51 = .ok (.lstore 7, 2) := by decide +kernel
theorem dX10_odds_53 : decode cX10_odds 53 = .ok (.iconst 0, 1) := by decide +kernel
theorem dX10_odds_54 : decode cX10_odds 54 = .ok (.istore 9, 2) := by decide +kernel
theorem dX10_odds_56 : decode cX10_odds 56 = .ok (.iload 9, 2) := by decide +kernel
theorem dX10_odds_58 : decode cX10_odds 58 = .ok (.iload 4, 2) := by decide +kernel
theorem dX10_odds_60 : decode cX10_odds 60 = .ok (.invokestatic 210, 3) := by decide +kernel
theorem dX10_odds_63 : decode cX10_odds 63 = .ok (.if_icmp .ge 17, 3) := by decide +kernel
theorem dX10_odds_66 : decode cX10_odds 66 = .ok (.lload 5, 2) := by decide +kernel
theorem dX10_odds_68 : decode cX10_odds 68 = .ok (.ldc2_w 244, 3) := by decide +kernel
theorem dX10_odds_71 : decode cX10_odds 71 = .ok (.lmul, 1) := by decide +kernel
theorem dX10_odds_72 : decode cX10_odds 72 = .ok (.lstore 5, 2) := by decide +kernel
theorem dX10_odds_74 : decode cX10_odds 74 = .ok (.iinc 9 1, 3) := by decide +kernel
theorem dX10_odds_77 : decode cX10_odds 77 = .ok (.goto (-21), 3) := by decide +kernel
theorem dX10_odds_80 : decode cX10_odds 80 = .ok (.iload 4, 2) := by decide +kernel
theorem dX10_odds_82 : decode cX10_odds 82 = .ok (.istore 9, 2) := by decide +kernel
theorem dX10_odds_84 : decode cX10_odds 84 = .ok (.iload 9, 2) := by decide +kernel
theorem dX10_odds_86 : decode cX10_odds 86 = .ok (.ifCond .le 104, 3) := by decide +kernel
theorem dX10_odds_89 : decode cX10_odds 89 = .ok (.lconst 1, 1) := by decide +kernel
theorem dX10_odds_90 : decode cX10_odds 90 = .ok (.lstore 10, 2) := by decide +kernel
theorem dX10_odds_92 : decode cX10_odds 92 = .ok (.iconst 0, 1) := by decide +kernel
theorem dX10_odds_93 : decode cX10_odds 93 = .ok (.istore 12, 2) := by decide +kernel
theorem dX10_odds_95 : decode cX10_odds 95 = .ok (.iload 12, 2) := by decide +kernel
theorem dX10_odds_97 : decode cX10_odds 97 = .ok (.aload_n 0, 1) := by decide +kernel
theorem dX10_odds_98 : decode cX10_odds 98 = .ok (.getfield 16, 3) := by decide +kernel
theorem dX10_odds_101 : decode cX10_odds 101 = .ok (.iconst 0, 1) := by decide +kernel
theorem dX10_odds_102 : decode cX10_odds 102 = .ok (.iaload, 1) := by decide +kernel
theorem dX10_odds_103 : decode cX10_odds 103 = .ok (.if_icmp .ge 48, 3) := by decide +kernel
theorem dX10_odds_106 : decode cX10_odds 106 = .ok (.lload 10, 2) := by decide +kernel
theorem dX10_odds_108 : decode cX10_odds 108 = .ok (.iload 4, 2) := by decide +kernel
theorem dX10_odds_110 : decode cX10_odds 110 = .ok (.iload 12, 2) := by decide +kernel
theorem dX10_odds_112 : decode cX10_odds 112 = .ok (.invokestatic 125, 3) := by decide +kernel
theorem dX10_odds_115 : decode cX10_odds 115 = .ok (.ifCond .ne 7, 3) := by decide +kernel
theorem dX10_odds_118 : decode cX10_odds 118 = .ok (.lconst 1, 1) := by decide +kernel
theorem dX10_odds_119 : decode cX10_odds 119 = .ok (.goto 23, 3) := by decide +kernel
theorem dX10_odds_122 : decode cX10_odds 122 = .ok (.iload 9, 2) := by decide +kernel
theorem dX10_odds_124 : decode cX10_odds 124 = .ok (.iload 12, 2) := by decide +kernel
theorem dX10_odds_126 : decode cX10_odds 126 = .ok (.invokestatic 125, 3) := by decide +kernel
theorem dX10_odds_129 : decode cX10_odds 129 = .ok (.ifCond .eq 11, 3) := by decide +kernel
theorem dX10_odds_132 : decode cX10_odds 132 = .ok (.bipush 10, 2) := by decide +kernel
theorem dX10_odds_134 : decode cX10_odds 134 = .ok (.iload_n 2, 1) := by decide +kernel
theorem dX10_odds_135 : decode cX10_odds 135 = .ok (.isub, 1) := by decide +kernel
theorem dX10_odds_136 : decode cX10_odds 136 = .ok (.i2l, 1) := by decide +kernel
theorem dX10_odds_137 : decode cX10_odds 137 = .ok (.goto 5, 3) := by decide +kernel
theorem dX10_odds_140 : decode cX10_odds 140 = .ok (.iload_n 2, 1) := by decide +kernel
theorem dX10_odds_141 : decode cX10_odds 141 = .ok (.i2l, 1) := by decide +kernel
theorem dX10_odds_142 : decode cX10_odds 142 = .ok (.lmul, 1) := by decide +kernel
theorem dX10_odds_143 : decode cX10_odds 143 = .ok (.lstore 10, 2) := by decide +kernel
theorem dX10_odds_145 : decode cX10_odds 145 = .ok (.iinc 12 1, 3) := by decide +kernel
theorem dX10_odds_148 : decode cX10_odds 148 = .ok (.goto (-53), 3) := by decide +kernel
theorem dX10_odds_151 : decode cX10_odds 151 = .ok (.lload 7, 2) := by decide +kernel
theorem dX10_odds_153 : decode cX10_odds 153 = .ok (.lload 10, 2) := by decide +kernel
theorem dX10_odds_155 : decode cX10_odds 155 = .ok (.lconst 0, 1) := by decide +kernel
theorem dX10_odds_156 : decode cX10_odds 156 = .ok (.lcmp, 1) := by decide +kernel
theorem dX10_odds_157 : decode cX10_odds 157 = .ok (.ifCond .le 17, 3) := by decide +kernel
theorem dX10_odds_160 : decode cX10_odds 160 = .ok (.aload_n 0, 1) := by decide +kernel
theorem dX10_odds_161 : decode cX10_odds 161 = .ok (.iload 9, 2) := by decide +kernel
theorem dX10_odds_163 : decode cX10_odds 163 = .ok (.invokevirtual 207, 3) := by decide +kernel
theorem dX10_odds_166 : decode cX10_odds 166 = .ok (.ifCond .ne 8, 3) := by decide +kernel
theorem dX10_odds_169 : decode cX10_odds 169 = .ok (.lload 10, 2) := by decide +kernel
theorem dX10_odds_171 : decode cX10_odds 171 = .ok (.goto 4, 3) := by decide +kernel
theorem dX10_odds_174 : decode cX10_odds 174 = .ok (.lconst 0, 1) := by decide +kernel
theorem dX10_odds_175 : decode cX10_odds 175 = .ok (.ladd, 1) := by decide +kernel
theorem dX10_odds_176 : decode cX10_odds 176 = .ok (.lstore 7, 2) := by decide +kernel
theorem dX10_odds_178 : decode cX10_odds 178 = .ok (.iload 9, 2) := by decide +kernel
theorem dX10_odds_180 : decode cX10_odds 180 = .ok (.iconst 1, 1) := by decide +kernel
theorem dX10_odds_181 : decode cX10_odds 181 = .ok (.isub, 1) := by decide +kernel
theorem dX10_odds_182 : decode cX10_odds 182 = .ok (.iload 4, 2) := by decide +kernel
theorem dX10_odds_184 : decode cX10_odds 184 = .ok (.iand, 1) := by decide +kernel
theorem dX10_odds_185 : decode cX10_odds 185 = .ok (.istore 9, 2) := by decide +kernel
theorem dX10_odds_187 : decode cX10_odds 187 = .ok (.goto (-103), 3) := by decide +kernel
theorem dX10_odds_190 : decode cX10_odds 190 = .ok (.lload 7, 2) := by decide +kernel
theorem dX10_odds_192 : decode cX10_odds 192 = .ok (.lload 5, 2) := by decide +kernel
theorem dX10_odds_194 : decode cX10_odds 194 = .ok (.iload_n 3, 1) := by decide +kernel
theorem dX10_odds_195 : decode cX10_odds 195 = .ok (.ifCond .ne 7, 3) := by decide +kernel
theorem dX10_odds_198 : decode cX10_odds 198 = .ok (.iconst 1, 1) := by decide +kernel
theorem dX10_odds_199 : decode cX10_odds 199 = .ok (.goto 4, 3) := by decide +kernel
theorem dX10_odds_202 : decode cX10_odds 202 = .ok (.iconst 0, 1) := by decide +kernel
theorem dX10_odds_203 : decode cX10_odds 203 = .ok (.invokestatic 240, 3) := by decide +kernel
theorem dX10_odds_206 : decode cX10_odds 206 = .ok (.ireturn, 1) := by decide +kernel
theorem dX10_keep_0 : decode cX10_keep 0 = .ok (.iload_n 1, 1) := by decide +kernel
theorem dX10_keep_1 : decode cX10_keep 1 = .ok (.iconst 0, 1) := by decide +kernel
theorem dX10_keep_2 : decode cX10_keep 2 = .ok (.iconst 1, 1) := by decide +kernel
theorem dX10_keep_3 : decode cX10_keep 3 = .ok (.invokestatic 48, 3) := by decide +kernel
theorem dX10_keep_6 : decode cX10_keep 6 = .ok (.ifCond .ne 5, 3) := by decide +kernel
theorem dX10_keep_9 : decode cX10_keep 9 = .ok (.iconst (-1), 1) := by decide +kernel
theorem dX10_keep_10 : decode cX10_keep 10 = .ok (.ireturn, 1) := by decide +kernel
theorem dX10_keep_11 : decode cX10_keep 11 = .ok (.aload_n 0, 1) := by decide +kernel
theorem dX10_keep_12 : decode cX10_keep 12 = .ok (.getfield 22, 3) := by decide +kernel
theorem dX10_keep_15 : decode cX10_keep 15 = .ok (.iload_n 1, 1) := by decide +kernel
theorem dX10_keep_16 : decode cX10_keep 16 = .ok (.iconst 1, 1) := by decide +kernel
theorem dX10_keep_17 : decode cX10_keep 17 = .ok (.bastore, 1) := by decide +kernel
theorem dX10_keep_18 : decode cX10_keep 18 = .ok (.iconst 0, 1) := by decide +kernel
theorem dX10_keep_19 : decode cX10_keep 19 = .ok (.istore_n 2, 1) := by decide +kernel
theorem dX10_keep_20 : decode cX10_keep 20 = .ok (.iload_n 2, 1) := by decide +kernel
theorem dX10_keep_21 : decode cX10_keep 21 = .ok (.bipush 25, 2) := by decide +kernel
theorem dX10_keep_23 : decode cX10_keep 23 = .ok (.if_icmp .ge 26, 3) := by decide +kernel
theorem dX10_keep_26 : decode cX10_keep 26 = .ok (.aload_n 0, 1) := by decide +kernel
theorem dX10_keep_27 : decode cX10_keep 27 = .ok (.getfield 26, 3) := by decide +kernel
theorem dX10_keep_30 : decode cX10_keep 30 = .ok (.bipush 25, 2) := by decide +kernel
theorem dX10_keep_32 : decode cX10_keep 32 = .ok (.iload_n 1, 1) := by decide +kernel
theorem dX10_keep_33 : decode cX10_keep 33 = .ok (.imul, 1) := by decide +kernel
theorem dX10_keep_34 : decode cX10_keep 34 = .ok (.iload_n 2, 1) := by decide +kernel
theorem dX10_keep_35 : decode cX10_keep 35 = .ok (.iadd, 1) := by decide +kernel
theorem dX10_keep_36 : decode cX10_keep 36 = .ok (.aload_n 0, 1) := by decide +kernel
theorem dX10_keep_37 : decode cX10_keep 37 = .ok (.getfield 16, 3) := by decide +kernel
theorem dX10_keep_40 : decode cX10_keep 40 = .ok (.iload_n 2, 1) := by decide +kernel
theorem dX10_keep_41 : decode cX10_keep 41 = .ok (.iaload, 1) := by decide +kernel
theorem dX10_keep_42 : decode cX10_keep 42 = .ok (.iastore, 1) := by decide +kernel
theorem dX10_keep_43 : decode cX10_keep 43 = .ok (.iinc 2 1, 3) := by decide +kernel
theorem dX10_keep_46 : decode cX10_keep 46 = .ok (.goto (-26), 3) := by decide +kernel
theorem dX10_keep_49 : decode cX10_keep 49 = .ok (.aload_n 0, 1) := by decide +kernel
theorem dX10_keep_50 : decode cX10_keep 50 = .ok (.getfield 16, 3) := by decide +kernel
theorem dX10_keep_53 : decode cX10_keep 53 = .ok (.iconst 0, 1) := by decide +kernel
theorem dX10_keep_54 : decode cX10_keep 54 = .ok (.iaload, 1) := by decide +kernel
theorem dX10_keep_55 : decode cX10_keep 55 = .ok (.ireturn, 1) := by decide +kernel
theorem dX10_back_0 : decode cX10_back 0 = .ok (.iload_n 1, 1) := by decide +kernel
theorem dX10_back_1 : decode cX10_back 1 = .ok (.iconst 0, 1) := by decide +kernel
theorem dX10_back_2 : decode cX10_back 2 = .ok (.iconst 1, 1) := by decide +kernel
theorem dX10_back_3 : decode cX10_back 3 = .ok (.invokestatic 48, 3) := by decide +kernel
theorem dX10_back_6 : decode cX10_back 6 = .ok (.ifCond .ne 5, 3) := by decide +kernel
theorem dX10_back_9 : decode cX10_back 9 = .ok (.iconst (-1), 1) := by decide +kernel
theorem dX10_back_10 : decode cX10_back 10 = .ok (.ireturn, 1) := by decide +kernel
theorem dX10_back_11 : decode cX10_back 11 = .ok (.aload_n 0, 1) := by decide +kernel
theorem dX10_back_12 : decode cX10_back 12 = .ok (.getfield 22, 3) := by decide +kernel
theorem dX10_back_15 : decode cX10_back 15 = .ok (.iload_n 1, 1) := by decide +kernel
theorem dX10_back_16 : decode cX10_back 16 = .ok (.baload, 1) := by decide +kernel
theorem dX10_back_17 : decode cX10_back 17 = .ok (.ifCond .ne 6, 3) := by decide +kernel
theorem dX10_back_20 : decode cX10_back 20 = .ok (.bipush (-2), 2) := by decide +kernel
theorem dX10_back_22 : decode cX10_back 22 = .ok (.ireturn, 1) := by decide +kernel
theorem dX10_back_23 : decode cX10_back 23 = .ok (.iconst 0, 1) := by decide +kernel
theorem dX10_back_24 : decode cX10_back 24 = .ok (.istore_n 2, 1) := by decide +kernel
theorem dX10_back_25 : decode cX10_back 25 = .ok (.iload_n 2, 1) := by decide +kernel
theorem dX10_back_26 : decode cX10_back 26 = .ok (.bipush 25, 2) := by decide +kernel
theorem dX10_back_28 : decode cX10_back 28 = .ok (.if_icmp .ge 26, 3) := by decide +kernel
theorem dX10_back_31 : decode cX10_back 31 = .ok (.aload_n 0, 1) := by decide +kernel
theorem dX10_back_32 : decode cX10_back 32 = .ok (.getfield 16, 3) := by decide +kernel
theorem dX10_back_35 : decode cX10_back 35 = .ok (.iload_n 2, 1) := by decide +kernel
theorem dX10_back_36 : decode cX10_back 36 = .ok (.aload_n 0, 1) := by decide +kernel
theorem dX10_back_37 : decode cX10_back 37 = .ok (.getfield 26, 3) := by decide +kernel
theorem dX10_back_40 : decode cX10_back 40 = .ok (.bipush 25, 2) := by decide +kernel
theorem dX10_back_42 : decode cX10_back 42 = .ok (.iload_n 1, 1) := by decide +kernel
theorem dX10_back_43 : decode cX10_back 43 = .ok (.imul, 1) := by decide +kernel
theorem dX10_back_44 : decode cX10_back 44 = .ok (.iload_n 2, 1) := by decide +kernel
theorem dX10_back_45 : decode cX10_back 45 = .ok (.iadd, 1) := by decide +kernel
theorem dX10_back_46 : decode cX10_back 46 = .ok (.iaload, 1) := by decide +kernel
theorem dX10_back_47 : decode cX10_back 47 = .ok (.iastore, 1) := by decide +kernel
theorem dX10_back_48 : decode cX10_back 48 = .ok (.iinc 2 1, 3) := by decide +kernel
theorem dX10_back_51 : decode cX10_back 51 = .ok (.goto (-26), 3) := by decide +kernel
theorem dX10_back_54 : decode cX10_back 54 = .ok (.aload_n 0, 1) := by decide +kernel
theorem dX10_back_55 : decode cX10_back 55 = .ok (.iconst 0, 1) := by decide +kernel
theorem dX10_back_56 : decode cX10_back 56 = .ok (.putfield 107, 3) := by decide +kernel
theorem dX10_back_59 : decode cX10_back 59 = .ok (.aload_n 0, 1) := by decide +kernel
theorem dX10_back_60 : decode cX10_back 60 = .ok (.getfield 16, 3) := by decide +kernel
theorem dX10_back_63 : decode cX10_back 63 = .ok (.iconst 0, 1) := by decide +kernel
theorem dX10_back_64 : decode cX10_back 64 = .ok (.iaload, 1) := by decide +kernel
theorem dX10_back_65 : decode cX10_back 65 = .ok (.ireturn, 1) := by decide +kernel
theorem dX10_sureMany_0 : decode cX10_sureMany 0 = .ok (.iconst 0, 1) := by decide +kernel
theorem dX10_sureMany_1 : decode cX10_sureMany 1 = .ok (.istore_n 1, 1) := by decide +kernel
theorem dX10_sureMany_2 : decode cX10_sureMany 2 = .ok (.iconst 0, 1) := by decide +kernel
theorem dX10_sureMany_3 : decode cX10_sureMany 3 = .ok (.istore_n 2, 1) := by decide +kernel
theorem dX10_sureMany_4 : decode cX10_sureMany 4 = .ok (.iload_n 2, 1) := by decide +kernel
theorem dX10_sureMany_5 : decode cX10_sureMany 5 = .ok (.aload_n 0, 1) := by decide +kernel
theorem dX10_sureMany_6 : decode cX10_sureMany 6 = .ok (.getfield 122, 3) := by decide +kernel
theorem dX10_sureMany_9 : decode cX10_sureMany 9 = .ok (.if_icmp .ge 30, 3) := by decide +kernel
theorem dX10_sureMany_12 : decode cX10_sureMany 12 = .ok (.iload_n 1, 1) := by decide +kernel
theorem dX10_sureMany_13 : decode cX10_sureMany 13 = .ok (.aload_n 0, 1) := by decide +kernel
theorem dX10_sureMany_14 : decode cX10_sureMany 14 = .ok (.aload_n 0, 1) := by decide +kernel
theorem dX10_sureMany_15 : decode cX10_sureMany 15 = .ok (.getfield 41, 3) := by decide +kernel
theorem dX10_sureMany_18 : decode cX10_sureMany 18 = .ok (.iload_n 2, 1) := by decide +kernel
theorem dX10_sureMany_19 : decode cX10_sureMany 19 = .ok (.iaload, 1) := by decide +kernel
theorem dX10_sureMany_20 : decode cX10_sureMany 20 = .ok (.invokevirtual 207, 3) := by decide +kernel
theorem dX10_sureMany_23 : decode cX10_sureMany 23 = .ok (.ifCond .ne 7, 3) := by decide +kernel
theorem dX10_sureMany_26 : decode cX10_sureMany 26 = .ok (.iconst 1, 1) := by decide +kernel
theorem dX10_sureMany_27 : decode cX10_sureMany 27 = .ok (.goto 4, 3) := by decide +kernel
theorem dX10_sureMany_30 : decode cX10_sureMany 30 = .ok (.iconst 0, 1) := by decide +kernel
theorem dX10_sureMany_31 : decode cX10_sureMany 31 = .ok (.iadd, 1) := by decide +kernel
theorem dX10_sureMany_32 : decode cX10_sureMany 32 = .ok (.istore_n 1, 1) := by decide +kernel
theorem dX10_sureMany_33 : decode cX10_sureMany 33 = .ok (.iinc 2 1, 3) := by decide +kernel
theorem dX10_sureMany_36 : decode cX10_sureMany 36 = .ok (.goto (-32), 3) := by decide +kernel
theorem dX10_sureMany_39 : decode cX10_sureMany 39 = .ok (.iload_n 1, 1) := by decide +kernel
theorem dX10_sureMany_40 : decode cX10_sureMany 40 = .ok (.ireturn, 1) := by decide +kernel
theorem dX10_count_0 : decode cX10_count 0 = .ok (.aload_n 0, 1) := by decide +kernel
theorem dX10_count_1 : decode cX10_count 1 = .ok (.invokevirtual 135, 3) := by decide +kernel
theorem dX10_count_4 : decode cX10_count 4 = .ok (.iload_n 1, 1) := by decide +kernel
theorem dX10_count_5 : decode cX10_count 5 = .ok (.tableswitch 71 0 5 #[39, 44, 51, 56, 61, 66], 39) := by decide +kernel
theorem dX10_count_44 : decode cX10_count 44 = .ok (.aload_n 0, 1) := by decide +kernel
theorem dX10_count_45 : decode cX10_count 45 = .ok (.getfield 104, 3) := by decide +kernel
theorem dX10_count_48 : decode cX10_count 48 = .ok (.ireturn, 1) := by decide +kernel
theorem dX10_count_49 : decode cX10_count 49 = .ok (.aload_n 0, 1) := by decide +kernel
theorem dX10_count_50 : decode cX10_count 50 = .ok (.getfield 16, 3) := by decide +kernel
theorem dX10_count_53 : decode cX10_count 53 = .ok (.iconst 0, 1) := by decide +kernel
theorem dX10_count_54 : decode cX10_count 54 = .ok (.iaload, 1) := by decide +kernel
theorem dX10_count_55 : decode cX10_count 55 = .ok (.ireturn, 1) := by decide +kernel
theorem dX10_count_56 : decode cX10_count 56 = .ok (.aload_n 0, 1) := by decide +kernel
theorem dX10_count_57 : decode cX10_count 57 = .ok (.getfield 122, 3) := by decide +kernel
theorem dX10_count_60 : decode cX10_count 60 = .ok (.ireturn, 1) := by decide +kernel
theorem dX10_count_61 : decode cX10_count 61 = .ok (.aload_n 0, 1) := by decide +kernel
theorem dX10_count_62 : decode cX10_count 62 = .ok (.invokevirtual 246, 3) := by decide +kernel
theorem dX10_count_65 : decode cX10_count 65 = .ok (.ireturn, 1) := by decide +kernel
theorem dX10_count_66 : decode cX10_count 66 = .ok (.aload_n 0, 1) := by decide +kernel
theorem dX10_count_67 : decode cX10_count 67 = .ok (.getfield 52, 3) := by decide +kernel
theorem dX10_count_70 : decode cX10_count 70 = .ok (.ireturn, 1) := by decide +kernel
theorem dX10_count_71 : decode cX10_count 71 = .ok (.aload_n 0, 1) := by decide +kernel
theorem dX10_count_72 : decode cX10_count 72 = .ok (.getfield 107, 3) := by decide +kernel
theorem dX10_count_75 : decode cX10_count 75 = .ok (.ireturn, 1) := by decide +kernel
theorem dX10_count_76 : decode cX10_count 76 = .ok (.iconst (-1), 1) := by decide +kernel
theorem dX10_count_77 : decode cX10_count 77 = .ok (.ireturn, 1) := by decide +kernel
