theorem dX10_rankOf_7 : decode cX10_rankOf 7 = .ok (.iconst 0, 1) := by decide +kernel
theorem dX10_rankOf_8 : decode cX10_rankOf 8 = .ok (.istore_n 3, 1) := by decide +kernel
theorem dX10_rankOf_9 : decode cX10_rankOf 9 = .ok (.iload_n 3, 1) := by decide +kernel
theorem dX10_rankOf_10 : decode cX10_rankOf 10 = .ok (.aload_n 0, 1) := by decide +kernel
theorem dX10_rankOf_11 : decode cX10_rankOf 11 = .ok (.getfield 154, 3) := by decide +kernel
theorem dX10_rankOf_14 : decode cX10_rankOf 14 = .ok (.if_icmp .ge 168, 3) := by decide +kernel
theorem dX10_rankOf_17 : decode cX10_rankOf 17 = .ok (.iconst 0, 1) := by decide +kernel
theorem dX10_rankOf_18 : decode cX10_rankOf 18 = .ok (.istore 4, 2) := by decide +kernel
theorem dX10_rankOf_20 : decode cX10_rankOf 20 = .ok (.iload 4, 2) := by decide +kernel
theorem dX10_rankOf_22 : decode cX10_rankOf 22 = .ok (.iconst 3, 1) := by decide +kernel
theorem dX10_rankOf_23 : decode cX10_rankOf 23 = .ok (.if_icmp .ge 153, 3) := by decide +kernel
theorem dX10_rankOf_26 : decode cX10_rankOf 26 = .ok (.iload_n 2, 1) := by decide +kernel
theorem dX10_rankOf_27 : decode cX10_rankOf 27 = .ok (.iconst 1, 1) := by decide +kernel
theorem dX10_rankOf_28 : decode cX10_rankOf 28 = .ok (.if_icmp .ge 19, 3) := by decide +kernel
theorem dX10_rankOf_31 : decode cX10_rankOf 31 = .ok (.aload_n 0, 1) := by decide +kernel
theorem dX10_rankOf_32 : decode cX10_rankOf 32 = .ok (.iload_n 3, 1) := by decide +kernel
theorem dX10_rankOf_33 : decode cX10_rankOf 33 = .ok (.iload 4, 2) := by decide +kernel
theorem dX10_rankOf_35 : decode cX10_rankOf 35 = .ok (.invokevirtual 160, 3) := by decide +kernel
theorem dX10_rankOf_38 : decode cX10_rankOf 38 = .ok (.lconst 0, 1) := by decide +kernel
theorem dX10_rankOf_39 : decode cX10_rankOf 39 = .ok (.lcmp, 1) := by decide +kernel
theorem dX10_rankOf_40 : decode cX10_rankOf 40 = .ok (.ifCond .eq 7, 3) := by decide +kernel
theorem dX10_rankOf_43 : decode cX10_rankOf 43 = .ok (.iconst 1, 1) := by decide +kernel
theorem dX10_rankOf_44 : decode cX10_rankOf 44 = .ok (.goto 4, 3) := by decide +kernel
theorem dX10_rankOf_47 : decode cX10_rankOf 47 = .ok (.iload_n 2, 1) := by decide +kernel
theorem dX10_rankOf_48 : decode cX10_rankOf 48 = .ok (.istore_n 2, 1) := by decide +kernel
theorem dX10_rankOf_49 : decode cX10_rankOf 49 = .ok (.iconst 0, 1) := by decide +kernel
theorem dX10_rankOf_50 : decode cX10_rankOf 50 = .ok (.istore 5, 2) := by decide +kernel
theorem dX10_rankOf_52 : decode cX10_rankOf 52 = .ok (.iload 5, 2) := by decide +kernel
theorem dX10_rankOf_54 : decode cX10_rankOf 54 = .ok (.iload_n 3, 1) := by decide +kernel
theorem dX10_rankOf_55 : decode cX10_rankOf 55 = .ok (.if_icmp .ge 115, 3) := by decide +kernel
theorem dX10_rankOf_58 : decode cX10_rankOf 58 = .ok (.iconst 0, 1) := by decide +kernel
theorem dX10_rankOf_59 : decode cX10_rankOf 59 = .ok (.istore 6, 2) := by decide +kernel
theorem dX10_rankOf_61 : decode cX10_rankOf 61 = .ok (.iload 6, 2) := by decide +kernel
theorem dX10_rankOf_63 : decode cX10_rankOf 63 = .ok (.iload 4, 2) := by decide +kernel
theorem dX10_rankOf_65 : decode cX10_rankOf 65 = .ok (.if_icmp .ge 99, 3) := by decide +kernel
theorem dX10_rankOf_68 : decode cX10_rankOf 68 = .ok (.iload_n 2, 1) := by decide +kernel
theorem dX10_rankOf_69 : decode cX10_rankOf 69 = .ok (.iconst 2, 1) := by decide +kernel
theorem dX10_rankOf_70 : decode cX10_rankOf 70 = .ok (.if_icmp .ge 23, 3) := by decide +kernel
theorem dX10_rankOf_73 : decode cX10_rankOf 73 = .ok (.aload_n 0, 1) := by decide +kernel
theorem dX10_rankOf_74 : decode cX10_rankOf 74 = .ok (.iload_n 3, 1) := by decide +kernel
theorem dX10_rankOf_75 : decode cX10_rankOf 75 = .ok (.iload 5, 2) := by decide +kernel
theorem dX10_rankOf_77 : decode cX10_rankOf 77 = .ok (.iload 4, 2) := by decide +kernel
theorem dX10_rankOf_79 : decode cX10_rankOf 79 = .ok (.iload 6, 2) := by decide +kernel
theorem dX10_rankOf_81 : decode cX10_rankOf 81 = .ok (.invokevirtual 168, 3) := by decide +kernel
theorem dX10_rankOf_84 : decode cX10_rankOf 84 = .ok (.lconst 0, 1) := by decide +kernel
theorem dX10_rankOf_85 : decode cX10_rankOf 85 = .ok (.lcmp, 1) := by decide +kernel
theorem dX10_rankOf_86 : decode cX10_rankOf 86 = .ok (.ifCond .eq 7, 3) := by decide +kernel
theorem dX10_rankOf_89 : decode cX10_rankOf 89 = .ok (.iconst 2, 1) := by decide +kernel
theorem dX10_rankOf_90 : decode cX10_rankOf 90 = .ok (.goto 4, 3) := by decide +kernel
theorem dX10_rankOf_93 : decode cX10_rankOf 93 = .ok (.iload_n 2, 1) := by decide +kernel
theorem dX10_rankOf_94 : decode cX10_rankOf 94 = .ok (.istore_n 2, 1) := by decide +kernel
theorem dX10_rankOf_95 : decode cX10_rankOf 95 = .ok (.iconst 0, 1) := by decide +kernel
theorem dX10_rankOf_96 : decode cX10_rankOf 96 = .ok (.istore 7, 2) := by decide +kernel
theorem dX10_rankOf_98 : decode cX10_rankOf 98 = .ok (.iload 7, 2) := by decide +kernel
theorem dX10_rankOf_100 : decode cX10_rankOf 100 = .ok (.iload 5, 2) := by decide +kernel
theorem dX10_rankOf_102 : decode cX10_rankOf 102 = .ok (.if_icmp .ge 56, 3) := by decide +kernel
theorem dX10_rankOf_105 : decode cX10_rankOf 105 = .ok (.iload_n 2, 1) := by decide +kernel
theorem dX10_rankOf_106 : decode cX10_rankOf 106 = .ok (.iconst 3, 1) := by decide +kernel
theorem dX10_rankOf_107 : decode cX10_rankOf 107 = .ok (.if_icmp .ge 51, 3) := by decide +kernel
theorem dX10_rankOf_110 : decode cX10_rankOf 110 = .ok (.iconst 0, 1) := by decide +kernel
theorem dX10_rankOf_111 : decode cX10_rankOf 111 = .ok (.istore 8, 2) := by decide +kernel
theorem dX10_rankOf_113 : decode cX10_rankOf 113 = .ok (.iload 8, 2) := by decide +kernel
theorem dX10_rankOf_115 : decode cX10_rankOf 115 = .ok (.iload 6, 2) := by decide +kernel
theorem dX10_rankOf_117 : decode cX10_rankOf 117 = .ok (.if_icmp .ge 35, 3) := by decide +kernel
theorem dX10_rankOf_120 : decode cX10_rankOf 120 = .ok (.aload_n 0, 1) := by decide +kernel
theorem dX10_rankOf_121 : decode cX10_rankOf 121 = .ok (.iload_n 3, 1) := by decide +kernel
theorem dX10_rankOf_122 : decode cX10_rankOf 122 = .ok (.iload 5, 2) := by decide +kernel
theorem dX10_rankOf_124 : decode cX10_rankOf 124 = .ok (.iload 7, 2) := by decide +kernel
theorem dX10_rankOf_126 : decode cX10_rankOf 126 = .ok (.iload 4, 2) := by decide +kernel
theorem dX10_rankOf_128 : decode cX10_rankOf 128 = .ok (.iload 6, 2) := by decide +kernel
theorem dX10_rankOf_130 : decode cX10_rankOf 130 = .ok (.iload 8, 2) := by decide +kernel
theorem dX10_rankOf_132 : decode cX10_rankOf 132 = .ok (.invokevirtual 172, 3) := by decide +kernel
theorem dX10_rankOf_135 : decode cX10_rankOf 135 = .ok (.lconst 0, 1) := by decide +kernel
theorem dX10_rankOf_136 : decode cX10_rankOf 136 = .ok (.lcmp, 1) := by decide +kernel
theorem dX10_rankOf_137 : decode cX10_rankOf 137 = .ok (.ifCond .eq 7, 3) := by decide +kernel
theorem dX10_rankOf_140 : decode cX10_rankOf 140 = .ok (.iconst 3, 1) := by decide +kernel
theorem dX10_rankOf_141 : decode cX10_rankOf 141 = .ok (.goto 4, 3) := by decide +kernel
theorem dX10_rankOf_144 : decode cX10_rankOf 144 = .ok (.iload_n 2, 1) := by decide +kernel
theorem dX10_rankOf_145 : decode cX10_rankOf 145 = .ok (.istore_n 2, 1) := by decide +kernel
theorem dX10_rankOf_146 : decode cX10_rankOf 146 = .ok (.iinc 8 1, 3) := by decide +kernel
theorem dX10_rankOf_149 : decode cX10_rankOf 149 = .ok (.goto (-36), 3) := by decide +kernel
theorem dX10_rankOf_152 : decode cX10_rankOf 152 = .ok (.iinc 7 1, 3) := by decide +kernel
theorem dX10_rankOf_155 : decode cX10_rankOf 155 = .ok (.goto (-57), 3) := by decide +kernel
theorem dX10_rankOf_158 : decode cX10_rankOf 158 = .ok (.iinc 6 1, 3) := by decide +kernel
theorem dX10_rankOf_161 : decode cX10_rankOf 161 = .ok (.goto (-100), 3) := by decide +kernel
theorem dX10_rankOf_164 : decode cX10_rankOf 164 = .ok (.iinc 5 1, 3) := by decide +kernel
theorem dX10_rankOf_167 : decode cX10_rankOf 167 = .ok (.goto (-115), 3) := by decide +kernel
theorem dX10_rankOf_170 : decode cX10_rankOf 170 = .ok (.iinc 4 1, 3) := by decide +kernel
theorem dX10_rankOf_173 : decode cX10_rankOf 173 = .ok (.goto (-153), 3) := by decide +kernel
theorem dX10_rankOf_176 : decode cX10_rankOf 176 = .ok (.iinc 3 1, 3) := by decide +kernel
theorem dX10_rankOf_179 : decode cX10_rankOf 179 = .ok (.goto (-170), 3) := by decide +kernel
theorem dX10_rankOf_182 : decode cX10_rankOf 182 = .ok (.iload_n 2, 1) := by decide +kernel
theorem dX10_rankOf_183 : decode cX10_rankOf 183 = .ok (.ireturn, 1) := by decide +kernel
theorem dX10_solves_0 : decode cX10_solves 0 = .ok (.iconst 0, 1) := by decide +kernel
theorem dX10_solves_1 : decode cX10_solves 1 = .ok (.istore_n 1, 1) := by decide +kernel
theorem dX10_solves_2 : decode cX10_solves 2 = .ok (.iload_n 1, 1) := by decide +kernel
theorem dX10_solves_3 : decode cX10_solves 3 = .ok (.aload_n 0, 1) := by decide +kernel
theorem dX10_solves_4 : decode cX10_solves 4 = .ok (.getfield 154, 3) := by decide +kernel
theorem dX10_solves_7 : decode cX10_solves 7 = .ok (.if_icmp .ge 131, 3) := by decide +kernel
theorem dX10_solves_10 : decode cX10_solves 10 = .ok (.iconst 0, 1) := by decide +kernel
theorem dX10_solves_11 : decode cX10_solves 11 = .ok (.istore_n 2, 1) := by decide +kernel
theorem dX10_solves_12 : decode cX10_solves 12 = .ok (.iload_n 2, 1) := by decide +kernel
theorem dX10_solves_13 : decode cX10_solves 13 = .ok (.iload_n 1, 1) := by decide +kernel
theorem dX10_solves_14 : decode cX10_solves 14 = .ok (.if_icmp .ge 118, 3) := by decide +kernel
theorem dX10_solves_17 : decode cX10_solves 17 = .ok (.iconst 0, 1) := by decide +kernel
theorem dX10_solves_18 : decode cX10_solves 18 = .ok (.istore_n 3, 1) := by decide +kernel
theorem dX10_solves_19 : decode cX10_solves 19 = .ok (.iload_n 3, 1) := by decide +kernel
theorem dX10_solves_20 : decode cX10_solves 20 = .ok (.iload_n 2, 1) := by decide +kernel
theorem dX10_solves_21 : decode cX10_solves 21 = .ok (.if_icmp .ge 105, 3) := by decide +kernel
theorem dX10_solves_24 : decode cX10_solves 24 = .ok (.aload_n 0, 1) := by decide +kernel
theorem dX10_solves_25 : decode cX10_solves 25 = .ok (.iload_n 1, 1) := by decide +kernel
theorem dX10_solves_26 : decode cX10_solves 26 = .ok (.iload_n 2, 1) := by decide +kernel
theorem dX10_solves_27 : decode cX10_solves 27 = .ok (.iload_n 3, 1) := by decide +kernel
theorem dX10_solves_28 : decode cX10_solves 28 = .ok (.iconst 0, 1) := by decide +kernel
theorem dX10_solves_29 : decode cX10_solves 29 = .ok (.iconst 1, 1) := by decide +kernel
theorem dX10_solves_30 : decode cX10_solves 30 = .ok (.iconst 2, 1) := by decide +kernel
theorem dX10_solves_31 : decode cX10_solves 31 = .ok (.invokevirtual 172, 3) := by decide +kernel
theorem dX10_solves_34 : decode cX10_solves 34 = .ok (.lstore 4, 2) := by decide +kernel
theorem dX10_solves_36 : decode cX10_solves 36 = .ok (.lload 4, 2) := by decide +kernel
theorem dX10_solves_38 : decode cX10_solves 38 = .ok (.lconst 0, 1) := by decide +kernel
theorem dX10_solves_39 : decode cX10_solves 39 = .ok (.lcmp, 1) := by decide +kernel
theorem dX10_solves_40 : decode cX10_solves 40 = .ok (.ifCond .eq 80, 3) := by decide +kernel
theorem dX10_solves_43 : decode cX10_solves 43 = .ok (.lload 4, 2) := by decide +kernel
theorem dX10_solves_45 : decode cX10_solves 45 = .ok (.lconst 0, 1) := by decide +kernel
theorem dX10_solves_46 : decode cX10_solves 46 = .ok (.lcmp, 1) := by decide +kernel
theorem dX10_solves_47 : decode cX10_solves 47 = .ok (.ifCond .ge 9, 3) := by decide +kernel
theorem dX10_solves_50 : decode cX10_solves 50 = .ok (.ldc2_w 176, 3) := by decide +kernel
theorem dX10_solves_53 : decode cX10_solves 53 = .ok (.goto 4, 3) := by decide +kernel
theorem dX10_solves_56 : decode cX10_solves 56 = .ok (.lconst 1, 1) := by decide +kernel
theorem dX10_solves_57 : decode cX10_solves 57 = .ok (.lstore 6, 2) := by decide +kernel
theorem dX10_solves_59 : decode cX10_solves 59 = .ok (.aload_n 0, 1) := by decide +kernel
theorem dX10_solves_60 : decode cX10_solves 60 = .ok (.lload 6, 2) := by decide +kernel
theorem dX10_solves_62 : decode cX10_solves 62 = .ok (.lload 4, 2) := by decide +kernel
theorem dX10_solves_64 : decode cX10_solves 64 = .ok (.lmul, 1) := by decide +kernel
theorem dX10_solves_65 : decode cX10_solves 65 = .ok (.putfield 178, 3) := by decide +kernel
theorem dX10_solves_68 : decode cX10_solves 68 = .ok (.aload_n 0, 1) := by decide +kernel
theorem dX10_solves_69 : decode cX10_solves 69 = .ok (.lload 6, 2) := by decide +kernel
theorem dX10_solves_71 : decode cX10_solves 71 = .ok (.aload_n 0, 1) := by decide +kernel
theorem dX10_solves_72 : decode cX10_solves 72 = .ok (.iload_n 1, 1) := by decide +kernel
theorem dX10_solves_73 : decode cX10_solves 73 = .ok (.iload_n 2, 1) := by decide +kernel
theorem dX10_solves_74 : decode cX10_solves 74 = .ok (.iload_n 3, 1) := by decide +kernel
theorem dX10_solves_75 : decode cX10_solves 75 = .ok (.iconst 3, 1) := by decide +kernel
theorem dX10_solves_76 : decode cX10_solves 76 = .ok (.iconst 1, 1) := by decide +kernel
theorem dX10_solves_77 : decode cX10_solves 77 = .ok (.iconst 2, 1) := by decide +kernel
theorem dX10_solves_78 : decode cX10_solves 78 = .ok (.invokevirtual 172, 3) := by decide +kernel
theorem dX10_solves_81 : decode cX10_solves 81 = .ok (.lmul, 1) := by decide +kernel
theorem dX10_solves_82 : decode cX10_solves 82 = .ok (.putfield 182, 3) := by decide +kernel
theorem dX10_solves_85 : decode cX10_solves 85 = .ok (.aload_n 0, 1) := by decide +kernel
theorem dX10_solves_86 : decode cX10_solves 86 = .ok (.lload 6, 2) := by decide +kernel
theorem dX10_solves_88 : decode cX10_solves 88 = .ok (.aload_n 0, 1) := by decide +kernel
theorem dX10_solves_89 : decode cX10_solves 89 = .ok (.iload_n 1, 1) := by decide +kernel
theorem dX10_solves_90 : decode cX10_solves 90 = .ok (.iload_n 2, 1) := by decide +kernel
theorem dX10_solves_91 : decode cX10_solves 91 = .ok (.iload_n 3, 1) := by decide +kernel
theorem dX10_solves_92 : decode cX10_solves 92 = .ok (.iconst 0, 1) := by decide +kernel
theorem dX10_solves_93 : decode cX10_solves 93 = .ok (.iconst 3, 1) := by decide +kernel
theorem dX10_solves_94 : decode cX10_solves 94 = .ok (.iconst 2, 1) := by decide +kernel
theorem dX10_solves_95 : decode cX10_solves 95 = .ok (.invokevirtual 172, 3) := by decide +kernel
theorem dX10_solves_98 : decode cX10_solves 98 = .ok (.lmul, 1) := by decide +kernel
theorem dX10_solves_99 : decode cX10_solves 99 = .ok (.putfield 185, 3) := by decide +kernel
theorem dX10_solves_102 : decode cX10_solves 102 = .ok (.aload_n 0, 1) := by decide +kernel
theorem dX10_solves_103 : decode cX10_solves 103 = .ok (.lload 6, 2) := by decide +kernel
theorem dX10_solves_105 : decode cX10_solves 105 = .ok (.aload_n 0, 1) := by decide +kernel
theorem dX10_solves_106 : decode cX10_solves 106 = .ok (.iload_n 1, 1) := by decide +kernel
theorem dX10_solves_107 : decode cX10_solves 107 = .ok (.iload_n 2, 1) := by decide +kernel
theorem dX10_solves_108 : decode cX10_solves 108 = .ok (.iload_n 3, 1) := by decide +kernel
theorem dX10_solves_109 : decode cX10_solves 109 = .ok (.iconst 0, 1) := by decide +kernel
theorem dX10_solves_110 : decode cX10_solves 110 = .ok (.iconst 1, 1) := by decide +kernel
theorem dX10_solves_111 : decode cX10_solves 111 = .ok (.iconst 3, 1) := by decide +kernel
theorem dX10_solves_112 : decode cX10_solves 112 = .ok (.invokevirtual 172, 3) := by decide +kernel
theorem dX10_solves_115 : decode cX10_solves 115 = .ok (.lmul, 1) := by decide +kernel
theorem dX10_solves_116 : decode cX10_solves 116 = .ok (.putfield 188, 3) := by decide +kernel
theorem dX10_solves_119 : decode cX10_solves 119 = .ok (.return_, 1) := by decide +kernel
theorem dX10_solves_120 : decode cX10_solves 120 = .ok (.iinc 3 1, 3) := by decide +kernel
theorem dX10_solves_123 : decode cX10_solves 123 = .ok (.goto (-104), 3) := by decide +kernel
theorem dX10_solves_126 : decode cX10_solves 126 = .ok (.iinc 2 1, 3) := by decide +kernel
theorem dX10_solves_129 : decode cX10_solves 129 = .ok (.goto (-117), 3) := by decide +kernel
theorem dX10_solves_132 : decode cX10_solves 132 = .ok (.iinc 1 1, 3) := by decide +kernel
theorem dX10_solves_135 : decode cX10_solves 135 = .ok (.goto (-133), 3) := by decide +kernel
theorem dX10_solves_138 : decode cX10_solves 138 = .ok (.return_, 1) := by decide +kernel
theorem dX10_isFilled_0 : decode cX10_isFilled 0 = .ok (.iconst 1, 1) := by decide +kernel
theorem dX10_isFilled_1 : decode cX10_isFilled 1 = .ok (.istore_n 1, 1) := by decide +kernel
theorem dX10_isFilled_2 : decode cX10_isFilled 2 = .ok (.iconst 0, 1) := by decide +kernel
theorem dX10_isFilled_3 : decode cX10_isFilled 3 = .ok (.istore_n 2, 1) := by decide +kernel
theorem dX10_isFilled_4 : decode cX10_isFilled 4 = .ok (.iload_n 2, 1) := by decide +kernel
theorem dX10_isFilled_5 : decode cX10_isFilled 5 = .ok (.aload_n 0, 1) := by decide +kernel
theorem dX10_isFilled_6 : decode cX10_isFilled 6 = .ok (.getfield 154, 3) := by decide +kernel
theorem dX10_isFilled_9 : decode cX10_isFilled 9 = .ok (.if_icmp .ge 69, 3) := by decide +kernel
theorem dX10_isFilled_12 : decode cX10_isFilled 12 = .ok (.iload_n 1, 1) := by decide +kernel
theorem dX10_isFilled_13 : decode cX10_isFilled 13 = .ok (.ifCond .eq 57, 3) := by decide +kernel
theorem dX10_isFilled_16 : decode cX10_isFilled 16 = .ok (.aload_n 0, 1) := by decide +kernel
theorem dX10_isFilled_17 : decode cX10_isFilled 17 = .ok (.iload_n 2, 1) := by decide +kernel
theorem dX10_isFilled_18 : decode cX10_isFilled 18 = .ok (.iconst 0, 1) := by decide +kernel
theorem dX10_isFilled_19 : decode cX10_isFilled 19 = .ok (.invokevirtual 160, 3) := by decide +kernel
theorem dX10_isFilled_22 : decode cX10_isFilled 22 = .ok (.aload_n 0, 1) := by decide +kernel
theorem dX10_isFilled_23 : decode cX10_isFilled 23 = .ok (.getfield 182, 3) := by decide +kernel
theorem dX10_isFilled_26 : decode cX10_isFilled 26 = .ok (.lmul, 1) := by decide +kernel
theorem dX10_isFilled_27 : decode cX10_isFilled 27 = .ok (.aload_n 0, 1) := by decide +kernel
theorem dX10_isFilled_28 : decode cX10_isFilled 28 = .ok (.iload_n 2, 1) := by decide +kernel
theorem dX10_isFilled_29 : decode cX10_isFilled 29 = .ok (.iconst 1, 1) := by decide +kernel
theorem dX10_isFilled_30 : decode cX10_isFilled 30 = .ok (.invokevirtual 160, 3) := by decide +kernel
theorem dX10_isFilled_33 : decode cX10_isFilled 33 = .ok (.aload_n 0, 1) := by decide +kernel
theorem dX10_isFilled_34 : decode cX10_isFilled 34 = .ok (.getfield 185, 3) := by decide +kernel
theorem dX10_isFilled_37 : decode cX10_isFilled 37 = .ok (.lmul, 1) := by decide +kernel
theorem dX10_isFilled_38 : decode cX10_isFilled 38 = .ok (.ladd, 1) := by decide +kernel
theorem dX10_isFilled_39 : decode cX10_isFilled 39 = .ok (.aload_n 0, 1) := by decide +kernel
theorem dX10_isFilled_40 : decode cX10_isFilled 40 = .ok (.iload_n 2, 1) := by decide +kernel
theorem dX10_isFilled_41 : decode cX10_isFilled 41 = .ok (.iconst 2, 1) := by decide +kernel
theorem dX10_isFilled_42 : decode cX10_isFilled 42 = .ok (.invokevirtual 160, 3) := by decide +kernel
theorem dX10_isFilled_45 : decode cX10_isFilled 45 = .ok (.aload_n 0, 1) := by decide +kernel
theorem dX10_isFilled_46 : decode cX10_isFilled 46 = .ok (.getfield 188, 3) := by decide +kernel
theorem dX10_isFilled_49 : decode cX10_isFilled 49 = .ok (.lmul, 1) := by decide +kernel
theorem dX10_isFilled_50 : decode cX10_isFilled 50 = .ok (.ladd, 1) := by decide +kernel
theorem dX10_isFilled_51 : decode cX10_isFilled 51 = .ok (.aload_n 0, 1) := by decide +kernel
theorem dX10_isFilled_52 : decode cX10_isFilled 52 = .ok (.iload_n 2, 1) := by decide +kernel
theorem dX10_isFilled_53 : decode cX10_isFilled 53 = .ok (.iconst 3, 1) := by decide +kernel
theorem dX10_isFilled_54 : decode cX10_isFilled 54 = .ok (.invokevirtual 160, 3) := by decide +kernel
theorem dX10_isFilled_57 : decode cX10_isFilled 57 = .ok (.aload_n 0, 1) := by decide +kernel
theorem dX10_isFilled_58 : decode cX10_isFilled 58 = .ok (.getfield 178, 3) := by decide +kernel
theorem dX10_isFilled_61 : decode cX10_isFilled 61 = .ok (.lmul, 1) := by decide +kernel
theorem dX10_isFilled_62 : decode cX10_isFilled 62 = .ok (.lcmp, 1) := by decide +kernel
theorem dX10_isFilled_63 : decode cX10_isFilled 63 = .ok (.ifCond .ne 7, 3) := by decide +kernel
theorem dX10_isFilled_66 : decode cX10_isFilled 66 = .ok (.iconst 1, 1) := by decide +kernel
theorem dX10_isFilled_67 : decode cX10_isFilled 67 = .ok (.goto 4, 3) := by decide +kernel
theorem dX10_isFilled_70 : decode cX10_isFilled 70 = .ok (.iconst 0, 1) := by decide +kernel
theorem dX10_isFilled_71 : decode cX10_isFilled 71 = .ok (.istore_n 1, 1) := by decide +kernel
theorem dX10_isFilled_72 : decode cX10_isFilled 72 = .ok (.iinc 2 1, 3) := by decide +kernel
theorem dX10_isFilled_75 : decode cX10_isFilled 75 = .ok (.goto (-71), 3) := by decide +kernel
theorem dX10_isFilled_78 : decode cX10_isFilled 78 = .ok (.iload_n 1, 1) := by decide +kernel
theorem dX10_isFilled_79 : decode cX10_isFilled 79 = .ok (.ireturn, 1) := by decide +kernel
theorem dX10_differs_0 : decode cX10_differs 0 = .ok (.aload_n 0, 1) := by decide +kernel
theorem dX10_differs_1 : decode cX10_differs 1 = .ok (.getfield 182, 3) := by decide +kernel
theorem dX10_differs_4 : decode cX10_differs 4 = .ok (.aload_n 0, 1) := by decide +kernel
theorem dX10_differs_5 : decode cX10_differs 5 = .ok (.iload_n 1, 1) := by decide +kernel
theorem dX10_differs_6 : decode cX10_differs 6 = .ok (.invokevirtual 116, 3) := by decide +kernel
theorem dX10_differs_9 : decode cX10_differs 9 = .ok (.i2l, 1) := by decide +kernel
theorem dX10_differs_10 : decode cX10_differs 10 = .ok (.aload_n 0, 1) := by decide +kernel
theorem dX10_differs_11 : decode cX10_differs 11 = .ok (.getfield 178, 3) := by decide +kernel
theorem dX10_differs_14 : decode cX10_differs 14 = .ok (.lmul, 1) := by decide +kernel
theorem dX10_differs_15 : decode cX10_differs 15 = .ok (.lsub, 1) := by decide +kernel
theorem dX10_differs_16 : decode cX10_differs 16 = .ok (.lstore_n 2, 1) := by decide +kernel
theorem dX10_differs_17 : decode cX10_differs 17 = .ok (.aload_n 0, 1) := by decide +kernel
theorem dX10_differs_18 : decode cX10_differs 18 = .ok (.getfield 185, 3) := by decide +kernel
theorem dX10_differs_21 : decode cX10_differs 21 = .ok (.aload_n 0, 1) := by decide +kernel
theorem dX10_differs_22 : decode cX10_differs 22 = .ok (.iload_n 1, 1) := by decide +kernel
theorem dX10_differs_23 : decode cX10_differs 23 = .ok (.invokevirtual 119, 3) := by decide +kernel
theorem dX10_differs_26 : decode cX10_differs 26 = .ok (.i2l, 1) := by decide +kernel
theorem dX10_differs_27 : decode cX10_differs 27 = .ok (.aload_n 0, 1) := by decide +kernel
theorem dX10_differs_28 : decode cX10_differs 28 = .ok (.getfield 178, 3) := by decide +kernel
theorem dX10_differs_31 : decode cX10_differs 31 = .ok (.lmul, 1) := by decide +kernel
theorem dX10_differs_32 : decode cX10_differs 32 = .ok (.lsub, 1) := by decide +kernel
theorem dX10_differs_33 : decode cX10_differs 33 = .ok (.lstore 4, 2) := by decide +kernel
theorem dX10_differs_35 : decode cX10_differs 35 = .ok (.aload_n 0, 1) := by decide +kernel
theorem dX10_differs_36 : decode cX10_differs 36 = .ok (.getfield 188, 3) := by decide +kernel
theorem dX10_differs_39 : decode cX10_differs 39 = .ok (.aload_n 0, 1) := by decide +kernel
theorem dX10_differs_40 : decode cX10_differs 40 = .ok (.iload_n 1, 1) := by decide +kernel
theorem dX10_differs_41 : decode cX10_differs 41 = .ok (.invokevirtual 110, 3) := by decide +kernel
theorem dX10_differs_44 : decode cX10_differs 44 = .ok (.i2l, 1) := by decide +kernel
theorem dX10_differs_45 : decode cX10_differs 45 = .ok (.aload_n 0, 1) := by decide +kernel
theorem dX10_differs_46 : decode cX10_differs 46 = .ok (.getfield 178, 3) := by decide +kernel
theorem dX10_differs_49 : decode cX10_differs 49 = .ok (.lmul, 1) := by decide +kernel
theorem dX10_differs_50 : decode cX10_differs 50 = .ok (.lsub, 1) := by decide +kernel
theorem dX10_differs_51 : decode cX10_differs 51 = .ok (.lstore 6, 2) := by decide +kernel
theorem dX10_differs_53 : decode cX10_differs 53 = .ok (.lload_n 2, 1) := by decide +kernel
theorem dX10_differs_54 : decode cX10_differs 54 = .ok (.lload_n 2, 1) := by decide +kernel
theorem dX10_differs_55 : decode cX10_differs 55 = .ok (.lmul, 1) := by decide +kernel
theorem dX10_differs_56 : decode cX10_differs 56 = .ok (.lload 4, 2) := by decide +kernel
theorem dX10_differs_58 : decode cX10_differs 58 = .ok (.lload 4, 2) := by decide +kernel
theorem dX10_differs_60 : decode cX10_differs 60 = .ok (.lmul, 1) := by decide +kernel
theorem dX10_differs_61 : decode cX10_differs 61 = .ok (.ladd, 1) := by decide +kernel
theorem dX10_differs_62 : decode cX10_differs 62 = .ok (.lload 6, 2) := by decide +kernel
theorem dX10_differs_64 : decode cX10_differs 64 = .ok (.lload 6, 2) := by decide +kernel
theorem dX10_differs_66 : decode cX10_differs 66 = .ok (.lmul, 1) := by decide +kernel
theorem dX10_differs_67 : decode cX10_differs 67 = .ok (.lsub, 1) := by decide +kernel
theorem dX10_differs_68 : decode cX10_differs 68 = .ok (.lreturn, 1) := by decide +kernel
theorem dX10_verdictOf_0 : decode cX10_verdictOf 0 = .ok (.aload_n 0, 1) := by decide +kernel
theorem dX10_verdictOf_1 : decode cX10_verdictOf 1 = .ok (.iload_n 1, 1) := by decide +kernel
theorem dX10_verdictOf_2 : decode cX10_verdictOf 2 = .ok (.invokevirtual 191, 3) := by decide +kernel
theorem dX10_verdictOf_5 : decode cX10_verdictOf 5 = .ok (.istore_n 2, 1) := by decide +kernel
theorem dX10_verdictOf_6 : decode cX10_verdictOf 6 = .ok (.iload_n 2, 1) := by decide +kernel
theorem dX10_verdictOf_7 : decode cX10_verdictOf 7 = .ok (.iconst 3, 1) := by decide +kernel
theorem dX10_verdictOf_8 : decode cX10_verdictOf 8 = .ok (.if_icmp .ge 17, 3) := by decide +kernel
theorem dX10_verdictOf_11 : decode cX10_verdictOf 11 = .ok (.aload_n 0, 1) := by decide +kernel
theorem dX10_verdictOf_12 : decode cX10_verdictOf 12 = .ok (.iload_n 2, 1) := by decide +kernel
theorem dX10_verdictOf_13 : decode cX10_verdictOf 13 = .ok (.invokevirtual 194, 3) := by decide +kernel
theorem dX10_verdictOf_16 : decode cX10_verdictOf 16 = .ok (.ifCond .eq 7, 3) := by decide +kernel
theorem dX10_verdictOf_19 : decode cX10_verdictOf 19 = .ok (.iconst 1, 1) := by decide +kernel
theorem dX10_verdictOf_20 : decode cX10_verdictOf 20 = .ok (.goto 4, 3) := by decide +kernel
theorem dX10_verdictOf_23 : decode cX10_verdictOf 23 = .ok (.iconst 2, 1) := by decide +kernel
theorem dX10_verdictOf_24 : decode cX10_verdictOf 24 = .ok (.ireturn, 1) := by decide +kernel
theorem dX10_verdictOf_25 : decode cX10_verdictOf 25 = .ok (.aload_n 0, 1) := by decide +kernel
theorem dX10_verdictOf_26 : decode cX10_verdictOf 26 = .ok (.invokevirtual 197, 3) := by decide +kernel
theorem dX10_verdictOf_29 : decode cX10_verdictOf 29 = .ok (.aload_n 0, 1) := by decide +kernel
theorem dX10_verdictOf_30 : decode cX10_verdictOf 30 = .ok (.iload_n 1, 1) := by decide +kernel
theorem dX10_verdictOf_31 : decode cX10_verdictOf 31 = .ok (.invokevirtual 157, 3) := by decide +kernel
theorem dX10_verdictOf_34 : decode cX10_verdictOf 34 = .ok (.istore_n 3, 1) := by decide +kernel
theorem dX10_verdictOf_35 : decode cX10_verdictOf 35 = .ok (.aload_n 0, 1) := by decide +kernel
theorem dX10_verdictOf_36 : decode cX10_verdictOf 36 = .ok (.invokevirtual 200, 3) := by decide +kernel
theorem dX10_verdictOf_39 : decode cX10_verdictOf 39 = .ok (.ifCond .eq 36, 3) := by decide +kernel
theorem dX10_verdictOf_42 : decode cX10_verdictOf 42 = .ok (.aload_n 0, 1) := by decide +kernel
theorem dX10_verdictOf_43 : decode cX10_verdictOf 43 = .ok (.iload_n 3, 1) := by decide +kernel
theorem dX10_verdictOf_44 : decode cX10_verdictOf 44 = .ok (.invokevirtual 203, 3) := by decide +kernel
theorem dX10_verdictOf_47 : decode cX10_verdictOf 47 = .ok (.lconst 0, 1) := by decide +kernel
theorem dX10_verdictOf_48 : decode cX10_verdictOf 48 = .ok (.lcmp, 1) := by decide +kernel
theorem dX10_verdictOf_49 : decode cX10_verdictOf 49 = .ok (.ifCond .ne 26, 3) := by decide +kernel
theorem dX10_verdictOf_52 : decode cX10_verdictOf 52 = .ok (.aload_n 0, 1) := by decide +kernel
theorem dX10_verdictOf_53 : decode cX10_verdictOf 53 = .ok (.getfield 188, 3) := by decide +kernel
theorem dX10_verdictOf_56 : decode cX10_verdictOf 56 = .ok (.aload_n 0, 1) := by decide +kernel
theorem dX10_verdictOf_57 : decode cX10_verdictOf 57 = .ok (.iload_n 3, 1) := by decide +kernel
theorem dX10_verdictOf_58 : decode cX10_verdictOf 58 = .ok (.invokevirtual 110, 3) := by decide +kernel
theorem dX10_verdictOf_61 : decode cX10_verdictOf 61 = .ok (.i2l, 1) := by decide +kernel
theorem dX10_verdictOf_62 : decode cX10_verdictOf 62 = .ok (.aload_n 0, 1) := by decide +kernel
theorem dX10_verdictOf_63 : decode cX10_verdictOf 63 = .ok (.getfield 178, 3) := by decide +kernel
theorem dX10_verdictOf_66 : decode cX10_verdictOf 66 = .ok (.lmul, 1) := by decide +kernel
theorem dX10_verdictOf_67 : decode cX10_verdictOf 67 = .ok (.lcmp, 1) := by decide +kernel
theorem dX10_verdictOf_68 : decode cX10_verdictOf 68 = .ok (.ifCond .gt 7, 3) := by decide +kernel
theorem dX10_verdictOf_71 : decode cX10_verdictOf 71 = .ok (.iconst 0, 1) := by decide +kernel
theorem dX10_verdictOf_72 : decode cX10_verdictOf 72 = .ok (.goto 4, 3) := by decide +kernel
theorem dX10_verdictOf_75 : decode cX10_verdictOf 75 = .ok (.iconst 2, 1) := by decide +kernel
theorem dX10_verdictOf_76 : decode cX10_verdictOf 76 = .ok (.ireturn, 1) := by decide +kernel
theorem dX10_isOpen_0 : decode cX10_isOpen 0 = .ok (.iconst 0, 1) := by decide +kernel
theorem dX10_isOpen_1 : decode cX10_isOpen 1 = .ok (.istore_n 2, 1) := by decide +kernel
theorem dX10_isOpen_2 : decode cX10_isOpen 2 = .ok (.iload_n 2, 1) := by decide +kernel
theorem dX10_isOpen_3 : decode cX10_isOpen 3 = .ok (.aload_n 0, 1) := by decide +kernel
theorem dX10_isOpen_4 : decode cX10_isOpen 4 = .ok (.getfield 154, 3) := by decide +kernel
theorem dX10_isOpen_7 : decode cX10_isOpen 7 = .ok (.if_icmp .ge 131, 3) := by decide +kernel
theorem dX10_isOpen_10 : decode cX10_isOpen 10 = .ok (.iload_n 1, 1) := by decide +kernel
theorem dX10_isOpen_11 : decode cX10_isOpen 11 = .ok (.ifCond .ne 16, 3) := by decide +kernel
theorem dX10_isOpen_14 : decode cX10_isOpen 14 = .ok (.aload_n 0, 1) := by decide +kernel
theorem dX10_isOpen_15 : decode cX10_isOpen 15 = .ok (.iload_n 2, 1) := by decide +kernel
theorem dX10_isOpen_16 : decode cX10_isOpen 16 = .ok (.iconst 3, 1) := by decide +kernel
theorem dX10_isOpen_17 : decode cX10_isOpen 17 = .ok (.invokevirtual 160, 3) := by decide +kernel
theorem dX10_isOpen_20 : decode cX10_isOpen 20 = .ok (.lconst 0, 1) := by decide +kernel
theorem dX10_isOpen_21 : decode cX10_isOpen 21 = .ok (.lcmp, 1) := by decide +kernel
theorem dX10_isOpen_22 : decode cX10_isOpen 22 = .ok (.ifCond .eq 5, 3) := by decide +kernel
theorem dX10_isOpen_25 : decode cX10_isOpen 25 = .ok (.iconst 0, 1) := by decide +kernel
theorem dX10_isOpen_26 : decode cX10_isOpen 26 = .ok (.ireturn, 1) := by decide +kernel
theorem dX10_isOpen_27 : decode cX10_isOpen 27 = .ok (.iconst 0, 1) := by decide +kernel
theorem dX10_isOpen_28 : decode cX10_isOpen 28 = .ok (.istore_n 3, 1) := by decide +kernel
theorem dX10_isOpen_29 : decode cX10_isOpen 29 = .ok (.iload_n 3, 1) := by decide +kernel
theorem dX10_isOpen_30 : decode cX10_isOpen 30 = .ok (.iload_n 2, 1) := by decide +kernel
theorem dX10_isOpen_31 : decode cX10_isOpen 31 = .ok (.if_icmp .ge 101, 3) := by decide +kernel
theorem dX10_isOpen_34 : decode cX10_isOpen 34 = .ok (.iconst 0, 1) := by decide +kernel
theorem dX10_isOpen_35 : decode cX10_isOpen 35 = .ok (.istore 4, 2) := by decide +kernel
theorem dX10_isOpen_37 : decode cX10_isOpen 37 = .ok (.iload 4, 2) := by decide +kernel
theorem dX10_isOpen_39 : decode cX10_isOpen 39 = .ok (.iconst 3, 1) := by decide +kernel
theorem dX10_isOpen_40 : decode cX10_isOpen 40 = .ok (.if_icmp .ge 86, 3) := by decide +kernel
theorem dX10_isOpen_43 : decode cX10_isOpen 43 = .ok (.iload_n 1, 1) := by decide +kernel
theorem dX10_isOpen_44 : decode cX10_isOpen 44 = .ok (.iconst 1, 1) := by decide +kernel
theorem dX10_isOpen_45 : decode cX10_isOpen 45 = .ok (.if_icmp .ne 19, 3) := by decide +kernel
theorem dX10_isOpen_48 : decode cX10_isOpen 48 = .ok (.aload_n 0, 1) := by decide +kernel
theorem dX10_isOpen_49 : decode cX10_isOpen 49 = .ok (.iload_n 2, 1) := by decide +kernel
theorem dX10_isOpen_50 : decode cX10_isOpen 50 = .ok (.iload_n 3, 1) := by decide +kernel
theorem dX10_isOpen_51 : decode cX10_isOpen 51 = .ok (.iload 4, 2) := by decide +kernel
theorem dX10_isOpen_53 : decode cX10_isOpen 53 = .ok (.iconst 3, 1) := by decide +kernel
theorem dX10_isOpen_54 : decode cX10_isOpen 54 = .ok (.invokevirtual 168, 3) := by decide +kernel
theorem dX10_isOpen_57 : decode cX10_isOpen 57 = .ok (.lconst 0, 1) := by decide +kernel
theorem dX10_isOpen_58 : decode cX10_isOpen 58 = .ok (.lcmp, 1) := by decide +kernel
theorem dX10_isOpen_59 : decode cX10_isOpen 59 = .ok (.ifCond .eq 5, 3) := by decide +kernel
theorem dX10_isOpen_62 : decode cX10_isOpen 62 = .ok (.iconst 0, 1) := by decide +kernel
theorem dX10_isOpen_63 : decode cX10_isOpen 63 = .ok (.ireturn, 1) := by decide +kernel
theorem dX10_isOpen_64 : decode cX10_isOpen 64 = .ok (.iconst 0, 1) := by decide +kernel
theorem dX10_isOpen_65 : decode cX10_isOpen 65 = .ok (.istore 5, 2) := by decide +kernel
theorem dX10_isOpen_67 : decode cX10_isOpen 67 = .ok (.iload 5, 2) := by decide +kernel
theorem dX10_isOpen_69 : decode cX10_isOpen 69 = .ok (.iload_n 3, 1) := by decide +kernel
theorem dX10_isOpen_70 : decode cX10_isOpen 70 = .ok (.if_icmp .ge 50, 3) := by decide +kernel
theorem dX10_isOpen_73 : decode cX10_isOpen 73 = .ok (.iconst 0, 1) := by decide +kernel
theorem dX10_isOpen_74 : decode cX10_isOpen 74 = .ok (.istore 6, 2) := by decide +kernel
theorem dX10_isOpen_76 : decode cX10_isOpen 76 = .ok (.iload 6, 2) := by decide +kernel
theorem dX10_isOpen_78 : decode cX10_isOpen 78 = .ok (.iload 4, 2) := by decide +kernel
theorem dX10_isOpen_80 : decode cX10_isOpen 80 = .ok (.if_icmp .ge 34, 3) := by decide +kernel
theorem dX10_isOpen_83 : decode cX10_isOpen 83 = .ok (.iload_n 1, 1) := by decide +kernel
theorem dX10_isOpen_84 : decode cX10_isOpen 84 = .ok (.iconst 2, 1) := by decide +kernel
theorem dX10_isOpen_85 : decode cX10_isOpen 85 = .ok (.if_icmp .ne 23, 3) := by decide +kernel
theorem dX10_isOpen_88 : decode cX10_isOpen 88 = .ok (.aload_n 0, 1) := by decide +kernel
theorem dX10_isOpen_89 : decode cX10_isOpen 89 = .ok (.iload_n 2, 1) := by decide +kernel
theorem dX10_isOpen_90 : decode cX10_isOpen 90 = .ok (.iload_n 3, 1) := by decide +kernel
theorem dX10_isOpen_91 : decode cX10_isOpen 91 = .ok (.iload 5, 2) := by decide +kernel
theorem dX10_isOpen_93 : decode cX10_isOpen 93 = .ok (.iload 6, 2) := by decide +kernel
theorem dX10_isOpen_95 : decode cX10_isOpen 95 = .ok (.iload 4, 2) := by decide +kernel
theorem dX10_isOpen_97 : decode cX10_isOpen 97 = .ok (.iconst 3, 1) := by decide +kernel
theorem dX10_isOpen_98 : decode cX10_isOpen 98 = .ok (.invokevirtual 172, 3) := by decide +kernel
theorem dX10_isOpen_101 : decode cX10_isOpen 101 = .ok (.lconst 0, 1) := by decide +kernel
theorem dX10_isOpen_102 : decode cX10_isOpen 102 = .ok (.lcmp, 1) := by decide +kernel
theorem dX10_isOpen_103 : decode cX10_isOpen 103 = .ok (.ifCond .eq 5, 3) := by decide +kernel
theorem dX10_isOpen_106 : decode cX10_isOpen 106 = .ok (.iconst 0, 1) := by decide +kernel
theorem dX10_isOpen_107 : decode cX10_isOpen 107 = .ok (.ireturn, 1) := by decide +kernel
theorem dX10_isOpen_108 : decode cX10_isOpen 108 = .ok (.iinc 6 1, 3) := by decide +kernel
theorem dX10_isOpen_111 : decode cX10_isOpen 111 = .ok (.goto (-35), 3) := by decide +kernel
theorem dX10_isOpen_114 : decode cX10_isOpen 114 = .ok (.iinc 5 1, 3) := by decide +kernel
theorem dX10_isOpen_117 : decode cX10_isOpen 117 = .ok (.goto (-50), 3) := by decide +kernel
theorem dX10_isOpen_120 : decode cX10_isOpen 120 = .ok (.iinc 4 1, 3) := by decide +kernel
theorem dX10_isOpen_123 : decode cX10_isOpen 123 = .ok (.goto (-86), 3) := by decide +kernel
theorem dX10_isOpen_126 : decode cX10_isOpen 126 = .ok (.iinc 3 1, 3) := by decide +kernel
theorem dX10_isOpen_129 : decode cX10_isOpen 129 = .ok (.goto (-100), 3) := by decide +kernel
theorem dX10_isOpen_132 : decode cX10_isOpen 132 = .ok (.iinc 2 1, 3) := by decide +kernel
theorem dX10_isOpen_135 : decode cX10_isOpen 135 = .ok (.goto (-133), 3) := by decide +kernel
theorem dX10_isOpen_138 : decode cX10_isOpen 138 = .ok (.iconst 1, 1) := by decide +kernel
theorem dX10_isOpen_139 : decode cX10_isOpen 139 = .ok (.ireturn, 1) := by decide +kernel
theorem dX10_verdict_0 : decode cX10_verdict 0 = .ok (.iload_n 1, 1) := by decide +kernel
theorem dX10_verdict_1 : decode cX10_verdict 1 = .ok (.iconst 1, 1) := by decide +kernel
theorem dX10_verdict_2 : decode cX10_verdict 2 = .ok (.iconst 1, 1) := by decide +kernel
theorem dX10_verdict_3 : decode cX10_verdict 3 = .ok (.aload_n 0, 1) := by decide +kernel
theorem dX10_verdict_4 : decode cX10_verdict 4 = .ok (.getfield 16, 3) := by decide +kernel
theorem dX10_verdict_7 : decode cX10_verdict 7 = .ok (.iconst 0, 1) := by decide +kernel
theorem dX10_verdict_8 : decode cX10_verdict 8 = .ok (.iaload, 1) := by decide +kernel
theorem dX10_verdict_9 : decode cX10_verdict 9 = .ok (.ishl, 1) := by decide +kernel
theorem dX10_verdict_10 : decode cX10_verdict 10 = .ok (.iconst 1, 1) := by decide +kernel
theorem dX10_verdict_11 : decode cX10_verdict 11 = .ok (.isub, 1) := by decide +kernel
theorem dX10_verdict_12 : decode cX10_verdict 12 = .ok (.invokestatic 48, 3) := by decide +kernel
theorem dX10_verdict_15 : decode cX10_verdict 15 = .ok (.ifCond .eq 11, 3) := by decide +kernel
theorem dX10_verdict_18 : decode cX10_verdict 18 = .ok (.aload_n 0, 1) := by decide +kernel
theorem dX10_verdict_19 : decode cX10_verdict 19 = .ok (.iload_n 1, 1) := by decide +kernel
theorem dX10_verdict_20 : decode cX10_verdict 20 = .ok (.invokevirtual 207, 3) := by decide +kernel
theorem dX10_verdict_23 : decode cX10_verdict 23 = .ok (.goto 4, 3) := by decide +kernel
theorem dX10_verdict_26 : decode cX10_verdict 26 = .ok (.iconst (-1), 1) := by decide +kernel
theorem dX10_verdict_27 : decode cX10_verdict 27 = .ok (.ireturn, 1) := by decide +kernel
theorem dX10_outOf_0 : decode cX10_outOf 0 = .ok (.iconst 0, 1) := by decide +kernel
theorem dX10_outOf_1 : decode cX10_outOf 1 = .ok (.istore_n 2, 1) := by decide +kernel
theorem dX10_outOf_2 : decode cX10_outOf 2 = .ok (.iload_n 2, 1) := by decide +kernel
theorem dX10_outOf_3 : decode cX10_outOf 3 = .ok (.iconst 3, 1) := by decide +kernel
theorem dX10_outOf_4 : decode cX10_outOf 4 = .ok (.if_icmp .ge 63, 3) := by decide +kernel
theorem dX10_outOf_7 : decode cX10_outOf 7 = .ok (.iconst 0, 1) := by decide +kernel
theorem dX10_outOf_8 : decode cX10_outOf 8 = .ok (.istore_n 3, 1) := by decide +kernel
theorem dX10_outOf_9 : decode cX10_outOf 9 = .ok (.iload_n 3, 1) := by decide +kernel
theorem dX10_outOf_10 : decode cX10_outOf 10 = .ok (.iconst 1, 1) := by decide +kernel
theorem dX10_outOf_11 : decode cX10_outOf 11 = .ok (.aload_n 0, 1) := by decide +kernel
theorem dX10_outOf_12 : decode cX10_outOf 12 = .ok (.getfield 16, 3) := by decide +kernel
theorem dX10_outOf_15 : decode cX10_outOf 15 = .ok (.iconst 0, 1) := by decide +kernel
theorem dX10_outOf_16 : decode cX10_outOf 16 = .ok (.iaload, 1) := by decide +kernel
theorem dX10_outOf_17 : decode cX10_outOf 17 = .ok (.ishl, 1) := by decide +kernel
theorem dX10_outOf_18 : decode cX10_outOf 18 = .ok (.if_icmp .ge 43, 3) := by decide +kernel
theorem dX10_outOf_21 : decode cX10_outOf 21 = .ok (.iload_n 3, 1) := by decide +kernel
theorem dX10_outOf_22 : decode cX10_outOf 22 = .ok (.invokestatic 210, 3) := by decide +kernel
theorem dX10_outOf_25 : decode cX10_outOf 25 = .ok (.iload_n 2, 1) := by decide +kernel
theorem dX10_outOf_26 : decode cX10_outOf 26 = .ok (.if_icmp .ne 29, 3) := by decide +kernel
theorem dX10_outOf_29 : decode cX10_outOf 29 = .ok (.iload_n 3, 1) := by decide +kernel
theorem dX10_outOf_30 : decode cX10_outOf 30 = .ok (.iload_n 1, 1) := by decide +kernel
theorem dX10_outOf_31 : decode cX10_outOf 31 = .ok (.iand, 1) := by decide +kernel
theorem dX10_outOf_32 : decode cX10_outOf 32 = .ok (.iload_n 3, 1) := by decide +kernel
theorem dX10_outOf_33 : decode cX10_outOf 33 = .ok (.if_icmp .ne 22, 3) := by decide +kernel
theorem dX10_outOf_36 : decode cX10_outOf 36 = .ok (.iload_n 3, 1) := by decide +kernel
theorem dX10_outOf_37 : decode cX10_outOf 37 = .ok (.iload_n 1, 1) := by decide +kernel
theorem dX10_outOf_38 : decode cX10_outOf 38 = .ok (.if_icmp .eq 17, 3) := by decide +kernel
theorem dX10_outOf_41 : decode cX10_outOf 41 = .ok (.aload_n 0, 1) := by decide +kernel
theorem dX10_outOf_42 : decode cX10_outOf 42 = .ok (.iload_n 1, 1) := by decide +kernel
theorem dX10_outOf_43 : decode cX10_outOf 43 = .ok (.iload_n 3, 1) := by decide +kernel
theorem dX10_outOf_44 : decode cX10_outOf 44 = .ok (.iconst (-1), 1) := by decide +kernel
theorem dX10_outOf_45 : decode cX10_outOf 45 = .ok (.ixor, 1) := by decide +kernel
theorem dX10_outOf_46 : decode cX10_outOf 46 = .ok (.iand, 1) := by decide +kernel
theorem dX10_outOf_47 : decode cX10_outOf 47 = .ok (.invokevirtual 207, 3) := by decide +kernel
theorem dX10_outOf_50 : decode cX10_outOf 50 = .ok (.ifCond .ne 5, 3) := by decide +kernel
theorem dX10_outOf_53 : decode cX10_outOf 53 = .ok (.iload_n 3, 1) := by decide +kernel
theorem dX10_outOf_54 : decode cX10_outOf 54 = .ok (.ireturn, 1) := by decide +kernel
theorem dX10_outOf_55 : decode cX10_outOf 55 = .ok (.iinc 3 1, 3) := by decide +kernel
theorem dX10_outOf_58 : decode cX10_outOf 58 = .ok (.goto (-49), 3) := by decide +kernel
theorem dX10_outOf_61 : decode cX10_outOf 61 = .ok (.iinc 2 1, 3) := by decide +kernel
theorem dX10_outOf_64 : decode cX10_outOf 64 = .ok (.goto (-62), 3) := by decide +kernel
theorem dX10_outOf_67 : decode cX10_outOf 67 = .ok (.bipush (-9), 2) := by decide +kernel
theorem dX10_outOf_69 : decode cX10_outOf 69 = .ok (.ireturn, 1) := by decide +kernel
theorem dX10_worstOf_0 : decode cX10_worstOf 0 = .ok (.lconst 0, 1) := by decide +kernel
theorem dX10_worstOf_1 : decode cX10_worstOf 1 = .ok (.lstore_n 2, 1) := by decide +kernel
theorem dX10_worstOf_2 : decode cX10_worstOf 2 = .ok (.iconst 0, 1) := by decide +kernel
theorem dX10_worstOf_3 : decode cX10_worstOf 3 = .ok (.istore 4, 2) := by decide +kernel
theorem dX10_worstOf_5 : decode cX10_worstOf 5 = .ok (.iload 4, 2) := by decide +kernel
theorem dX10_worstOf_7 : decode cX10_worstOf 7 = .ok (.aload_n 0, 1) := by decide +kernel
theorem dX10_worstOf_8 : decode cX10_worstOf 8 = .ok (.getfield 16, 3) := by decide +kernel
theorem dX10_worstOf_11 : decode cX10_worstOf 11 = .ok (.iconst 0, 1) := by decide +kernel
theorem dX10_worstOf_12 : decode cX10_worstOf 12 = .ok (.iaload, 1) := by decide +kernel
theorem dX10_worstOf_13 : decode cX10_worstOf 13 = .ok (.if_icmp .ge 71, 3) := by decide +kernel
theorem dX10_worstOf_16 : decode cX10_worstOf 16 = .ok (.iload_n 1, 1) := by decide +kernel
theorem dX10_worstOf_17 : decode cX10_worstOf 17 = .ok (.iload 4, 2) := by decide +kernel
theorem dX10_worstOf_19 : decode cX10_worstOf 19 = .ok (.invokestatic 125, 3) := by decide +kernel
theorem dX10_worstOf_22 : decode cX10_worstOf 22 = .ok (.ifCond .eq 56, 3) := by decide +kernel
theorem dX10_worstOf_25 : decode cX10_worstOf 25 = .ok (.aload_n 0, 1) := by decide +kernel
theorem dX10_worstOf_26 : decode cX10_worstOf 26 = .ok (.iload 4, 2) := by decide +kernel
theorem dX10_worstOf_28 : decode cX10_worstOf 28 = .ok (.invokevirtual 203, 3) := by decide +kernel
theorem dX10_worstOf_31 : decode cX10_worstOf 31 = .ok (.lstore 5, 2) := by decide +kernel
theorem dX10_worstOf_33 : decode cX10_worstOf 33 = .ok (.lload 5, 2) := by decide +kernel
theorem dX10_worstOf_35 : decode cX10_worstOf 35 = .ok (.lconst 0, 1) := by decide +kernel
theorem dX10_worstOf_36 : decode cX10_worstOf 36 = .ok (.lcmp, 1) := by decide +kernel
theorem dX10_worstOf_37 : decode cX10_worstOf 37 = .ok (.ifCond .ge 9, 3) := by decide +kernel
theorem dX10_worstOf_40 : decode cX10_worstOf 40 = .ok (.lload 5, 2) := by decide +kernel
theorem dX10_worstOf_42 : decode cX10_worstOf 42 = .ok (.lneg, 1) := by decide +kernel
theorem dX10_worstOf_43 : decode cX10_worstOf 43 = .ok (.goto 5, 3) := by decide +kernel
theorem dX10_worstOf_46 : decode cX10_worstOf 46 = .ok (.lload 5, 2) := by decide +kernel
theorem dX10_worstOf_48 : decode cX10_worstOf 48 = .ok (.lstore 5, 2) := by decide +kernel
theorem dX10_worstOf_50 : decode cX10_worstOf 50 = .ok (.lload 5, 2) := by decide +kernel
theorem dX10_worstOf_52 : decode cX10_worstOf 52 = .ok (.aload_n 0, 1) := by decide +kernel
theorem dX10_worstOf_53 : decode cX10_worstOf 53 = .ok (.getfield 178, 3) := by decide +kernel
theorem dX10_worstOf_56 : decode cX10_worstOf 56 = .ok (.aload_n 0, 1) := by decide +kernel
theorem dX10_worstOf_57 : decode cX10_worstOf 57 = .ok (.getfield 178, 3) := by decide +kernel
theorem dX10_worstOf_60 : decode cX10_worstOf 60 = .ok (.lmul, 1) := by decide +kernel
theorem dX10_worstOf_61 : decode cX10_worstOf 61 = .ok (.ldiv, 1) := by decide +kernel
theorem dX10_worstOf_62 : decode cX10_worstOf 62 = .ok (.lstore 5, 2) := by decide +kernel
theorem dX10_worstOf_64 : decode cX10_worstOf 64 = .ok (.lload 5, 2) := by decide +kernel
theorem dX10_worstOf_66 : decode cX10_worstOf 66 = .ok (.lload_n 2, 1) := by decide +kernel
theorem dX10_worstOf_67 : decode cX10_worstOf 67 = .ok (.lcmp, 1) := by decide +kernel
theorem dX10_worstOf_68 : decode cX10_worstOf 68 = .ok (.ifCond .le 8, 3) := by decide +kernel
theorem dX10_worstOf_71 : decode cX10_worstOf 71 = .ok (.lload 5, 2) := by decide +kernel
theorem dX10_worstOf_73 : decode cX10_worstOf 73 = .ok (.goto 4, 3) := by decide +kernel
theorem dX10_worstOf_76 : decode cX10_worstOf 76 = .ok (.lload_n 2, 1) := by decide +kernel
theorem dX10_worstOf_77 : decode cX10_worstOf 77 = .ok (.lstore_n 2, 1) := by decide +kernel
theorem dX10_worstOf_78 : decode cX10_worstOf 78 = .ok (.iinc 4 1, 3) := by decide +kernel
theorem dX10_worstOf_81 : decode cX10_worstOf 81 = .ok (.goto (-76), 3) := by decide +kernel
theorem dX10_worstOf_84 : decode cX10_worstOf 84 = .ok (.lload_n 2, 1) := by decide +kernel
theorem dX10_worstOf_85 : decode cX10_worstOf 85 = .ok (.ldc2_w 213, 3) := by decide +kernel
theorem dX10_worstOf_88 : decode cX10_worstOf 88 = .ok (.lcmp, 1) := by decide +kernel
theorem dX10_worstOf_89 : decode cX10_worstOf 89 = .ok (.ifCond .le 8, 3) := by decide +kernel
theorem dX10_worstOf_92 : decode cX10_worstOf 92 = .ok (.ldc 215, 2) := by decide +kernel
theorem dX10_worstOf_94 : decode cX10_worstOf 94 = .ok (.goto 5, 3) := by decide +kernel
theorem dX10_worstOf_97 : decode cX10_worstOf 97 = .ok (.lload_n 2, 1) := by decide +kernel
theorem dX10_worstOf_98 : decode cX10_worstOf 98 = .ok (.l2i, 1) := by decide +kernel
theorem dX10_worstOf_99 : decode cX10_worstOf 99 = .ok (.ireturn, 1) := by decide +kernel
theorem dX10_fourOf_0 : decode cX10_fourOf 0 = .ok (.bipush (-9), 2) := by decide +kernel
theorem dX10_fourOf_2 : decode cX10_fourOf 2 = .ok (.istore_n 2, 1) := by decide +kernel
theorem dX10_fourOf_3 : decode cX10_fourOf 3 = .ok (.iconst 0, 1) := by decide +kernel
theorem dX10_fourOf_4 : decode cX10_fourOf 4 = .ok (.istore_n 3, 1) := by decide +kernel
theorem dX10_fourOf_5 : decode cX10_fourOf 5 = .ok (.iload_n 3, 1) := by decide +kernel
theorem dX10_fourOf_6 : decode cX10_fourOf 6 = .ok (.iconst 1, 1) := by decide +kernel
theorem dX10_fourOf_7 : decode cX10_fourOf 7 = .ok (.aload_n 0, 1) := by decide +kernel
theorem dX10_fourOf_8 : decode cX10_fourOf 8 = .ok (.getfield 16, 3) := by decide +kernel
theorem dX10_fourOf_11 : decode cX10_fourOf 11 = .ok (.iconst 0, 1) := by decide +kernel
theorem dX10_fourOf_12 : decode cX10_fourOf 12 = .ok (.iaload, 1) := by decide +kernel
theorem dX10_fourOf_13 : decode cX10_fourOf 13 = .ok (.ishl, 1) := by decide +kernel
theorem dX10_fourOf_14 : decode cX10_fourOf 14 = .ok (.if_icmp .ge 67, 3) := by decide +kernel
theorem dX10_fourOf_17 : decode cX10_fourOf 17 = .ok (.iload_n 3, 1) := by decide +kernel
theorem dX10_fourOf_18 : decode cX10_fourOf 18 = .ok (.invokestatic 210, 3) := by decide +kernel
theorem dX10_fourOf_21 : decode cX10_fourOf 21 = .ok (.iconst 4, 1) := by decide +kernel
theorem dX10_fourOf_22 : decode cX10_fourOf 22 = .ok (.if_icmp .ne 53, 3) := by decide +kernel
theorem dX10_fourOf_25 : decode cX10_fourOf 25 = .ok (.iload_n 3, 1) := by decide +kernel
theorem dX10_fourOf_26 : decode cX10_fourOf 26 = .ok (.iload_n 1, 1) := by decide +kernel
theorem dX10_fourOf_27 : decode cX10_fourOf 27 = .ok (.iand, 1) := by decide +kernel
theorem dX10_fourOf_28 : decode cX10_fourOf 28 = .ok (.iload_n 3, 1) := by decide +kernel
theorem dX10_fourOf_29 : decode cX10_fourOf 29 = .ok (.if_icmp .ne 46, 3) := by decide +kernel
theorem dX10_fourOf_32 : decode cX10_fourOf 32 = .ok (.aload_n 0, 1) := by decide +kernel
theorem dX10_fourOf_33 : decode cX10_fourOf 33 = .ok (.iload_n 3, 1) := by decide +kernel
theorem dX10_fourOf_34 : decode cX10_fourOf 34 = .ok (.invokevirtual 191, 3) := by decide +kernel
theorem dX10_fourOf_37 : decode cX10_fourOf 37 = .ok (.iconst 3, 1) := by decide +kernel
theorem dX10_fourOf_38 : decode cX10_fourOf 38 = .ok (.if_icmp .ne 37, 3) := by decide +kernel
theorem dX10_fourOf_41 : decode cX10_fourOf 41 = .ok (.aload_n 0, 1) := by decide +kernel
theorem dX10_fourOf_42 : decode cX10_fourOf 42 = .ok (.invokevirtual 197, 3) := by decide +kernel
theorem dX10_fourOf_45 : decode cX10_fourOf 45 = .ok (.aload_n 0, 1) := by decide +kernel
theorem dX10_fourOf_46 : decode cX10_fourOf 46 = .ok (.iload_n 1, 1) := by decide +kernel
theorem dX10_fourOf_47 : decode cX10_fourOf 47 = .ok (.invokevirtual 216, 3) := by decide +kernel
theorem dX10_fourOf_50 : decode cX10_fourOf 50 = .ok (.istore 4, 2) := by decide +kernel
theorem dX10_fourOf_52 : decode cX10_fourOf 52 = .ok (.iload_n 2, 1) := by decide +kernel
theorem dX10_fourOf_53 : decode cX10_fourOf 53 = .ok (.bipush (-9), 2) := by decide +kernel
theorem dX10_fourOf_55 : decode cX10_fourOf 55 = .ok (.if_icmp .eq 12, 3) := by decide +kernel
theorem dX10_fourOf_58 : decode cX10_fourOf 58 = .ok (.iload 4, 2) := by decide +kernel
theorem dX10_fourOf_60 : decode cX10_fourOf 60 = .ok (.aload_n 0, 1) := by decide +kernel
theorem dX10_fourOf_61 : decode cX10_fourOf 61 = .ok (.getfield 219, 3) := by decide +kernel
theorem dX10_fourOf_64 : decode cX10_fourOf 64 = .ok (.if_icmp .ge 11, 3) := by decide +kernel
theorem dX10_fourOf_67 : decode cX10_fourOf 67 = .ok (.iload_n 3, 1) := by decide +kernel
theorem dX10_fourOf_68 : decode cX10_fourOf 68 = .ok (.istore_n 2, 1) := by decide +kernel
theorem dX10_fourOf_69 : decode cX10_fourOf 69 = .ok (.aload_n 0, 1) := by decide +kernel
theorem dX10_fourOf_70 : decode cX10_fourOf 70 = .ok (.iload 4, 2) := by decide +kernel
theorem dX10_fourOf_72 : decode cX10_fourOf 72 = .ok (.putfield 219, 3) := by decide +kernel
theorem dX10_fourOf_75 : decode cX10_fourOf 75 = .ok (.iinc 3 1, 3) := by decide +kernel
theorem dX10_fourOf_78 : decode cX10_fourOf 78 = .ok (.goto (-73), 3) := by decide +kernel
theorem dX10_fourOf_81 : decode cX10_fourOf 81 = .ok (.iload_n 2, 1) := by decide +kernel
theorem dX10_fourOf_82 : decode cX10_fourOf 82 = .ok (.ireturn, 1) := by decide +kernel
theorem dX10_root_0 : decode cX10_root 0 = .ok (.iconst 0, 1) := by decide +kernel
theorem dX10_root_1 : decode cX10_root 1 = .ok (.istore_n 1, 1) := by decide +kernel
theorem dX10_root_2 : decode cX10_root 2 = .ok (.iload_n 1, 1) := by decide +kernel
theorem dX10_root_3 : decode cX10_root 3 = .ok (.iload_n 1, 1) := by decide +kernel
theorem dX10_root_4 : decode cX10_root 4 = .ok (.imul, 1) := by decide +kernel
theorem dX10_root_5 : decode cX10_root 5 = .ok (.iload_n 0, 1) := by decide +kernel
theorem dX10_root_6 : decode cX10_root 6 = .ok (.if_icmp .ge 9, 3) := by decide +kernel
theorem dX10_root_9 : decode cX10_root 9 = .ok (.iinc 1 1, 3) := by decide +kernel
theorem dX10_root_12 : decode cX10_root 12 = .ok (.goto (-10), 3) := by decide +kernel
theorem dX10_root_15 : decode cX10_root 15 = .ok (.iload_n 1, 1) := by decide +kernel
theorem dX10_root_16 : decode cX10_root 16 = .ok (.iload_n 1, 1) := by decide +kernel
theorem dX10_root_17 : decode cX10_root 17 = .ok (.imul, 1) := by decide +kernel
theorem dX10_root_18 : decode cX10_root 18 = .ok (.iload_n 0, 1) := by decide +kernel
theorem dX10_root_19 : decode cX10_root 19 = .ok (.if_icmp .ne 7, 3) := by decide +kernel
theorem dX10_root_22 : decode cX10_root 22 = .ok (.iload_n 1, 1) := by decide +kernel
theorem dX10_root_23 : decode cX10_root 23 = .ok (.goto 5, 3) := by decide +kernel
theorem dX10_root_26 : decode cX10_root 26 = .ok (.bipush (-9), 2) := by decide +kernel
theorem dX10_root_28 : decode cX10_root 28 = .ok (.ireturn, 1) := by decide +kernel
theorem dX10_layCan_0 : decode cX10_layCan 0 = .ok (.aload_n 0, 1) := by decide +kernel
theorem dX10_layCan_1 : decode cX10_layCan 1 = .ok (.iconst 0, 1) := by decide +kernel
theorem dX10_layCan_2 : decode cX10_layCan 2 = .ok (.putfield 222, 3) := by decide +kernel
theorem dX10_layCan_5 : decode cX10_layCan 5 = .ok (.aload_n 0, 1) := by decide +kernel
theorem dX10_layCan_6 : decode cX10_layCan 6 = .ok (.bipush (-9), 2) := by decide +kernel
theorem dX10_layCan_8 : decode cX10_layCan 8 = .ok (.putfield 225, 3) := by decide +kernel
theorem dX10_layCan_11 : decode cX10_layCan 11 = .ok (.aload_n 0, 1) := by decide +kernel
theorem dX10_layCan_12 : decode cX10_layCan 12 = .ok (.iload_n 1, 1) := by decide +kernel
theorem dX10_layCan_13 : decode cX10_layCan 13 = .ok (.invokevirtual 157, 3) := by decide +kernel
theorem dX10_layCan_16 : decode cX10_layCan 16 = .ok (.istore_n 2, 1) := by decide +kernel
theorem dX10_layCan_17 : decode cX10_layCan 17 = .ok (.iconst 0, 1) := by decide +kernel
theorem dX10_layCan_18 : decode cX10_layCan 18 = .ok (.istore_n 3, 1) := by decide +kernel
theorem dX10_layCan_19 : decode cX10_layCan 19 = .ok (.iload_n 3, 1) := by decide +kernel
theorem dX10_layCan_20 : decode cX10_layCan 20 = .ok (.sipush 900, 3) := by decide +kernel
theorem dX10_layCan_23 : decode cX10_layCan 23 = .ok (.if_icmp .ge 233, 3) := by decide +kernel
theorem dX10_layCan_26 : decode cX10_layCan 26 = .ok (.iload_n 3, 1) := by decide +kernel
theorem dX10_layCan_27 : decode cX10_layCan 27 = .ok (.bipush 30, 2) := by decide +kernel
theorem dX10_layCan_29 : decode cX10_layCan 29 = .ok (.idiv, 1) := by decide +kernel
theorem dX10_layCan_30 : decode cX10_layCan 30 = .ok (.istore 4, 2) := by decide +kernel
theorem dX10_layCan_32 : decode cX10_layCan 32 = .ok (.iload_n 3, 1) := by decide +kernel
theorem dX10_layCan_33 : decode cX10_layCan 33 = .ok (.bipush 30, 2) := by decide +kernel
theorem dX10_layCan_35 : decode cX10_layCan 35 = .ok (.irem, 1) := by decide +kernel
theorem dX10_layCan_36 : decode cX10_layCan 36 = .ok (.istore 5, 2) := by decide +kernel
theorem dX10_layCan_38 : decode cX10_layCan 38 = .ok (.iload 4, 2) := by decide +kernel
theorem dX10_layCan_40 : decode cX10_layCan 40 = .ok (.aload_n 0, 1) := by decide +kernel
theorem dX10_layCan_41 : decode cX10_layCan 41 = .ok (.iload_n 2, 1) := by decide +kernel
theorem dX10_layCan_42 : decode cX10_layCan 42 = .ok (.invokevirtual 116, 3) := by decide +kernel
theorem dX10_layCan_45 : decode cX10_layCan 45 = .ok (.isub, 1) := by decide +kernel
theorem dX10_layCan_46 : decode cX10_layCan 46 = .ok (.invokestatic 113, 3) := by decide +kernel
theorem dX10_layCan_49 : decode cX10_layCan 49 = .ok (.iload 5, 2) := by decide +kernel
theorem dX10_layCan_51 : decode cX10_layCan 51 = .ok (.aload_n 0, 1) := by decide +kernel
theorem dX10_layCan_52 : decode cX10_layCan 52 = .ok (.iload_n 2, 1) := by decide +kernel
theorem dX10_layCan_53 : decode cX10_layCan 53 = .ok (.invokevirtual 119, 3) := by decide +kernel
theorem dX10_layCan_56 : decode cX10_layCan 56 = .ok (.isub, 1) := by decide +kernel
theorem dX10_layCan_57 : decode cX10_layCan 57 = .ok (.invokestatic 113, 3) := by decide +kernel
theorem dX10_layCan_60 : decode cX10_layCan 60 = .ok (.iadd, 1) := by decide +kernel
theorem dX10_layCan_61 : decode cX10_layCan 61 = .ok (.invokestatic 228, 3) := by decide +kernel
theorem dX10_layCan_64 : decode cX10_layCan 64 = .ok (.istore 6, 2) := by decide +kernel
theorem dX10_layCan_66 : decode cX10_layCan 66 = .ok (.aload_n 0, 1) := by decide +kernel
theorem dX10_layCan_67 : decode cX10_layCan 67 = .ok (.iload_n 2, 1) := by decide +kernel
theorem dX10_layCan_68 : decode cX10_layCan 68 = .ok (.invokevirtual 110, 3) := by decide +kernel
theorem dX10_layCan_71 : decode cX10_layCan 71 = .ok (.iload 6, 2) := by decide +kernel
theorem dX10_layCan_73 : decode cX10_layCan 73 = .ok (.isub, 1) := by decide +kernel
theorem dX10_layCan_74 : decode cX10_layCan 74 = .ok (.istore 7, 2) := by decide +kernel
theorem dX10_layCan_76 : decode cX10_layCan 76 = .ok (.iload 6, 2) := by decide +kernel
theorem dX10_layCan_78 : decode cX10_layCan 78 = .ok (.bipush (-9), 2) := by decide +kernel
theorem dX10_layCan_80 : decode cX10_layCan 80 = .ok (.if_icmp .eq 18, 3) := by decide +kernel
theorem dX10_layCan_83 : decode cX10_layCan 83 = .ok (.iload 7, 2) := by decide +kernel
theorem dX10_layCan_85 : decode cX10_layCan 85 = .ok (.iconst 0, 1) := by decide +kernel
theorem dX10_layCan_86 : decode cX10_layCan 86 = .ok (.bipush 60, 2) := by decide +kernel
theorem dX10_layCan_88 : decode cX10_layCan 88 = .ok (.invokestatic 48, 3) := by decide +kernel
theorem dX10_layCan_91 : decode cX10_layCan 91 = .ok (.ifCond .eq 7, 3) := by decide +kernel
theorem dX10_layCan_94 : decode cX10_layCan 94 = .ok (.iconst 1, 1) := by decide +kernel
theorem dX10_layCan_95 : decode cX10_layCan 95 = .ok (.goto 4, 3) := by decide +kernel
theorem dX10_layCan_98 : decode cX10_layCan 98 = .ok (.iconst 0, 1) := by decide +kernel
theorem dX10_layCan_99 : decode cX10_layCan 99 = .ok (.istore 8, 2) := by decide +kernel
theorem dX10_layCan_101 : decode cX10_layCan 101 = .ok (.iconst 0, 1) := by decide +kernel
theorem dX10_layCan_102 : decode cX10_layCan 102 = .ok (.istore 9, 2) := by decide +kernel
theorem dX10_layCan_104 : decode cX10_layCan 104 = .ok (.iload 9, 2) := by decide +kernel
theorem dX10_layCan_106 : decode cX10_layCan 106 = .ok (.aload_n 0, 1) := by decide +kernel
theorem dX10_layCan_107 : decode cX10_layCan 107 = .ok (.getfield 16, 3) := by decide +kernel
theorem dX10_layCan_110 : decode cX10_layCan 110 = .ok (.iconst 0, 1) := by decide +kernel
theorem dX10_layCan_111 : decode cX10_layCan 111 = .ok (.iaload, 1) := by decide +kernel
theorem dX10_layCan_112 : decode cX10_layCan 112 = .ok (.if_icmp .ge 81, 3) := by decide +kernel
theorem dX10_layCan_115 : decode cX10_layCan 115 = .ok (.iload 8, 2) := by decide +kernel
theorem dX10_layCan_117 : decode cX10_layCan 117 = .ok (.ifCond .eq 76, 3) := by decide +kernel
theorem dX10_layCan_120 : decode cX10_layCan 120 = .ok (.iload_n 1, 1) := by decide +kernel
theorem dX10_layCan_121 : decode cX10_layCan 121 = .ok (.iload 9, 2) := by decide +kernel
theorem dX10_layCan_123 : decode cX10_layCan 123 = .ok (.invokestatic 125, 3) := by decide +kernel
theorem dX10_layCan_126 : decode cX10_layCan 126 = .ok (.ifCond .eq 54, 3) := by decide +kernel
theorem dX10_layCan_129 : decode cX10_layCan 129 = .ok (.iload 7, 2) := by decide +kernel
theorem dX10_layCan_131 : decode cX10_layCan 131 = .ok (.aload_n 0, 1) := by decide +kernel
theorem dX10_layCan_132 : decode cX10_layCan 132 = .ok (.iload 9, 2) := by decide +kernel
theorem dX10_layCan_134 : decode cX10_layCan 134 = .ok (.invokevirtual 110, 3) := by decide +kernel
theorem dX10_layCan_137 : decode cX10_layCan 137 = .ok (.if_icmp .gt 47, 3) := by decide +kernel
theorem dX10_layCan_140 : decode cX10_layCan 140 = .ok (.iload 4, 2) := by decide +kernel
theorem dX10_layCan_142 : decode cX10_layCan 142 = .ok (.aload_n 0, 1) := by decide +kernel
theorem dX10_layCan_143 : decode cX10_layCan 143 = .ok (.iload 9, 2) := by decide +kernel
theorem dX10_layCan_145 : decode cX10_layCan 145 = .ok (.invokevirtual 116, 3) := by decide +kernel
theorem dX10_layCan_148 : decode cX10_layCan 148 = .ok (.isub, 1) := by decide +kernel
theorem dX10_layCan_149 : decode cX10_layCan 149 = .ok (.invokestatic 113, 3) := by decide +kernel
theorem dX10_layCan_152 : decode cX10_layCan 152 = .ok (.iload 5, 2) := by decide +kernel
theorem dX10_layCan_154 : decode cX10_layCan 154 = .ok (.aload_n 0, 1) := by decide +kernel
theorem dX10_layCan_155 : decode cX10_layCan 155 = .ok (.iload 9, 2) := by decide +kernel
theorem dX10_layCan_157 : decode cX10_layCan 157 = .ok (.invokevirtual 119, 3) := by decide +kernel
theorem dX10_layCan_160 : decode cX10_layCan 160 = .ok (.isub, 1) := by decide +kernel
theorem dX10_layCan_161 : decode cX10_layCan 161 = .ok (.invokestatic 113, 3) := by decide +kernel
theorem dX10_layCan_164 : decode cX10_layCan 164 = .ok (.iadd, 1) := by decide +kernel
theorem dX10_layCan_165 : decode cX10_layCan 165 = .ok (.aload_n 0, 1) := by decide +kernel
theorem dX10_layCan_166 : decode cX10_layCan 166 = .ok (.iload 9, 2) := by decide +kernel
theorem dX10_layCan_168 : decode cX10_layCan 168 = .ok (.invokevirtual 110, 3) := by decide +kernel
theorem dX10_layCan_171 : decode cX10_layCan 171 = .ok (.iload 7, 2) := by decide +kernel
theorem dX10_layCan_173 : decode cX10_layCan 173 = .ok (.isub, 1) := by decide +kernel
theorem dX10_layCan_174 : decode cX10_layCan 174 = .ok (.invokestatic 113, 3) := by decide +kernel
theorem dX10_layCan_177 : decode cX10_layCan 177 = .ok (.if_icmp .ne 7, 3) := by decide +kernel
theorem dX10_layCan_180 : decode cX10_layCan 180 = .ok (.iconst 1, 1) := by decide +kernel
theorem dX10_layCan_181 : decode cX10_layCan 181 = .ok (.goto 4, 3) := by decide +kernel
theorem dX10_layCan_184 : decode cX10_layCan 184 = .ok (.iconst 0, 1) := by decide +kernel
theorem dX10_layCan_185 : decode cX10_layCan 185 = .ok (.istore 8, 2) := by decide +kernel
theorem dX10_layCan_187 : decode cX10_layCan 187 = .ok (.iinc 9 1, 3) := by decide +kernel
theorem dX10_layCan_190 : decode cX10_layCan 190 = .ok (.goto (-86), 3) := by decide +kernel
theorem dX10_layCan_193 : decode cX10_layCan 193 = .ok (.aload_n 0, 1) := by decide +kernel
theorem dX10_layCan_194 : decode cX10_layCan 194 = .ok (.iload 8, 2) := by decide +kernel
theorem dX10_layCan_196 : decode cX10_layCan 196 = .ok (.ifCond .eq 28, 3) := by decide +kernel
theorem dX10_layCan_199 : decode cX10_layCan 199 = .ok (.aload_n 0, 1) := by decide +kernel
theorem dX10_layCan_200 : decode cX10_layCan 200 = .ok (.getfield 222, 3) := by decide +kernel
theorem dX10_layCan_203 : decode cX10_layCan 203 = .ok (.ifCond .ne 21, 3) := by decide +kernel
theorem dX10_layCan_206 : decode cX10_layCan 206 = .ok (.sipush 10000, 3) := by decide +kernel
theorem dX10_layCan_209 : decode cX10_layCan 209 = .ok (.iload 4, 2) := by decide +kernel
theorem dX10_layCan_211 : decode cX10_layCan 211 = .ok (.imul, 1) := by decide +kernel
theorem dX10_layCan_212 : decode cX10_layCan 212 = .ok (.bipush 100, 2) := by decide +kernel
theorem dX10_layCan_214 : decode cX10_layCan 214 = .ok (.iload 5, 2) := by decide +kernel
theorem dX10_layCan_216 : decode cX10_layCan 216 = .ok (.imul, 1) := by decide +kernel
theorem dX10_layCan_217 : decode cX10_layCan 217 = .ok (.iadd, 1) := by decide +kernel
theorem dX10_layCan_218 : decode cX10_layCan 218 = .ok (.iload 7, 2) := by decide +kernel
theorem dX10_layCan_220 : decode cX10_layCan 220 = .ok (.iadd, 1) := by decide +kernel
theorem dX10_layCan_221 : decode cX10_layCan 221 = .ok (.goto 7, 3) := by decide +kernel
theorem dX10_layCan_224 : decode cX10_layCan 224 = .ok (.aload_n 0, 1) := by decide +kernel
theorem dX10_layCan_225 : decode cX10_layCan 225 = .ok (.getfield 225, 3) := by decide +kernel
theorem dX10_layCan_228 : decode cX10_layCan 228 = .ok (.putfield 225, 3) := by decide +kernel
theorem dX10_layCan_231 : decode cX10_layCan 231 = .ok (.aload_n 0, 1) := by decide +kernel
