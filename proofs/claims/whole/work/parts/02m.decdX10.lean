theorem dX10_isAhead_16 : decode cX10_isAhead 16 = .ok (.aload_n 0, 1) := by decide +kernel
theorem dX10_isAhead_17 : decode cX10_isAhead 17 = .ok (.getfield 16, 3) := by decide +kernel
theorem dX10_isAhead_20 : decode cX10_isAhead 20 = .ok (.bipush 7, 2) := by decide +kernel
theorem dX10_isAhead_22 : decode cX10_isAhead 22 = .ok (.iload_n 1, 1) := by decide +kernel
theorem dX10_isAhead_23 : decode cX10_isAhead 23 = .ok (.iadd, 1) := by decide +kernel
theorem dX10_isAhead_24 : decode cX10_isAhead 24 = .ok (.iaload, 1) := by decide +kernel
theorem dX10_isAhead_25 : decode cX10_isAhead 25 = .ok (.aload_n 0, 1) := by decide +kernel
theorem dX10_isAhead_26 : decode cX10_isAhead 26 = .ok (.getfield 16, 3) := by decide +kernel
theorem dX10_isAhead_29 : decode cX10_isAhead 29 = .ok (.bipush 7, 2) := by decide +kernel
theorem dX10_isAhead_31 : decode cX10_isAhead 31 = .ok (.iload_n 2, 1) := by decide +kernel
theorem dX10_isAhead_32 : decode cX10_isAhead 32 = .ok (.iadd, 1) := by decide +kernel
theorem dX10_isAhead_33 : decode cX10_isAhead 33 = .ok (.iaload, 1) := by decide +kernel
theorem dX10_isAhead_34 : decode cX10_isAhead 34 = .ok (.isub, 1) := by decide +kernel
theorem dX10_isAhead_35 : decode cX10_isAhead 35 = .ok (.goto 4, 3) := by decide +kernel
theorem dX10_isAhead_38 : decode cX10_isAhead 38 = .ok (.iload_n 3, 1) := by decide +kernel
theorem dX10_isAhead_39 : decode cX10_isAhead 39 = .ok (.istore_n 3, 1) := by decide +kernel
theorem dX10_isAhead_40 : decode cX10_isAhead 40 = .ok (.iload_n 3, 1) := by decide +kernel
theorem dX10_isAhead_41 : decode cX10_isAhead 41 = .ok (.ifCond .lt 12, 3) := by decide +kernel
theorem dX10_isAhead_44 : decode cX10_isAhead 44 = .ok (.iload_n 3, 1) := by decide +kernel
theorem dX10_isAhead_45 : decode cX10_isAhead 45 = .ok (.ifCond .ne 12, 3) := by decide +kernel
theorem dX10_isAhead_48 : decode cX10_isAhead 48 = .ok (.iload_n 1, 1) := by decide +kernel
theorem dX10_isAhead_49 : decode cX10_isAhead 49 = .ok (.iload_n 2, 1) := by decide +kernel
theorem dX10_isAhead_50 : decode cX10_isAhead 50 = .ok (.if_icmp .ge 7, 3) := by decide +kernel
theorem dX10_isAhead_53 : decode cX10_isAhead 53 = .ok (.iconst 1, 1) := by decide +kernel
theorem dX10_isAhead_54 : decode cX10_isAhead 54 = .ok (.goto 4, 3) := by decide +kernel
theorem dX10_isAhead_57 : decode cX10_isAhead 57 = .ok (.iconst 0, 1) := by decide +kernel
theorem dX10_isAhead_58 : decode cX10_isAhead 58 = .ok (.ireturn, 1) := by decide +kernel
theorem dX10_layGroups_0 : decode cX10_layGroups 0 = .ok (.aload_n 0, 1) := by decide +kernel
theorem dX10_layGroups_1 : decode cX10_layGroups 1 = .ok (.iconst 0, 1) := by decide +kernel
theorem dX10_layGroups_2 : decode cX10_layGroups 2 = .ok (.putfield 122, 3) := by decide +kernel
theorem dX10_layGroups_5 : decode cX10_layGroups 5 = .ok (.iconst 0, 1) := by decide +kernel
theorem dX10_layGroups_6 : decode cX10_layGroups 6 = .ok (.istore_n 1, 1) := by decide +kernel
theorem dX10_layGroups_7 : decode cX10_layGroups 7 = .ok (.iconst 0, 1) := by decide +kernel
theorem dX10_layGroups_8 : decode cX10_layGroups 8 = .ok (.istore_n 2, 1) := by decide +kernel
theorem dX10_layGroups_9 : decode cX10_layGroups 9 = .ok (.iload_n 2, 1) := by decide +kernel
theorem dX10_layGroups_10 : decode cX10_layGroups 10 = .ok (.aload_n 0, 1) := by decide +kernel
theorem dX10_layGroups_11 : decode cX10_layGroups 11 = .ok (.getfield 16, 3) := by decide +kernel
theorem dX10_layGroups_14 : decode cX10_layGroups 14 = .ok (.iconst 0, 1) := by decide +kernel
theorem dX10_layGroups_15 : decode cX10_layGroups 15 = .ok (.iaload, 1) := by decide +kernel
theorem dX10_layGroups_16 : decode cX10_layGroups 16 = .ok (.if_icmp .ge 209, 3) := by decide +kernel
theorem dX10_layGroups_19 : decode cX10_layGroups 19 = .ok (.bipush (-9), 2) := by decide +kernel
theorem dX10_layGroups_21 : decode cX10_layGroups 21 = .ok (.istore_n 3, 1) := by decide +kernel
theorem dX10_layGroups_22 : decode cX10_layGroups 22 = .ok (.iconst 0, 1) := by decide +kernel
theorem dX10_layGroups_23 : decode cX10_layGroups 23 = .ok (.istore 4, 2) := by decide +kernel
theorem dX10_layGroups_25 : decode cX10_layGroups 25 = .ok (.iload 4, 2) := by decide +kernel
theorem dX10_layGroups_27 : decode cX10_layGroups 27 = .ok (.aload_n 0, 1) := by decide +kernel
theorem dX10_layGroups_28 : decode cX10_layGroups 28 = .ok (.getfield 16, 3) := by decide +kernel
theorem dX10_layGroups_31 : decode cX10_layGroups 31 = .ok (.iconst 0, 1) := by decide +kernel
theorem dX10_layGroups_32 : decode cX10_layGroups 32 = .ok (.iaload, 1) := by decide +kernel
theorem dX10_layGroups_33 : decode cX10_layGroups 33 = .ok (.if_icmp .ge 41, 3) := by decide +kernel
theorem dX10_layGroups_36 : decode cX10_layGroups 36 = .ok (.iload_n 1, 1) := by decide +kernel
theorem dX10_layGroups_37 : decode cX10_layGroups 37 = .ok (.iload 4, 2) := by decide +kernel
theorem dX10_layGroups_39 : decode cX10_layGroups 39 = .ok (.invokestatic 125, 3) := by decide +kernel
theorem dX10_layGroups_42 : decode cX10_layGroups 42 = .ok (.ifCond .ne 24, 3) := by decide +kernel
theorem dX10_layGroups_45 : decode cX10_layGroups 45 = .ok (.iload_n 3, 1) := by decide +kernel
theorem dX10_layGroups_46 : decode cX10_layGroups 46 = .ok (.bipush (-9), 2) := by decide +kernel
theorem dX10_layGroups_48 : decode cX10_layGroups 48 = .ok (.if_icmp .eq 13, 3) := by decide +kernel
theorem dX10_layGroups_51 : decode cX10_layGroups 51 = .ok (.aload_n 0, 1) := by decide +kernel
theorem dX10_layGroups_52 : decode cX10_layGroups 52 = .ok (.iload 4, 2) := by decide +kernel
theorem dX10_layGroups_54 : decode cX10_layGroups 54 = .ok (.iload_n 3, 1) := by decide +kernel
theorem dX10_layGroups_55 : decode cX10_layGroups 55 = .ok (.invokevirtual 129, 3) := by decide +kernel
theorem dX10_layGroups_58 : decode cX10_layGroups 58 = .ok (.ifCond .eq 8, 3) := by decide +kernel
theorem dX10_layGroups_61 : decode cX10_layGroups 61 = .ok (.iload 4, 2) := by decide +kernel
theorem dX10_layGroups_63 : decode cX10_layGroups 63 = .ok (.goto 4, 3) := by decide +kernel
theorem dX10_layGroups_66 : decode cX10_layGroups 66 = .ok (.iload_n 3, 1) := by decide +kernel
theorem dX10_layGroups_67 : decode cX10_layGroups 67 = .ok (.istore_n 3, 1) := by decide +kernel
theorem dX10_layGroups_68 : decode cX10_layGroups 68 = .ok (.iinc 4 1, 3) := by decide +kernel
theorem dX10_layGroups_71 : decode cX10_layGroups 71 = .ok (.goto (-46), 3) := by decide +kernel
theorem dX10_layGroups_74 : decode cX10_layGroups 74 = .ok (.iload_n 1, 1) := by decide +kernel
theorem dX10_layGroups_75 : decode cX10_layGroups 75 = .ok (.iconst 1, 1) := by decide +kernel
theorem dX10_layGroups_76 : decode cX10_layGroups 76 = .ok (.iload_n 3, 1) := by decide +kernel
theorem dX10_layGroups_77 : decode cX10_layGroups 77 = .ok (.ishl, 1) := by decide +kernel
theorem dX10_layGroups_78 : decode cX10_layGroups 78 = .ok (.ior, 1) := by decide +kernel
theorem dX10_layGroups_79 : decode cX10_layGroups 79 = .ok (.istore_n 1, 1) := by decide +kernel
theorem dX10_layGroups_80 : decode cX10_layGroups 80 = .ok (.aload_n 0, 1) := by decide +kernel
theorem dX10_layGroups_81 : decode cX10_layGroups 81 = .ok (.getfield 122, 3) := by decide +kernel
theorem dX10_layGroups_84 : decode cX10_layGroups 84 = .ok (.istore 4, 2) := by decide +kernel
theorem dX10_layGroups_86 : decode cX10_layGroups 86 = .ok (.aload_n 0, 1) := by decide +kernel
theorem dX10_layGroups_87 : decode cX10_layGroups 87 = .ok (.getfield 122, 3) := by decide +kernel
theorem dX10_layGroups_90 : decode cX10_layGroups 90 = .ok (.iconst 1, 1) := by decide +kernel
theorem dX10_layGroups_91 : decode cX10_layGroups 91 = .ok (.isub, 1) := by decide +kernel
theorem dX10_layGroups_92 : decode cX10_layGroups 92 = .ok (.istore 5, 2) := by decide +kernel
theorem dX10_layGroups_94 : decode cX10_layGroups 94 = .ok (.iload 5, 2) := by decide +kernel
theorem dX10_layGroups_96 : decode cX10_layGroups 96 = .ok (.ifCond .lt 83, 3) := by decide +kernel
theorem dX10_layGroups_99 : decode cX10_layGroups 99 = .ok (.iconst 1, 1) := by decide +kernel
theorem dX10_layGroups_100 : decode cX10_layGroups 100 = .ok (.istore 6, 2) := by decide +kernel
theorem dX10_layGroups_102 : decode cX10_layGroups 102 = .ok (.iconst 0, 1) := by decide +kernel
theorem dX10_layGroups_103 : decode cX10_layGroups 103 = .ok (.istore 7, 2) := by decide +kernel
theorem dX10_layGroups_105 : decode cX10_layGroups 105 = .ok (.iload 7, 2) := by decide +kernel
theorem dX10_layGroups_107 : decode cX10_layGroups 107 = .ok (.aload_n 0, 1) := by decide +kernel
theorem dX10_layGroups_108 : decode cX10_layGroups 108 = .ok (.getfield 16, 3) := by decide +kernel
theorem dX10_layGroups_111 : decode cX10_layGroups 111 = .ok (.iconst 0, 1) := by decide +kernel
theorem dX10_layGroups_112 : decode cX10_layGroups 112 = .ok (.iaload, 1) := by decide +kernel
theorem dX10_layGroups_113 : decode cX10_layGroups 113 = .ok (.if_icmp .ge 46, 3) := by decide +kernel
theorem dX10_layGroups_116 : decode cX10_layGroups 116 = .ok (.iload 6, 2) := by decide +kernel
theorem dX10_layGroups_118 : decode cX10_layGroups 118 = .ok (.ifCond .eq 32, 3) := by decide +kernel
theorem dX10_layGroups_121 : decode cX10_layGroups 121 = .ok (.aload_n 0, 1) := by decide +kernel
theorem dX10_layGroups_122 : decode cX10_layGroups 122 = .ok (.getfield 41, 3) := by decide +kernel
theorem dX10_layGroups_125 : decode cX10_layGroups 125 = .ok (.iload 5, 2) := by decide +kernel
theorem dX10_layGroups_127 : decode cX10_layGroups 127 = .ok (.iaload, 1) := by decide +kernel
theorem dX10_layGroups_128 : decode cX10_layGroups 128 = .ok (.iload 7, 2) := by decide +kernel
theorem dX10_layGroups_130 : decode cX10_layGroups 130 = .ok (.invokestatic 125, 3) := by decide +kernel
theorem dX10_layGroups_133 : decode cX10_layGroups 133 = .ok (.ifCond .eq 13, 3) := by decide +kernel
theorem dX10_layGroups_136 : decode cX10_layGroups 136 = .ok (.aload_n 0, 1) := by decide +kernel
theorem dX10_layGroups_137 : decode cX10_layGroups 137 = .ok (.iload 7, 2) := by decide +kernel
theorem dX10_layGroups_139 : decode cX10_layGroups 139 = .ok (.iload_n 3, 1) := by decide +kernel
theorem dX10_layGroups_140 : decode cX10_layGroups 140 = .ok (.invokevirtual 132, 3) := by decide +kernel
theorem dX10_layGroups_143 : decode cX10_layGroups 143 = .ok (.ifCond .eq 7, 3) := by decide +kernel
theorem dX10_layGroups_146 : decode cX10_layGroups 146 = .ok (.iconst 1, 1) := by decide +kernel
theorem dX10_layGroups_147 : decode cX10_layGroups 147 = .ok (.goto 4, 3) := by decide +kernel
theorem dX10_layGroups_150 : decode cX10_layGroups 150 = .ok (.iconst 0, 1) := by decide +kernel
theorem dX10_layGroups_151 : decode cX10_layGroups 151 = .ok (.istore 6, 2) := by decide +kernel
theorem dX10_layGroups_153 : decode cX10_layGroups 153 = .ok (.iinc 7 1, 3) := by decide +kernel
theorem dX10_layGroups_156 : decode cX10_layGroups 156 = .ok (.goto (-51), 3) := by decide +kernel
theorem dX10_layGroups_159 : decode cX10_layGroups 159 = .ok (.iload 6, 2) := by decide +kernel
theorem dX10_layGroups_161 : decode cX10_layGroups 161 = .ok (.ifCond .eq 8, 3) := by decide +kernel
theorem dX10_layGroups_164 : decode cX10_layGroups 164 = .ok (.iload 5, 2) := by decide +kernel
theorem dX10_layGroups_166 : decode cX10_layGroups 166 = .ok (.goto 5, 3) := by decide +kernel
theorem dX10_layGroups_169 : decode cX10_layGroups 169 = .ok (.iload 4, 2) := by decide +kernel
theorem dX10_layGroups_171 : decode cX10_layGroups 171 = .ok (.istore 4, 2) := by decide +kernel
theorem dX10_layGroups_173 : decode cX10_layGroups 173 = .ok (.iinc 5 (-1), 3) := by decide +kernel
theorem dX10_layGroups_176 : decode cX10_layGroups 176 = .ok (.goto (-82), 3) := by decide +kernel
theorem dX10_layGroups_179 : decode cX10_layGroups 179 = .ok (.iload 4, 2) := by decide +kernel
theorem dX10_layGroups_181 : decode cX10_layGroups 181 = .ok (.aload_n 0, 1) := by decide +kernel
theorem dX10_layGroups_182 : decode cX10_layGroups 182 = .ok (.getfield 122, 3) := by decide +kernel
theorem dX10_layGroups_185 : decode cX10_layGroups 185 = .ok (.if_icmp .ne 21, 3) := by decide +kernel
theorem dX10_layGroups_188 : decode cX10_layGroups 188 = .ok (.aload_n 0, 1) := by decide +kernel
theorem dX10_layGroups_189 : decode cX10_layGroups 189 = .ok (.getfield 41, 3) := by decide +kernel
theorem dX10_layGroups_192 : decode cX10_layGroups 192 = .ok (.iload 4, 2) := by decide +kernel
theorem dX10_layGroups_194 : decode cX10_layGroups 194 = .ok (.iconst 0, 1) := by decide +kernel
theorem dX10_layGroups_195 : decode cX10_layGroups 195 = .ok (.iastore, 1) := by decide +kernel
theorem dX10_layGroups_196 : decode cX10_layGroups 196 = .ok (.aload_n 0, 1) := by decide +kernel
theorem dX10_layGroups_197 : decode cX10_layGroups 197 = .ok (.dup, 1) := by decide +kernel
theorem dX10_layGroups_198 : decode cX10_layGroups 198 = .ok (.getfield 122, 3) := by decide +kernel
theorem dX10_layGroups_201 : decode cX10_layGroups 201 = .ok (.iconst 1, 1) := by decide +kernel
theorem dX10_layGroups_202 : decode cX10_layGroups 202 = .ok (.iadd, 1) := by decide +kernel
theorem dX10_layGroups_203 : decode cX10_layGroups 203 = .ok (.putfield 122, 3) := by decide +kernel
theorem dX10_layGroups_206 : decode cX10_layGroups 206 = .ok (.aload_n 0, 1) := by decide +kernel
theorem dX10_layGroups_207 : decode cX10_layGroups 207 = .ok (.getfield 41, 3) := by decide +kernel
theorem dX10_layGroups_210 : decode cX10_layGroups 210 = .ok (.iload 4, 2) := by decide +kernel
theorem dX10_layGroups_212 : decode cX10_layGroups 212 = .ok (.dup2, 1) := by decide +kernel
theorem dX10_layGroups_213 : decode cX10_layGroups 213 = .ok (.iaload, 1) := by decide +kernel
theorem dX10_layGroups_214 : decode cX10_layGroups 214 = .ok (.iconst 1, 1) := by decide +kernel
theorem dX10_layGroups_215 : decode cX10_layGroups 215 = .ok (.iload_n 3, 1) := by decide +kernel
theorem dX10_layGroups_216 : decode cX10_layGroups 216 = .ok (.ishl, 1) := by decide +kernel
theorem dX10_layGroups_217 : decode cX10_layGroups 217 = .ok (.ior, 1) := by decide +kernel
theorem dX10_layGroups_218 : decode cX10_layGroups 218 = .ok (.iastore, 1) := by decide +kernel
theorem dX10_layGroups_219 : decode cX10_layGroups 219 = .ok (.iinc 2 1, 3) := by decide +kernel
theorem dX10_layGroups_222 : decode cX10_layGroups 222 = .ok (.goto (-213), 3) := by decide +kernel
theorem dX10_layGroups_225 : decode cX10_layGroups 225 = .ok (.return_, 1) := by decide +kernel
theorem dX10_groupOf_0 : decode cX10_groupOf 0 = .ok (.aload_n 0, 1) := by decide +kernel
theorem dX10_groupOf_1 : decode cX10_groupOf 1 = .ok (.invokevirtual 135, 3) := by decide +kernel
theorem dX10_groupOf_4 : decode cX10_groupOf 4 = .ok (.iconst 0, 1) := by decide +kernel
theorem dX10_groupOf_5 : decode cX10_groupOf 5 = .ok (.istore_n 2, 1) := by decide +kernel
theorem dX10_groupOf_6 : decode cX10_groupOf 6 = .ok (.aload_n 0, 1) := by decide +kernel
theorem dX10_groupOf_7 : decode cX10_groupOf 7 = .ok (.getfield 41, 3) := by decide +kernel
theorem dX10_groupOf_10 : decode cX10_groupOf 10 = .ok (.iload_n 2, 1) := by decide +kernel
theorem dX10_groupOf_11 : decode cX10_groupOf 11 = .ok (.iaload, 1) := by decide +kernel
theorem dX10_groupOf_12 : decode cX10_groupOf 12 = .ok (.iload_n 1, 1) := by decide +kernel
theorem dX10_groupOf_13 : decode cX10_groupOf 13 = .ok (.invokestatic 125, 3) := by decide +kernel
theorem dX10_groupOf_16 : decode cX10_groupOf 16 = .ok (.ifCond .ne 9, 3) := by decide +kernel
theorem dX10_groupOf_19 : decode cX10_groupOf 19 = .ok (.iinc 2 1, 3) := by decide +kernel
theorem dX10_groupOf_22 : decode cX10_groupOf 22 = .ok (.goto (-16), 3) := by decide +kernel
theorem dX10_groupOf_25 : decode cX10_groupOf 25 = .ok (.iload_n 2, 1) := by decide +kernel
theorem dX10_groupOf_26 : decode cX10_groupOf 26 = .ok (.ireturn, 1) := by decide +kernel
theorem dX10_station_0 : decode cX10_station 0 = .ok (.aload_n 0, 1) := by decide +kernel
theorem dX10_station_1 : decode cX10_station 1 = .ok (.iload_n 1, 1) := by decide +kernel
theorem dX10_station_2 : decode cX10_station 2 = .ok (.invokevirtual 138, 3) := by decide +kernel
theorem dX10_station_5 : decode cX10_station 5 = .ok (.ifCond .eq 12, 3) := by decide +kernel
theorem dX10_station_8 : decode cX10_station 8 = .ok (.iload_n 2, 1) := by decide +kernel
theorem dX10_station_9 : decode cX10_station 9 = .ok (.iconst 0, 1) := by decide +kernel
theorem dX10_station_10 : decode cX10_station 10 = .ok (.iconst 2, 1) := by decide +kernel
theorem dX10_station_11 : decode cX10_station 11 = .ok (.invokestatic 48, 3) := by decide +kernel
theorem dX10_station_14 : decode cX10_station 14 = .ok (.ifCond .ne 5, 3) := by decide +kernel
theorem dX10_station_17 : decode cX10_station 17 = .ok (.iconst (-1), 1) := by decide +kernel
theorem dX10_station_18 : decode cX10_station 18 = .ok (.ireturn, 1) := by decide +kernel
theorem dX10_station_19 : decode cX10_station 19 = .ok (.iload_n 2, 1) := by decide +kernel
theorem dX10_station_20 : decode cX10_station 20 = .ok (.ifCond .ne 12, 3) := by decide +kernel
theorem dX10_station_23 : decode cX10_station 23 = .ok (.aload_n 0, 1) := by decide +kernel
theorem dX10_station_24 : decode cX10_station 24 = .ok (.getfield 7, 3) := by decide +kernel
theorem dX10_station_27 : decode cX10_station 27 = .ok (.iload_n 1, 1) := by decide +kernel
theorem dX10_station_28 : decode cX10_station 28 = .ok (.iaload, 1) := by decide +kernel
theorem dX10_station_29 : decode cX10_station 29 = .ok (.goto 25, 3) := by decide +kernel
theorem dX10_station_32 : decode cX10_station 32 = .ok (.iload_n 2, 1) := by decide +kernel
theorem dX10_station_33 : decode cX10_station 33 = .ok (.iconst 1, 1) := by decide +kernel
theorem dX10_station_34 : decode cX10_station 34 = .ok (.if_icmp .ne 12, 3) := by decide +kernel
theorem dX10_station_37 : decode cX10_station 37 = .ok (.aload_n 0, 1) := by decide +kernel
theorem dX10_station_38 : decode cX10_station 38 = .ok (.getfield 13, 3) := by decide +kernel
theorem dX10_station_41 : decode cX10_station 41 = .ok (.iload_n 1, 1) := by decide +kernel
theorem dX10_station_42 : decode cX10_station 42 = .ok (.iaload, 1) := by decide +kernel
theorem dX10_station_43 : decode cX10_station 43 = .ok (.goto 11, 3) := by decide +kernel
theorem dX10_station_46 : decode cX10_station 46 = .ok (.aload_n 0, 1) := by decide +kernel
theorem dX10_station_47 : decode cX10_station 47 = .ok (.getfield 16, 3) := by decide +kernel
theorem dX10_station_50 : decode cX10_station 50 = .ok (.iconst 1, 1) := by decide +kernel
theorem dX10_station_51 : decode cX10_station 51 = .ok (.iload_n 1, 1) := by decide +kernel
theorem dX10_station_52 : decode cX10_station 52 = .ok (.iadd, 1) := by decide +kernel
theorem dX10_station_53 : decode cX10_station 53 = .ok (.iaload, 1) := by decide +kernel
theorem dX10_station_54 : decode cX10_station 54 = .ok (.ireturn, 1) := by decide +kernel
theorem dX10_reading_0 : decode cX10_reading 0 = .ok (.aload_n 0, 1) := by decide +kernel
theorem dX10_reading_1 : decode cX10_reading 1 = .ok (.iload_n 1, 1) := by decide +kernel
theorem dX10_reading_2 : decode cX10_reading 2 = .ok (.invokevirtual 141, 3) := by decide +kernel
theorem dX10_reading_5 : decode cX10_reading 5 = .ok (.ifCond .eq 12, 3) := by decide +kernel
theorem dX10_reading_8 : decode cX10_reading 8 = .ok (.iload_n 2, 1) := by decide +kernel
theorem dX10_reading_9 : decode cX10_reading 9 = .ok (.iconst 0, 1) := by decide +kernel
theorem dX10_reading_10 : decode cX10_reading 10 = .ok (.iconst 3, 1) := by decide +kernel
theorem dX10_reading_11 : decode cX10_reading 11 = .ok (.invokestatic 48, 3) := by decide +kernel
theorem dX10_reading_14 : decode cX10_reading 14 = .ok (.ifCond .ne 6, 3) := by decide +kernel
theorem dX10_reading_17 : decode cX10_reading 17 = .ok (.ldc 144, 2) := by decide +kernel
theorem dX10_reading_19 : decode cX10_reading 19 = .ok (.ireturn, 1) := by decide +kernel
theorem dX10_reading_20 : decode cX10_reading 20 = .ok (.iload_n 2, 1) := by decide +kernel
theorem dX10_reading_21 : decode cX10_reading 21 = .ok (.ifCond .ne 15, 3) := by decide +kernel
theorem dX10_reading_24 : decode cX10_reading 24 = .ok (.aload_n 0, 1) := by decide +kernel
theorem dX10_reading_25 : decode cX10_reading 25 = .ok (.getfield 16, 3) := by decide +kernel
theorem dX10_reading_28 : decode cX10_reading 28 = .ok (.bipush 7, 2) := by decide +kernel
theorem dX10_reading_30 : decode cX10_reading 30 = .ok (.iload_n 1, 1) := by decide +kernel
theorem dX10_reading_31 : decode cX10_reading 31 = .ok (.iadd, 1) := by decide +kernel
theorem dX10_reading_32 : decode cX10_reading 32 = .ok (.iaload, 1) := by decide +kernel
theorem dX10_reading_33 : decode cX10_reading 33 = .ok (.goto 38, 3) := by decide +kernel
theorem dX10_reading_36 : decode cX10_reading 36 = .ok (.iload_n 2, 1) := by decide +kernel
theorem dX10_reading_37 : decode cX10_reading 37 = .ok (.iconst 1, 1) := by decide +kernel
theorem dX10_reading_38 : decode cX10_reading 38 = .ok (.if_icmp .ne 15, 3) := by decide +kernel
theorem dX10_reading_41 : decode cX10_reading 41 = .ok (.aload_n 0, 1) := by decide +kernel
theorem dX10_reading_42 : decode cX10_reading 42 = .ok (.getfield 16, 3) := by decide +kernel
theorem dX10_reading_45 : decode cX10_reading 45 = .ok (.bipush 16, 2) := by decide +kernel
theorem dX10_reading_47 : decode cX10_reading 47 = .ok (.iload_n 1, 1) := by decide +kernel
theorem dX10_reading_48 : decode cX10_reading 48 = .ok (.iadd, 1) := by decide +kernel
theorem dX10_reading_49 : decode cX10_reading 49 = .ok (.iaload, 1) := by decide +kernel
theorem dX10_reading_50 : decode cX10_reading 50 = .ok (.goto 21, 3) := by decide +kernel
theorem dX10_reading_53 : decode cX10_reading 53 = .ok (.iload_n 2, 1) := by decide +kernel
theorem dX10_reading_54 : decode cX10_reading 54 = .ok (.iconst 2, 1) := by decide +kernel
theorem dX10_reading_55 : decode cX10_reading 55 = .ok (.if_icmp .ne 11, 3) := by decide +kernel
theorem dX10_reading_58 : decode cX10_reading 58 = .ok (.aload_n 0, 1) := by decide +kernel
theorem dX10_reading_59 : decode cX10_reading 59 = .ok (.iload_n 1, 1) := by decide +kernel
theorem dX10_reading_60 : decode cX10_reading 60 = .ok (.invokevirtual 110, 3) := by decide +kernel
theorem dX10_reading_63 : decode cX10_reading 63 = .ok (.goto 8, 3) := by decide +kernel
theorem dX10_reading_66 : decode cX10_reading 66 = .ok (.aload_n 0, 1) := by decide +kernel
theorem dX10_reading_67 : decode cX10_reading 67 = .ok (.iload_n 1, 1) := by decide +kernel
theorem dX10_reading_68 : decode cX10_reading 68 = .ok (.invokevirtual 145, 3) := by decide +kernel
theorem dX10_reading_71 : decode cX10_reading 71 = .ok (.ireturn, 1) := by decide +kernel
theorem dX10_remember_0 : decode cX10_remember 0 = .ok (.iconst 0, 1) := by decide +kernel
theorem dX10_remember_1 : decode cX10_remember 1 = .ok (.istore_n 1, 1) := by decide +kernel
theorem dX10_remember_2 : decode cX10_remember 2 = .ok (.iload_n 1, 1) := by decide +kernel
theorem dX10_remember_3 : decode cX10_remember 3 = .ok (.bipush 25, 2) := by decide +kernel
theorem dX10_remember_5 : decode cX10_remember 5 = .ok (.if_icmp .ge 29, 3) := by decide +kernel
theorem dX10_remember_8 : decode cX10_remember 8 = .ok (.aload_n 0, 1) := by decide +kernel
theorem dX10_remember_9 : decode cX10_remember 9 = .ok (.getfield 19, 3) := by decide +kernel
theorem dX10_remember_12 : decode cX10_remember 12 = .ok (.bipush 25, 2) := by decide +kernel
theorem dX10_remember_14 : decode cX10_remember 14 = .ok (.aload_n 0, 1) := by decide +kernel
theorem dX10_remember_15 : decode cX10_remember 15 = .ok (.getfield 148, 3) := by decide +kernel
theorem dX10_remember_18 : decode cX10_remember 18 = .ok (.imul, 1) := by decide +kernel
theorem dX10_remember_19 : decode cX10_remember 19 = .ok (.iload_n 1, 1) := by decide +kernel
theorem dX10_remember_20 : decode cX10_remember 20 = .ok (.iadd, 1) := by decide +kernel
theorem dX10_remember_21 : decode cX10_remember 21 = .ok (.aload_n 0, 1) := by decide +kernel
theorem dX10_remember_22 : decode cX10_remember 22 = .ok (.getfield 16, 3) := by decide +kernel
theorem dX10_remember_25 : decode cX10_remember 25 = .ok (.iload_n 1, 1) := by decide +kernel
theorem dX10_remember_26 : decode cX10_remember 26 = .ok (.iaload, 1) := by decide +kernel
theorem dX10_remember_27 : decode cX10_remember 27 = .ok (.iastore, 1) := by decide +kernel
theorem dX10_remember_28 : decode cX10_remember 28 = .ok (.iinc 1 1, 3) := by decide +kernel
theorem dX10_remember_31 : decode cX10_remember 31 = .ok (.goto (-29), 3) := by decide +kernel
theorem dX10_remember_34 : decode cX10_remember 34 = .ok (.aload_n 0, 1) := by decide +kernel
theorem dX10_remember_35 : decode cX10_remember 35 = .ok (.aload_n 0, 1) := by decide +kernel
theorem dX10_remember_36 : decode cX10_remember 36 = .ok (.getfield 148, 3) := by decide +kernel
theorem dX10_remember_39 : decode cX10_remember 39 = .ok (.iconst 1, 1) := by decide +kernel
theorem dX10_remember_40 : decode cX10_remember 40 = .ok (.iadd, 1) := by decide +kernel
theorem dX10_remember_41 : decode cX10_remember 41 = .ok (.bipush 10, 2) := by decide +kernel
theorem dX10_remember_43 : decode cX10_remember 43 = .ok (.irem, 1) := by decide +kernel
theorem dX10_remember_44 : decode cX10_remember 44 = .ok (.putfield 148, 3) := by decide +kernel
theorem dX10_remember_47 : decode cX10_remember 47 = .ok (.aload_n 0, 1) := by decide +kernel
theorem dX10_remember_48 : decode cX10_remember 48 = .ok (.dup, 1) := by decide +kernel
theorem dX10_remember_49 : decode cX10_remember 49 = .ok (.getfield 107, 3) := by decide +kernel
theorem dX10_remember_52 : decode cX10_remember 52 = .ok (.aload_n 0, 1) := by decide +kernel
theorem dX10_remember_53 : decode cX10_remember 53 = .ok (.getfield 107, 3) := by decide +kernel
theorem dX10_remember_56 : decode cX10_remember 56 = .ok (.bipush 10, 2) := by decide +kernel
theorem dX10_remember_58 : decode cX10_remember 58 = .ok (.if_icmp .ge 7, 3) := by decide +kernel
theorem dX10_remember_61 : decode cX10_remember 61 = .ok (.iconst 1, 1) := by decide +kernel
theorem dX10_remember_62 : decode cX10_remember 62 = .ok (.goto 4, 3) := by decide +kernel
theorem dX10_remember_65 : decode cX10_remember 65 = .ok (.iconst 0, 1) := by decide +kernel
theorem dX10_remember_66 : decode cX10_remember 66 = .ok (.iadd, 1) := by decide +kernel
theorem dX10_remember_67 : decode cX10_remember 67 = .ok (.putfield 107, 3) := by decide +kernel
theorem dX10_remember_70 : decode cX10_remember 70 = .ok (.return_, 1) := by decide +kernel
theorem dX10_hears_0 : decode cX10_hears 0 = .ok (.aload_n 0, 1) := by decide +kernel
theorem dX10_hears_1 : decode cX10_hears 1 = .ok (.iload_n 1, 1) := by decide +kernel
theorem dX10_hears_2 : decode cX10_hears 2 = .ok (.invokevirtual 138, 3) := by decide +kernel
theorem dX10_hears_5 : decode cX10_hears 5 = .ok (.ifCond .eq 13, 3) := by decide +kernel
theorem dX10_hears_8 : decode cX10_hears 8 = .ok (.iload_n 2, 1) := by decide +kernel
theorem dX10_hears_9 : decode cX10_hears 9 = .ok (.iconst 0, 1) := by decide +kernel
theorem dX10_hears_10 : decode cX10_hears 10 = .ok (.bipush 60, 2) := by decide +kernel
theorem dX10_hears_12 : decode cX10_hears 12 = .ok (.invokestatic 48, 3) := by decide +kernel
theorem dX10_hears_15 : decode cX10_hears 15 = .ok (.ifCond .ne 5, 3) := by decide +kernel
theorem dX10_hears_18 : decode cX10_hears 18 = .ok (.iconst (-1), 1) := by decide +kernel
theorem dX10_hears_19 : decode cX10_hears 19 = .ok (.ireturn, 1) := by decide +kernel
theorem dX10_hears_20 : decode cX10_hears 20 = .ok (.aload_n 0, 1) := by decide +kernel
theorem dX10_hears_21 : decode cX10_hears 21 = .ok (.getfield 16, 3) := by decide +kernel
theorem dX10_hears_24 : decode cX10_hears 24 = .ok (.iconst 0, 1) := by decide +kernel
theorem dX10_hears_25 : decode cX10_hears 25 = .ok (.iaload, 1) := by decide +kernel
theorem dX10_hears_26 : decode cX10_hears 26 = .ok (.istore_n 3, 1) := by decide +kernel
theorem dX10_hears_27 : decode cX10_hears 27 = .ok (.iload_n 3, 1) := by decide +kernel
theorem dX10_hears_28 : decode cX10_hears 28 = .ok (.bipush 9, 2) := by decide +kernel
theorem dX10_hears_30 : decode cX10_hears 30 = .ok (.if_icmp .ne 6, 3) := by decide +kernel
theorem dX10_hears_33 : decode cX10_hears 33 = .ok (.bipush (-3), 2) := by decide +kernel
theorem dX10_hears_35 : decode cX10_hears 35 = .ok (.ireturn, 1) := by decide +kernel
theorem dX10_hears_36 : decode cX10_hears 36 = .ok (.aload_n 0, 1) := by decide +kernel
theorem dX10_hears_37 : decode cX10_hears 37 = .ok (.invokevirtual 151, 3) := by decide +kernel
theorem dX10_hears_40 : decode cX10_hears 40 = .ok (.aload_n 0, 1) := by decide +kernel
theorem dX10_hears_41 : decode cX10_hears 41 = .ok (.getfield 16, 3) := by decide +kernel
theorem dX10_hears_44 : decode cX10_hears 44 = .ok (.bipush 7, 2) := by decide +kernel
theorem dX10_hears_46 : decode cX10_hears 46 = .ok (.iload_n 3, 1) := by decide +kernel
theorem dX10_hears_47 : decode cX10_hears 47 = .ok (.iadd, 1) := by decide +kernel
theorem dX10_hears_48 : decode cX10_hears 48 = .ok (.iload_n 1, 1) := by decide +kernel
theorem dX10_hears_49 : decode cX10_hears 49 = .ok (.iastore, 1) := by decide +kernel
theorem dX10_hears_50 : decode cX10_hears 50 = .ok (.aload_n 0, 1) := by decide +kernel
theorem dX10_hears_51 : decode cX10_hears 51 = .ok (.getfield 16, 3) := by decide +kernel
theorem dX10_hears_54 : decode cX10_hears 54 = .ok (.bipush 16, 2) := by decide +kernel
theorem dX10_hears_56 : decode cX10_hears 56 = .ok (.iload_n 3, 1) := by decide +kernel
theorem dX10_hears_57 : decode cX10_hears 57 = .ok (.iadd, 1) := by decide +kernel
theorem dX10_hears_58 : decode cX10_hears 58 = .ok (.iload_n 2, 1) := by decide +kernel
theorem dX10_hears_59 : decode cX10_hears 59 = .ok (.iastore, 1) := by decide +kernel
theorem dX10_hears_60 : decode cX10_hears 60 = .ok (.aload_n 0, 1) := by decide +kernel
theorem dX10_hears_61 : decode cX10_hears 61 = .ok (.getfield 16, 3) := by decide +kernel
theorem dX10_hears_64 : decode cX10_hears 64 = .ok (.iconst 0, 1) := by decide +kernel
theorem dX10_hears_65 : decode cX10_hears 65 = .ok (.dup2, 1) := by decide +kernel
theorem dX10_hears_66 : decode cX10_hears 66 = .ok (.iaload, 1) := by decide +kernel
theorem dX10_hears_67 : decode cX10_hears 67 = .ok (.iconst 1, 1) := by decide +kernel
theorem dX10_hears_68 : decode cX10_hears 68 = .ok (.iadd, 1) := by decide +kernel
theorem dX10_hears_69 : decode cX10_hears 69 = .ok (.iastore, 1) := by decide +kernel
theorem dX10_hears_70 : decode cX10_hears 70 = .ok (.iload_n 3, 1) := by decide +kernel
theorem dX10_hears_71 : decode cX10_hears 71 = .ok (.ireturn, 1) := by decide +kernel
theorem dX10_strikes_0 : decode cX10_strikes 0 = .ok (.aload_n 0, 1) := by decide +kernel
theorem dX10_strikes_1 : decode cX10_strikes 1 = .ok (.iload_n 1, 1) := by decide +kernel
theorem dX10_strikes_2 : decode cX10_strikes 2 = .ok (.invokevirtual 141, 3) := by decide +kernel
theorem dX10_strikes_5 : decode cX10_strikes 5 = .ok (.ifCond .ne 5, 3) := by decide +kernel
theorem dX10_strikes_8 : decode cX10_strikes 8 = .ok (.iconst (-1), 1) := by decide +kernel
theorem dX10_strikes_9 : decode cX10_strikes 9 = .ok (.ireturn, 1) := by decide +kernel
theorem dX10_strikes_10 : decode cX10_strikes 10 = .ok (.aload_n 0, 1) := by decide +kernel
theorem dX10_strikes_11 : decode cX10_strikes 11 = .ok (.invokevirtual 151, 3) := by decide +kernel
theorem dX10_strikes_14 : decode cX10_strikes 14 = .ok (.aload_n 0, 1) := by decide +kernel
theorem dX10_strikes_15 : decode cX10_strikes 15 = .ok (.getfield 16, 3) := by decide +kernel
theorem dX10_strikes_18 : decode cX10_strikes 18 = .ok (.iconst 0, 1) := by decide +kernel
theorem dX10_strikes_19 : decode cX10_strikes 19 = .ok (.dup2, 1) := by decide +kernel
theorem dX10_strikes_20 : decode cX10_strikes 20 = .ok (.iaload, 1) := by decide +kernel
theorem dX10_strikes_21 : decode cX10_strikes 21 = .ok (.iconst 1, 1) := by decide +kernel
theorem dX10_strikes_22 : decode cX10_strikes 22 = .ok (.isub, 1) := by decide +kernel
theorem dX10_strikes_23 : decode cX10_strikes 23 = .ok (.iastore, 1) := by decide +kernel
theorem dX10_strikes_24 : decode cX10_strikes 24 = .ok (.iload_n 1, 1) := by decide +kernel
theorem dX10_strikes_25 : decode cX10_strikes 25 = .ok (.istore_n 2, 1) := by decide +kernel
theorem dX10_strikes_26 : decode cX10_strikes 26 = .ok (.iload_n 2, 1) := by decide +kernel
theorem dX10_strikes_27 : decode cX10_strikes 27 = .ok (.aload_n 0, 1) := by decide +kernel
theorem dX10_strikes_28 : decode cX10_strikes 28 = .ok (.getfield 16, 3) := by decide +kernel
theorem dX10_strikes_31 : decode cX10_strikes 31 = .ok (.iconst 0, 1) := by decide +kernel
theorem dX10_strikes_32 : decode cX10_strikes 32 = .ok (.iaload, 1) := by decide +kernel
theorem dX10_strikes_33 : decode cX10_strikes 33 = .ok (.if_icmp .ge 49, 3) := by decide +kernel
theorem dX10_strikes_36 : decode cX10_strikes 36 = .ok (.aload_n 0, 1) := by decide +kernel
theorem dX10_strikes_37 : decode cX10_strikes 37 = .ok (.getfield 16, 3) := by decide +kernel
theorem dX10_strikes_40 : decode cX10_strikes 40 = .ok (.bipush 7, 2) := by decide +kernel
theorem dX10_strikes_42 : decode cX10_strikes 42 = .ok (.iload_n 2, 1) := by decide +kernel
theorem dX10_strikes_43 : decode cX10_strikes 43 = .ok (.iadd, 1) := by decide +kernel
theorem dX10_strikes_44 : decode cX10_strikes 44 = .ok (.aload_n 0, 1) := by decide +kernel
theorem dX10_strikes_45 : decode cX10_strikes 45 = .ok (.getfield 16, 3) := by decide +kernel
theorem dX10_strikes_48 : decode cX10_strikes 48 = .ok (.bipush 7, 2) := by decide +kernel
theorem dX10_strikes_50 : decode cX10_strikes 50 = .ok (.iload_n 2, 1) := by decide +kernel
theorem dX10_strikes_51 : decode cX10_strikes 51 = .ok (.iadd, 1) := by decide +kernel
theorem dX10_strikes_52 : decode cX10_strikes 52 = .ok (.iconst 1, 1) := by decide +kernel
theorem dX10_strikes_53 : decode cX10_strikes 53 = .ok (.iadd, 1) := by decide +kernel
theorem dX10_strikes_54 : decode cX10_strikes 54 = .ok (.iaload, 1) := by decide +kernel
theorem dX10_strikes_55 : decode cX10_strikes 55 = .ok (.iastore, 1) := by decide +kernel
theorem dX10_strikes_56 : decode cX10_strikes 56 = .ok (.aload_n 0, 1) := by decide +kernel
theorem dX10_strikes_57 : decode cX10_strikes 57 = .ok (.getfield 16, 3) := by decide +kernel
theorem dX10_strikes_60 : decode cX10_strikes 60 = .ok (.bipush 16, 2) := by decide +kernel
theorem dX10_strikes_62 : decode cX10_strikes 62 = .ok (.iload_n 2, 1) := by decide +kernel
theorem dX10_strikes_63 : decode cX10_strikes 63 = .ok (.iadd, 1) := by decide +kernel
theorem dX10_strikes_64 : decode cX10_strikes 64 = .ok (.aload_n 0, 1) := by decide +kernel
theorem dX10_strikes_65 : decode cX10_strikes 65 = .ok (.getfield 16, 3) := by decide +kernel
theorem dX10_strikes_68 : decode cX10_strikes 68 = .ok (.bipush 16, 2) := by decide +kernel
theorem dX10_strikes_70 : decode cX10_strikes 70 = .ok (.iload_n 2, 1) := by decide +kernel
theorem dX10_strikes_71 : decode cX10_strikes 71 = .ok (.iadd, 1) := by decide +kernel
theorem dX10_strikes_72 : decode cX10_strikes 72 = .ok (.iconst 1, 1) := by decide +kernel
theorem dX10_strikes_73 : decode cX10_strikes 73 = .ok (.iadd, 1) := by decide +kernel
theorem dX10_strikes_74 : decode cX10_strikes 74 = .ok (.iaload, 1) := by decide +kernel
theorem dX10_strikes_75 : decode cX10_strikes 75 = .ok (.iastore, 1) := by decide +kernel
theorem dX10_strikes_76 : decode cX10_strikes 76 = .ok (.iinc 2 1, 3) := by decide +kernel
theorem dX10_strikes_79 : decode cX10_strikes 79 = .ok (.goto (-53), 3) := by decide +kernel
theorem dX10_strikes_82 : decode cX10_strikes 82 = .ok (.aload_n 0, 1) := by decide +kernel
theorem dX10_strikes_83 : decode cX10_strikes 83 = .ok (.getfield 16, 3) := by decide +kernel
theorem dX10_strikes_86 : decode cX10_strikes 86 = .ok (.iconst 0, 1) := by decide +kernel
theorem dX10_strikes_87 : decode cX10_strikes 87 = .ok (.iaload, 1) := by decide +kernel
theorem dX10_strikes_88 : decode cX10_strikes 88 = .ok (.ireturn, 1) := by decide +kernel
theorem dX10_sets_0 : decode cX10_sets 0 = .ok (.aload_n 0, 1) := by decide +kernel
theorem dX10_sets_1 : decode cX10_sets 1 = .ok (.iload_n 1, 1) := by decide +kernel
theorem dX10_sets_2 : decode cX10_sets 2 = .ok (.invokevirtual 138, 3) := by decide +kernel
theorem dX10_sets_5 : decode cX10_sets 5 = .ok (.ifCond .eq 12, 3) := by decide +kernel
theorem dX10_sets_8 : decode cX10_sets 8 = .ok (.iload_n 2, 1) := by decide +kernel
theorem dX10_sets_9 : decode cX10_sets 9 = .ok (.iconst 0, 1) := by decide +kernel
theorem dX10_sets_10 : decode cX10_sets 10 = .ok (.iconst 4, 1) := by decide +kernel
theorem dX10_sets_11 : decode cX10_sets 11 = .ok (.invokestatic 48, 3) := by decide +kernel
theorem dX10_sets_14 : decode cX10_sets 14 = .ok (.ifCond .ne 5, 3) := by decide +kernel
theorem dX10_sets_17 : decode cX10_sets 17 = .ok (.iconst (-1), 1) := by decide +kernel
theorem dX10_sets_18 : decode cX10_sets 18 = .ok (.ireturn, 1) := by decide +kernel
theorem dX10_sets_19 : decode cX10_sets 19 = .ok (.aload_n 0, 1) := by decide +kernel
theorem dX10_sets_20 : decode cX10_sets 20 = .ok (.getfield 16, 3) := by decide +kernel
theorem dX10_sets_23 : decode cX10_sets 23 = .ok (.iconst 1, 1) := by decide +kernel
theorem dX10_sets_24 : decode cX10_sets 24 = .ok (.iload_n 1, 1) := by decide +kernel
theorem dX10_sets_25 : decode cX10_sets 25 = .ok (.iadd, 1) := by decide +kernel
theorem dX10_sets_26 : decode cX10_sets 26 = .ok (.iaload, 1) := by decide +kernel
theorem dX10_sets_27 : decode cX10_sets 27 = .ok (.istore_n 3, 1) := by decide +kernel
theorem dX10_sets_28 : decode cX10_sets 28 = .ok (.iload_n 3, 1) := by decide +kernel
theorem dX10_sets_29 : decode cX10_sets 29 = .ok (.iload_n 2, 1) := by decide +kernel
theorem dX10_sets_30 : decode cX10_sets 30 = .ok (.if_icmp .ne 6, 3) := by decide +kernel
theorem dX10_sets_33 : decode cX10_sets 33 = .ok (.bipush (-2), 2) := by decide +kernel
theorem dX10_sets_35 : decode cX10_sets 35 = .ok (.ireturn, 1) := by decide +kernel
theorem dX10_sets_36 : decode cX10_sets 36 = .ok (.aload_n 0, 1) := by decide +kernel
theorem dX10_sets_37 : decode cX10_sets 37 = .ok (.invokevirtual 151, 3) := by decide +kernel
theorem dX10_sets_40 : decode cX10_sets 40 = .ok (.aload_n 0, 1) := by decide +kernel
theorem dX10_sets_41 : decode cX10_sets 41 = .ok (.getfield 16, 3) := by decide +kernel
theorem dX10_sets_44 : decode cX10_sets 44 = .ok (.iconst 1, 1) := by decide +kernel
theorem dX10_sets_45 : decode cX10_sets 45 = .ok (.iload_n 1, 1) := by decide +kernel
theorem dX10_sets_46 : decode cX10_sets 46 = .ok (.iadd, 1) := by decide +kernel
theorem dX10_sets_47 : decode cX10_sets 47 = .ok (.iload_n 2, 1) := by decide +kernel
theorem dX10_sets_48 : decode cX10_sets 48 = .ok (.iastore, 1) := by decide +kernel
theorem dX10_sets_49 : decode cX10_sets 49 = .ok (.iload_n 3, 1) := by decide +kernel
theorem dX10_sets_50 : decode cX10_sets 50 = .ok (.ireturn, 1) := by decide +kernel
theorem dX10_undo_0 : decode cX10_undo 0 = .ok (.aload_n 0, 1) := by decide +kernel
theorem dX10_undo_1 : decode cX10_undo 1 = .ok (.getfield 107, 3) := by decide +kernel
theorem dX10_undo_4 : decode cX10_undo 4 = .ok (.ifCond .ne 6, 3) := by decide +kernel
theorem dX10_undo_7 : decode cX10_undo 7 = .ok (.bipush (-2), 2) := by decide +kernel
theorem dX10_undo_9 : decode cX10_undo 9 = .ok (.ireturn, 1) := by decide +kernel
theorem dX10_undo_10 : decode cX10_undo 10 = .ok (.aload_n 0, 1) := by decide +kernel
theorem dX10_undo_11 : decode cX10_undo 11 = .ok (.aload_n 0, 1) := by decide +kernel
theorem dX10_undo_12 : decode cX10_undo 12 = .ok (.getfield 148, 3) := by decide +kernel
theorem dX10_undo_15 : decode cX10_undo 15 = .ok (.bipush 10, 2) := by decide +kernel
theorem dX10_undo_17 : decode cX10_undo 17 = .ok (.iadd, 1) := by decide +kernel
theorem dX10_undo_18 : decode cX10_undo 18 = .ok (.iconst 1, 1) := by decide +kernel
theorem dX10_undo_19 : decode cX10_undo 19 = .ok (.isub, 1) := by decide +kernel
theorem dX10_undo_20 : decode cX10_undo 20 = .ok (.bipush 10, 2) := by decide +kernel
theorem dX10_undo_22 : decode cX10_undo 22 = .ok (.irem, 1) := by decide +kernel
theorem dX10_undo_23 : decode cX10_undo 23 = .ok (.putfield 148, 3) := by decide +kernel
theorem dX10_undo_26 : decode cX10_undo 26 = .ok (.aload_n 0, 1) := by decide +kernel
theorem dX10_undo_27 : decode cX10_undo 27 = .ok (.dup, 1) := by decide +kernel
theorem dX10_undo_28 : decode cX10_undo 28 = .ok (.getfield 107, 3) := by decide +kernel
theorem dX10_undo_31 : decode cX10_undo 31 = .ok (.iconst 1, 1) := by decide +kernel
theorem dX10_undo_32 : decode cX10_undo 32 = .ok (.isub, 1) := by decide +kernel
theorem dX10_undo_33 : decode cX10_undo 33 = .ok (.putfield 107, 3) := by decide +kernel
theorem dX10_undo_36 : decode cX10_undo 36 = .ok (.iconst 0, 1) := by decide +kernel
theorem dX10_undo_37 : decode cX10_undo 37 = .ok (.istore_n 1, 1) := by decide +kernel
theorem dX10_undo_38 : decode cX10_undo 38 = .ok (.iload_n 1, 1) := by decide +kernel
theorem dX10_undo_39 : decode cX10_undo 39 = .ok (.bipush 25, 2) := by decide +kernel
theorem dX10_undo_41 : decode cX10_undo 41 = .ok (.if_icmp .ge 29, 3) := by decide +kernel
theorem dX10_undo_44 : decode cX10_undo 44 = .ok (.aload_n 0, 1) := by decide +kernel
theorem dX10_undo_45 : decode cX10_undo 45 = .ok (.getfield 16, 3) := by decide +kernel
theorem dX10_undo_48 : decode cX10_undo 48 = .ok (.iload_n 1, 1) := by decide +kernel
theorem dX10_undo_49 : decode cX10_undo 49 = .ok (.aload_n 0, 1) := by decide +kernel
theorem dX10_undo_50 : decode cX10_undo 50 = .ok (.getfield 19, 3) := by decide +kernel
theorem dX10_undo_53 : decode cX10_undo 53 = .ok (.bipush 25, 2) := by decide +kernel
theorem dX10_undo_55 : decode cX10_undo 55 = .ok (.aload_n 0, 1) := by decide +kernel
theorem dX10_undo_56 : decode cX10_undo 56 = .ok (.getfield 148, 3) := by decide +kernel
theorem dX10_undo_59 : decode cX10_undo 59 = .ok (.imul, 1) := by decide +kernel
theorem dX10_undo_60 : decode cX10_undo 60 = .ok (.iload_n 1, 1) := by decide +kernel
theorem dX10_undo_61 : decode cX10_undo 61 = .ok (.iadd, 1) := by decide +kernel
theorem dX10_undo_62 : decode cX10_undo 62 = .ok (.iaload, 1) := by decide +kernel
theorem dX10_undo_63 : decode cX10_undo 63 = .ok (.iastore, 1) := by decide +kernel
theorem dX10_undo_64 : decode cX10_undo 64 = .ok (.iinc 1 1, 3) := by decide +kernel
theorem dX10_undo_67 : decode cX10_undo 67 = .ok (.goto (-29), 3) := by decide +kernel
theorem dX10_undo_70 : decode cX10_undo 70 = .ok (.aload_n 0, 1) := by decide +kernel
theorem dX10_undo_71 : decode cX10_undo 71 = .ok (.getfield 107, 3) := by decide +kernel
theorem dX10_undo_74 : decode cX10_undo 74 = .ok (.ireturn, 1) := by decide +kernel
theorem dX10_cellAt_0 : decode cX10_cellAt 0 = .ok (.aload_n 0, 1) := by decide +kernel
theorem dX10_cellAt_1 : decode cX10_cellAt 1 = .ok (.getfield 44, 3) := by decide +kernel
theorem dX10_cellAt_4 : decode cX10_cellAt 4 = .ok (.iconst 4, 1) := by decide +kernel
theorem dX10_cellAt_5 : decode cX10_cellAt 5 = .ok (.iload_n 1, 1) := by decide +kernel
theorem dX10_cellAt_6 : decode cX10_cellAt 6 = .ok (.imul, 1) := by decide +kernel
theorem dX10_cellAt_7 : decode cX10_cellAt 7 = .ok (.iload_n 2, 1) := by decide +kernel
theorem dX10_cellAt_8 : decode cX10_cellAt 8 = .ok (.iadd, 1) := by decide +kernel
theorem dX10_cellAt_9 : decode cX10_cellAt 9 = .ok (.laload, 1) := by decide +kernel
theorem dX10_cellAt_10 : decode cX10_cellAt 10 = .ok (.lreturn, 1) := by decide +kernel
theorem dX10_firstOf_0 : decode cX10_firstOf 0 = .ok (.iconst 0, 1) := by decide +kernel
theorem dX10_firstOf_1 : decode cX10_firstOf 1 = .ok (.istore_n 2, 1) := by decide +kernel
theorem dX10_firstOf_2 : decode cX10_firstOf 2 = .ok (.iload_n 1, 1) := by decide +kernel
theorem dX10_firstOf_3 : decode cX10_firstOf 3 = .ok (.iload_n 2, 1) := by decide +kernel
theorem dX10_firstOf_4 : decode cX10_firstOf 4 = .ok (.invokestatic 125, 3) := by decide +kernel
theorem dX10_firstOf_7 : decode cX10_firstOf 7 = .ok (.ifCond .ne 9, 3) := by decide +kernel
theorem dX10_firstOf_10 : decode cX10_firstOf 10 = .ok (.iinc 2 1, 3) := by decide +kernel
theorem dX10_firstOf_13 : decode cX10_firstOf 13 = .ok (.goto (-11), 3) := by decide +kernel
theorem dX10_firstOf_16 : decode cX10_firstOf 16 = .ok (.iload_n 2, 1) := by decide +kernel
theorem dX10_firstOf_17 : decode cX10_firstOf 17 = .ok (.ireturn, 1) := by decide +kernel
theorem dX10_layRows_0 : decode cX10_layRows 0 = .ok (.aload_n 0, 1) := by decide +kernel
theorem dX10_layRows_1 : decode cX10_layRows 1 = .ok (.iconst 0, 1) := by decide +kernel
theorem dX10_layRows_2 : decode cX10_layRows 2 = .ok (.putfield 154, 3) := by decide +kernel
theorem dX10_layRows_5 : decode cX10_layRows 5 = .ok (.aload_n 0, 1) := by decide +kernel
theorem dX10_layRows_6 : decode cX10_layRows 6 = .ok (.iload_n 1, 1) := by decide +kernel
theorem dX10_layRows_7 : decode cX10_layRows 7 = .ok (.invokevirtual 157, 3) := by decide +kernel
theorem dX10_layRows_10 : decode cX10_layRows 10 = .ok (.istore_n 2, 1) := by decide +kernel
theorem dX10_layRows_11 : decode cX10_layRows 11 = .ok (.iload_n 2, 1) := by decide +kernel
theorem dX10_layRows_12 : decode cX10_layRows 12 = .ok (.iconst 1, 1) := by decide +kernel
theorem dX10_layRows_13 : decode cX10_layRows 13 = .ok (.iadd, 1) := by decide +kernel
theorem dX10_layRows_14 : decode cX10_layRows 14 = .ok (.istore_n 3, 1) := by decide +kernel
theorem dX10_layRows_15 : decode cX10_layRows 15 = .ok (.iload_n 3, 1) := by decide +kernel
theorem dX10_layRows_16 : decode cX10_layRows 16 = .ok (.aload_n 0, 1) := by decide +kernel
theorem dX10_layRows_17 : decode cX10_layRows 17 = .ok (.getfield 16, 3) := by decide +kernel
theorem dX10_layRows_20 : decode cX10_layRows 20 = .ok (.iconst 0, 1) := by decide +kernel
theorem dX10_layRows_21 : decode cX10_layRows 21 = .ok (.iaload, 1) := by decide +kernel
theorem dX10_layRows_22 : decode cX10_layRows 22 = .ok (.if_icmp .ge 166, 3) := by decide +kernel
theorem dX10_layRows_25 : decode cX10_layRows 25 = .ok (.iload_n 1, 1) := by decide +kernel
theorem dX10_layRows_26 : decode cX10_layRows 26 = .ok (.iload_n 3, 1) := by decide +kernel
theorem dX10_layRows_27 : decode cX10_layRows 27 = .ok (.invokestatic 125, 3) := by decide +kernel
theorem dX10_layRows_30 : decode cX10_layRows 30 = .ok (.ifCond .eq 152, 3) := by decide +kernel
theorem dX10_layRows_33 : decode cX10_layRows 33 = .ok (.iconst 4, 1) := by decide +kernel
theorem dX10_layRows_34 : decode cX10_layRows 34 = .ok (.aload_n 0, 1) := by decide +kernel
theorem dX10_layRows_35 : decode cX10_layRows 35 = .ok (.getfield 154, 3) := by decide +kernel
theorem dX10_layRows_38 : decode cX10_layRows 38 = .ok (.imul, 1) := by decide +kernel
theorem dX10_layRows_39 : decode cX10_layRows 39 = .ok (.istore 4, 2) := by decide +kernel
theorem dX10_layRows_41 : decode cX10_layRows 41 = .ok (.aload_n 0, 1) := by decide +kernel
theorem dX10_layRows_42 : decode cX10_layRows 42 = .ok (.getfield 44, 3) := by decide +kernel
theorem dX10_layRows_45 : decode cX10_layRows 45 = .ok (.iload 4, 2) := by decide +kernel
theorem dX10_layRows_47 : decode cX10_layRows 47 = .ok (.iconst 2, 1) := by decide +kernel
theorem dX10_layRows_48 : decode cX10_layRows 48 = .ok (.aload_n 0, 1) := by decide +kernel
theorem dX10_layRows_49 : decode cX10_layRows 49 = .ok (.iload_n 3, 1) := by decide +kernel
theorem dX10_layRows_50 : decode cX10_layRows 50 = .ok (.invokevirtual 116, 3) := by decide +kernel
theorem dX10_layRows_53 : decode cX10_layRows 53 = .ok (.aload_n 0, 1) := by decide +kernel
theorem dX10_layRows_54 : decode cX10_layRows 54 = .ok (.iload_n 2, 1) := by decide +kernel
theorem dX10_layRows_55 : decode cX10_layRows 55 = .ok (.invokevirtual 116, 3) := by decide +kernel
theorem dX10_layRows_58 : decode cX10_layRows 58 = .ok (.isub, 1) := by decide +kernel
theorem dX10_layRows_59 : decode cX10_layRows 59 = .ok (.imul, 1) := by decide +kernel
theorem dX10_layRows_60 : decode cX10_layRows 60 = .ok (.i2l, 1) := by decide +kernel
theorem dX10_layRows_61 : decode cX10_layRows 61 = .ok (.lastore, 1) := by decide +kernel
theorem dX10_layRows_62 : decode cX10_layRows 62 = .ok (.aload_n 0, 1) := by decide +kernel
theorem dX10_layRows_63 : decode cX10_layRows 63 = .ok (.getfield 44, 3) := by decide +kernel
theorem dX10_layRows_66 : decode cX10_layRows 66 = .ok (.iload 4, 2) := by decide +kernel
theorem dX10_layRows_68 : decode cX10_layRows 68 = .ok (.iconst 1, 1) := by decide +kernel
theorem dX10_layRows_69 : decode cX10_layRows 69 = .ok (.iadd, 1) := by decide +kernel
theorem dX10_layRows_70 : decode cX10_layRows 70 = .ok (.iconst 2, 1) := by decide +kernel
theorem dX10_layRows_71 : decode cX10_layRows 71 = .ok (.aload_n 0, 1) := by decide +kernel
theorem dX10_layRows_72 : decode cX10_layRows 72 = .ok (.iload_n 3, 1) := by decide +kernel
theorem dX10_layRows_73 : decode cX10_layRows 73 = .ok (.invokevirtual 119, 3) := by decide +kernel
theorem dX10_layRows_76 : decode cX10_layRows 76 = .ok (.aload_n 0, 1) := by decide +kernel
theorem dX10_layRows_77 : decode cX10_layRows 77 = .ok (.iload_n 2, 1) := by decide +kernel
theorem dX10_layRows_78 : decode cX10_layRows 78 = .ok (.invokevirtual 119, 3) := by decide +kernel
theorem dX10_layRows_81 : decode cX10_layRows 81 = .ok (.isub, 1) := by decide +kernel
theorem dX10_layRows_82 : decode cX10_layRows 82 = .ok (.imul, 1) := by decide +kernel
theorem dX10_layRows_83 : decode cX10_layRows 83 = .ok (.i2l, 1) := by decide +kernel
theorem dX10_layRows_84 : decode cX10_layRows 84 = .ok (.lastore, 1) := by decide +kernel
theorem dX10_layRows_85 : decode cX10_layRows 85 = .ok (.aload_n 0, 1) := by decide +kernel
theorem dX10_layRows_86 : decode cX10_layRows 86 = .ok (.getfield 44, 3) := by decide +kernel
theorem dX10_layRows_89 : decode cX10_layRows 89 = .ok (.iload 4, 2) := by decide +kernel
theorem dX10_layRows_91 : decode cX10_layRows 91 = .ok (.iconst 2, 1) := by decide +kernel
theorem dX10_layRows_92 : decode cX10_layRows 92 = .ok (.iadd, 1) := by decide +kernel
theorem dX10_layRows_93 : decode cX10_layRows 93 = .ok (.bipush (-2), 2) := by decide +kernel
theorem dX10_layRows_95 : decode cX10_layRows 95 = .ok (.aload_n 0, 1) := by decide +kernel
theorem dX10_layRows_96 : decode cX10_layRows 96 = .ok (.iload_n 3, 1) := by decide +kernel
theorem dX10_layRows_97 : decode cX10_layRows 97 = .ok (.invokevirtual 110, 3) := by decide +kernel
theorem dX10_layRows_100 : decode cX10_layRows 100 = .ok (.aload_n 0, 1) := by decide +kernel
theorem dX10_layRows_101 : decode cX10_layRows 101 = .ok (.iload_n 2, 1) := by decide +kernel
theorem dX10_layRows_102 : decode cX10_layRows 102 = .ok (.invokevirtual 110, 3) := by decide +kernel
theorem dX10_layRows_105 : decode cX10_layRows 105 = .ok (.isub, 1) := by decide +kernel
theorem dX10_layRows_106 : decode cX10_layRows 106 = .ok (.imul, 1) := by decide +kernel
theorem dX10_layRows_107 : decode cX10_layRows 107 = .ok (.i2l, 1) := by decide +kernel
theorem dX10_layRows_108 : decode cX10_layRows 108 = .ok (.lastore, 1) := by decide +kernel
theorem dX10_layRows_109 : decode cX10_layRows 109 = .ok (.aload_n 0, 1) := by decide +kernel
theorem dX10_layRows_110 : decode cX10_layRows 110 = .ok (.getfield 44, 3) := by decide +kernel
theorem dX10_layRows_113 : decode cX10_layRows 113 = .ok (.iload 4, 2) := by decide +kernel
theorem dX10_layRows_115 : decode cX10_layRows 115 = .ok (.iconst 3, 1) := by decide +kernel
theorem dX10_layRows_116 : decode cX10_layRows 116 = .ok (.iadd, 1) := by decide +kernel
theorem dX10_layRows_117 : decode cX10_layRows 117 = .ok (.aload_n 0, 1) := by decide +kernel
theorem dX10_layRows_118 : decode cX10_layRows 118 = .ok (.iload_n 3, 1) := by decide +kernel
theorem dX10_layRows_119 : decode cX10_layRows 119 = .ok (.invokevirtual 116, 3) := by decide +kernel
theorem dX10_layRows_122 : decode cX10_layRows 122 = .ok (.invokestatic 113, 3) := by decide +kernel
theorem dX10_layRows_125 : decode cX10_layRows 125 = .ok (.aload_n 0, 1) := by decide +kernel
theorem dX10_layRows_126 : decode cX10_layRows 126 = .ok (.iload_n 3, 1) := by decide +kernel
theorem dX10_layRows_127 : decode cX10_layRows 127 = .ok (.invokevirtual 119, 3) := by decide +kernel
theorem dX10_layRows_130 : decode cX10_layRows 130 = .ok (.invokestatic 113, 3) := by decide +kernel
theorem dX10_layRows_133 : decode cX10_layRows 133 = .ok (.iadd, 1) := by decide +kernel
theorem dX10_layRows_134 : decode cX10_layRows 134 = .ok (.aload_n 0, 1) := by decide +kernel
theorem dX10_layRows_135 : decode cX10_layRows 135 = .ok (.iload_n 3, 1) := by decide +kernel
theorem dX10_layRows_136 : decode cX10_layRows 136 = .ok (.invokevirtual 110, 3) := by decide +kernel
theorem dX10_layRows_139 : decode cX10_layRows 139 = .ok (.invokestatic 113, 3) := by decide +kernel
theorem dX10_layRows_142 : decode cX10_layRows 142 = .ok (.isub, 1) := by decide +kernel
theorem dX10_layRows_143 : decode cX10_layRows 143 = .ok (.aload_n 0, 1) := by decide +kernel
theorem dX10_layRows_144 : decode cX10_layRows 144 = .ok (.iload_n 2, 1) := by decide +kernel
theorem dX10_layRows_145 : decode cX10_layRows 145 = .ok (.invokevirtual 116, 3) := by decide +kernel
theorem dX10_layRows_148 : decode cX10_layRows 148 = .ok (.invokestatic 113, 3) := by decide +kernel
theorem dX10_layRows_151 : decode cX10_layRows 151 = .ok (.isub, 1) := by decide +kernel
theorem dX10_layRows_152 : decode cX10_layRows 152 = .ok (.aload_n 0, 1) := by decide +kernel
theorem dX10_layRows_153 : decode cX10_layRows 153 = .ok (.iload_n 2, 1) := by decide +kernel
theorem dX10_layRows_154 : decode cX10_layRows 154 = .ok (.invokevirtual 119, 3) := by decide +kernel
theorem dX10_layRows_157 : decode cX10_layRows 157 = .ok (.invokestatic 113, 3) := by decide +kernel
theorem dX10_layRows_160 : decode cX10_layRows 160 = .ok (.isub, 1) := by decide +kernel
theorem dX10_layRows_161 : decode cX10_layRows 161 = .ok (.aload_n 0, 1) := by decide +kernel
theorem dX10_layRows_162 : decode cX10_layRows 162 = .ok (.iload_n 2, 1) := by decide +kernel
theorem dX10_layRows_163 : decode cX10_layRows 163 = .ok (.invokevirtual 110, 3) := by decide +kernel
theorem dX10_layRows_166 : decode cX10_layRows 166 = .ok (.invokestatic 113, 3) := by decide +kernel
theorem dX10_layRows_169 : decode cX10_layRows 169 = .ok (.iadd, 1) := by decide +kernel
theorem dX10_layRows_170 : decode cX10_layRows 170 = .ok (.i2l, 1) := by decide +kernel
theorem dX10_layRows_171 : decode cX10_layRows 171 = .ok (.lastore, 1) := by decide +kernel
theorem dX10_layRows_172 : decode cX10_layRows 172 = .ok (.aload_n 0, 1) := by decide +kernel
theorem dX10_layRows_173 : decode cX10_layRows 173 = .ok (.dup, 1) := by decide +kernel
theorem dX10_layRows_174 : decode cX10_layRows 174 = .ok (.getfield 154, 3) := by decide +kernel
theorem dX10_layRows_177 : decode cX10_layRows 177 = .ok (.iconst 1, 1) := by decide +kernel
theorem dX10_layRows_178 : decode cX10_layRows 178 = .ok (.iadd, 1) := by decide +kernel
theorem dX10_layRows_179 : decode cX10_layRows 179 = .ok (.putfield 154, 3) := by decide +kernel
theorem dX10_layRows_182 : decode cX10_layRows 182 = .ok (.iinc 3 1, 3) := by decide +kernel
theorem dX10_layRows_185 : decode cX10_layRows 185 = .ok (.goto (-170), 3) := by decide +kernel
theorem dX10_layRows_188 : decode cX10_layRows 188 = .ok (.return_, 1) := by decide +kernel
theorem dX10_three_0 : decode cX10_three 0 = .ok (.aload_n 0, 1) := by decide +kernel
theorem dX10_three_1 : decode cX10_three 1 = .ok (.iload_n 1, 1) := by decide +kernel
theorem dX10_three_2 : decode cX10_three 2 = .ok (.iload 4, 2) := by decide +kernel
theorem dX10_three_4 : decode cX10_three 4 = .ok (.invokevirtual 160, 3) := by decide +kernel
theorem dX10_three_7 : decode cX10_three 7 = .ok (.aload_n 0, 1) := by decide +kernel
theorem dX10_three_8 : decode cX10_three 8 = .ok (.iload_n 2, 1) := by decide +kernel
theorem dX10_three_9 : decode cX10_three 9 = .ok (.iload 5, 2) := by decide +kernel
theorem dX10_three_11 : decode cX10_three 11 = .ok (.invokevirtual 160, 3) := by decide +kernel
theorem dX10_three_14 : decode cX10_three 14 = .ok (.aload_n 0, 1) := by decide +kernel
theorem dX10_three_15 : decode cX10_three 15 = .ok (.iload_n 3, 1) := by decide +kernel
theorem dX10_three_16 : decode cX10_three 16 = .ok (.iload 6, 2) := by decide +kernel
theorem dX10_three_18 : decode cX10_three 18 = .ok (.invokevirtual 160, 3) := by decide +kernel
theorem dX10_three_21 : decode cX10_three 21 = .ok (.lmul, 1) := by decide +kernel
theorem dX10_three_22 : decode cX10_three 22 = .ok (.aload_n 0, 1) := by decide +kernel
theorem dX10_three_23 : decode cX10_three 23 = .ok (.iload_n 2, 1) := by decide +kernel
theorem dX10_three_24 : decode cX10_three 24 = .ok (.iload 6, 2) := by decide +kernel
theorem dX10_three_26 : decode cX10_three 26 = .ok (.invokevirtual 160, 3) := by decide +kernel
theorem dX10_three_29 : decode cX10_three 29 = .ok (.aload_n 0, 1) := by decide +kernel
theorem dX10_three_30 : decode cX10_three 30 = .ok (.iload_n 3, 1) := by decide +kernel
theorem dX10_three_31 : decode cX10_three 31 = .ok (.iload 5, 2) := by decide +kernel
theorem dX10_three_33 : decode cX10_three 33 = .ok (.invokevirtual 160, 3) := by decide +kernel
theorem dX10_three_36 : decode cX10_three 36 = .ok (.lmul, 1) := by decide +kernel
theorem dX10_three_37 : decode cX10_three 37 = .ok (.lsub, 1) := by decide +kernel
theorem dX10_three_38 : decode cX10_three 38 = .ok (.lmul, 1) := by decide +kernel
theorem dX10_three_39 : decode cX10_three 39 = .ok (.aload_n 0, 1) := by decide +kernel
theorem dX10_three_40 : decode cX10_three 40 = .ok (.iload_n 1, 1) := by decide +kernel
theorem dX10_three_41 : decode cX10_three 41 = .ok (.iload 5, 2) := by decide +kernel
theorem dX10_three_43 : decode cX10_three 43 = .ok (.invokevirtual 160, 3) := by decide +kernel
theorem dX10_three_46 : decode cX10_three 46 = .ok (.aload_n 0, 1) := by decide +kernel
theorem dX10_three_47 : decode cX10_three 47 = .ok (.iload_n 2, 1) := by decide +kernel
theorem dX10_three_48 : decode cX10_three 48 = .ok (.iload 4, 2) := by decide +kernel
theorem dX10_three_50 : decode cX10_three 50 = .ok (.invokevirtual 160, 3) := by decide +kernel
theorem dX10_three_53 : decode cX10_three 53 = .ok (.aload_n 0, 1) := by decide +kernel
theorem dX10_three_54 : decode cX10_three 54 = .ok (.iload_n 3, 1) := by decide +kernel
theorem dX10_three_55 : decode cX10_three 55 = .ok (.iload 6, 2) := by decide +kernel
theorem dX10_three_57 : decode cX10_three 57 = .ok (.invokevirtual 160, 3) := by decide +kernel
theorem dX10_three_60 : decode cX10_three 60 = .ok (.lmul, 1) := by decide +kernel
theorem dX10_three_61 : decode cX10_three 61 = .ok (.aload_n 0, 1) := by decide +kernel
theorem dX10_three_62 : decode cX10_three 62 = .ok (.iload_n 2, 1) := by decide +kernel
theorem dX10_three_63 : decode cX10_three 63 = .ok (.iload 6, 2) := by decide +kernel
theorem dX10_three_65 : decode cX10_three 65 = .ok (.invokevirtual 160, 3) := by decide +kernel
theorem dX10_three_68 : decode cX10_three 68 = .ok (.aload_n 0, 1) := by decide +kernel
theorem dX10_three_69 : decode cX10_three 69 = .ok (.iload_n 3, 1) := by decide +kernel
theorem dX10_three_70 : decode cX10_three 70 = .ok (.iload 4, 2) := by decide +kernel
theorem dX10_three_72 : decode cX10_three 72 = .ok (.invokevirtual 160, 3) := by decide +kernel
theorem dX10_three_75 : decode cX10_three 75 = .ok (.lmul, 1) := by decide +kernel
theorem dX10_three_76 : decode cX10_three 76 = .ok (.lsub, 1) := by decide +kernel
theorem dX10_three_77 : decode cX10_three 77 = .ok (.lmul, 1) := by decide +kernel
theorem dX10_three_78 : decode cX10_three 78 = .ok (.lsub, 1) := by decide +kernel
theorem dX10_three_79 : decode cX10_three 79 = .ok (.aload_n 0, 1) := by decide +kernel
theorem dX10_three_80 : decode cX10_three 80 = .ok (.iload_n 1, 1) := by decide +kernel
theorem dX10_three_81 : decode cX10_three 81 = .ok (.iload 6, 2) := by decide +kernel
theorem dX10_three_83 : decode cX10_three 83 = .ok (.invokevirtual 160, 3) := by decide +kernel
theorem dX10_three_86 : decode cX10_three 86 = .ok (.aload_n 0, 1) := by decide +kernel
theorem dX10_three_87 : decode cX10_three 87 = .ok (.iload_n 2, 1) := by decide +kernel
theorem dX10_three_88 : decode cX10_three 88 = .ok (.iload 4, 2) := by decide +kernel
theorem dX10_three_90 : decode cX10_three 90 = .ok (.invokevirtual 160, 3) := by decide +kernel
theorem dX10_three_93 : decode cX10_three 93 = .ok (.aload_n 0, 1) := by decide +kernel
theorem dX10_three_94 : decode cX10_three 94 = .ok (.iload_n 3, 1) := by decide +kernel
theorem dX10_three_95 : decode cX10_three 95 = .ok (.iload 5, 2) := by decide +kernel
theorem dX10_three_97 : decode cX10_three 97 = .ok (.invokevirtual 160, 3) := by decide +kernel
theorem dX10_three_100 : decode cX10_three 100 = .ok (.lmul, 1) := by decide +kernel
theorem dX10_three_101 : decode cX10_three 101 = .ok (.aload_n 0, 1) := by decide +kernel
theorem dX10_three_102 : decode cX10_three 102 = .ok (.iload_n 2, 1) := by decide +kernel
theorem dX10_three_103 : decode cX10_three 103 = .ok (.iload 5, 2) := by decide +kernel
theorem dX10_three_105 : decode cX10_three 105 = .ok (.invokevirtual 160, 3) := by decide +kernel
theorem dX10_three_108 : decode cX10_three 108 = .ok (.aload_n 0, 1) := by decide +kernel
theorem dX10_three_109 : decode cX10_three 109 = .ok (.iload_n 3, 1) := by decide +kernel
theorem dX10_three_110 : decode cX10_three 110 = .ok (.iload 4, 2) := by decide +kernel
theorem dX10_three_112 : decode cX10_three 112 = .ok (.invokevirtual 160, 3) := by decide +kernel
theorem dX10_three_115 : decode cX10_three 115 = .ok (.lmul, 1) := by decide +kernel
theorem dX10_three_116 : decode cX10_three 116 = .ok (.lsub, 1) := by decide +kernel
theorem dX10_three_117 : decode cX10_three 117 = .ok (.lmul, 1) := by decide +kernel
theorem dX10_three_118 : decode cX10_three 118 = .ok (.ladd, 1) := by decide +kernel
theorem dX10_three_119 : decode cX10_three 119 = .ok (.lreturn, 1) := by decide +kernel
theorem dX10_two_0 : decode cX10_two 0 = .ok (.aload_n 0, 1) := by decide +kernel
theorem dX10_two_1 : decode cX10_two 1 = .ok (.iload_n 1, 1) := by decide +kernel
theorem dX10_two_2 : decode cX10_two 2 = .ok (.iload_n 3, 1) := by decide +kernel
theorem dX10_two_3 : decode cX10_two 3 = .ok (.invokevirtual 160, 3) := by decide +kernel
theorem dX10_two_6 : decode cX10_two 6 = .ok (.aload_n 0, 1) := by decide +kernel
theorem dX10_two_7 : decode cX10_two 7 = .ok (.iload_n 2, 1) := by decide +kernel
theorem dX10_two_8 : decode cX10_two 8 = .ok (.iload 4, 2) := by decide +kernel
theorem dX10_two_10 : decode cX10_two 10 = .ok (.invokevirtual 160, 3) := by decide +kernel
theorem dX10_two_13 : decode cX10_two 13 = .ok (.lmul, 1) := by decide +kernel
theorem dX10_two_14 : decode cX10_two 14 = .ok (.aload_n 0, 1) := by decide +kernel
theorem dX10_two_15 : decode cX10_two 15 = .ok (.iload_n 1, 1) := by decide +kernel
theorem dX10_two_16 : decode cX10_two 16 = .ok (.iload 4, 2) := by decide +kernel
theorem dX10_two_18 : decode cX10_two 18 = .ok (.invokevirtual 160, 3) := by decide +kernel
theorem dX10_two_21 : decode cX10_two 21 = .ok (.aload_n 0, 1) := by decide +kernel
theorem dX10_two_22 : decode cX10_two 22 = .ok (.iload_n 2, 1) := by decide +kernel
theorem dX10_two_23 : decode cX10_two 23 = .ok (.iload_n 3, 1) := by decide +kernel
theorem dX10_two_24 : decode cX10_two 24 = .ok (.invokevirtual 160, 3) := by decide +kernel
theorem dX10_two_27 : decode cX10_two 27 = .ok (.lmul, 1) := by decide +kernel
theorem dX10_two_28 : decode cX10_two 28 = .ok (.lsub, 1) := by decide +kernel
theorem dX10_two_29 : decode cX10_two 29 = .ok (.lreturn, 1) := by decide +kernel
theorem dX10_rankOf_0 : decode cX10_rankOf 0 = .ok (.aload_n 0, 1) := by decide +kernel
theorem dX10_rankOf_1 : decode cX10_rankOf 1 = .ok (.iload_n 1, 1) := by decide +kernel
theorem dX10_rankOf_2 : decode cX10_rankOf 2 = .ok (.invokevirtual 164, 3) := by decide +kernel
theorem dX10_rankOf_5 : decode cX10_rankOf 5 = .ok (.iconst 0, 1) := by decide +kernel
theorem dX10_rankOf_6 : decode cX10_rankOf 6 = .ok (.istore_n 2, 1) := by decide +kernel
