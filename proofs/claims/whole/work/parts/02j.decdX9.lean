theorem dX9_init_0 : decode cX9_init 0 = .ok (.aload_n 0, 1) := by decide +kernel
theorem dX9_init_1 : decode cX9_init 1 = .ok (.invokespecial 3, 3) := by decide +kernel
theorem dX9_init_4 : decode cX9_init 4 = .ok (.aload_n 0, 1) := by decide +kernel
theorem dX9_init_5 : decode cX9_init 5 = .ok (.new 9, 3) := by decide +kernel
theorem dX9_init_8 : decode cX9_init 8 = .ok (.dup, 1) := by decide +kernel
theorem dX9_init_9 : decode cX9_init 9 = .ok (.invokespecial 11, 3) := by decide +kernel
theorem dX9_init_12 : decode cX9_init 12 = .ok (.putfield 12, 3) := by decide +kernel
theorem dX9_init_15 : decode cX9_init 15 = .ok (.aload_n 0, 1) := by decide +kernel
theorem dX9_init_16 : decode cX9_init 16 = .ok (.new 16, 3) := by decide +kernel
theorem dX9_init_19 : decode cX9_init 19 = .ok (.dup, 1) := by decide +kernel
theorem dX9_init_20 : decode cX9_init 20 = .ok (.invokespecial 18, 3) := by decide +kernel
theorem dX9_init_23 : decode cX9_init 23 = .ok (.putfield 19, 3) := by decide +kernel
theorem dX9_init_26 : decode cX9_init 26 = .ok (.aload_n 0, 1) := by decide +kernel
theorem dX9_init_27 : decode cX9_init 27 = .ok (.new 23, 3) := by decide +kernel
theorem dX9_init_30 : decode cX9_init 30 = .ok (.dup, 1) := by decide +kernel
theorem dX9_init_31 : decode cX9_init 31 = .ok (.invokespecial 25, 3) := by decide +kernel
theorem dX9_init_34 : decode cX9_init 34 = .ok (.putfield 26, 3) := by decide +kernel
theorem dX9_init_37 : decode cX9_init 37 = .ok (.aload_n 0, 1) := by decide +kernel
theorem dX9_init_38 : decode cX9_init 38 = .ok (.new 30, 3) := by decide +kernel
theorem dX9_init_41 : decode cX9_init 41 = .ok (.dup, 1) := by decide +kernel
theorem dX9_init_42 : decode cX9_init 42 = .ok (.invokespecial 32, 3) := by decide +kernel
theorem dX9_init_45 : decode cX9_init 45 = .ok (.putfield 33, 3) := by decide +kernel
theorem dX9_init_48 : decode cX9_init 48 = .ok (.aload_n 0, 1) := by decide +kernel
theorem dX9_init_49 : decode cX9_init 49 = .ok (.new 37, 3) := by decide +kernel
theorem dX9_init_52 : decode cX9_init 52 = .ok (.dup, 1) := by decide +kernel
theorem dX9_init_53 : decode cX9_init 53 = .ok (.invokespecial 39, 3) := by decide +kernel
theorem dX9_init_56 : decode cX9_init 56 = .ok (.putfield 40, 3) := by decide +kernel
theorem dX9_init_59 : decode cX9_init 59 = .ok (.aload_n 0, 1) := by decide +kernel
theorem dX9_init_60 : decode cX9_init 60 = .ok (.iconst 2, 1) := by decide +kernel
theorem dX9_init_61 : decode cX9_init 61 = .ok (.anewarray 30, 3) := by decide +kernel
theorem dX9_init_64 : decode cX9_init 64 = .ok (.putfield 44, 3) := by decide +kernel
theorem dX9_init_67 : decode cX9_init 67 = .ok (.aload_n 0, 1) := by decide +kernel
theorem dX9_init_68 : decode cX9_init 68 = .ok (.iconst 2, 1) := by decide +kernel
theorem dX9_init_69 : decode cX9_init 69 = .ok (.newarray .boolean, 2) := by decide +kernel
theorem dX9_init_71 : decode cX9_init 71 = .ok (.putfield 48, 3) := by decide +kernel
theorem dX9_init_74 : decode cX9_init 74 = .ok (.aload_n 0, 1) := by decide +kernel
theorem dX9_init_75 : decode cX9_init 75 = .ok (.new 52, 3) := by decide +kernel
theorem dX9_init_78 : decode cX9_init 78 = .ok (.dup, 1) := by decide +kernel
theorem dX9_init_79 : decode cX9_init 79 = .ok (.invokespecial 54, 3) := by decide +kernel
theorem dX9_init_82 : decode cX9_init 82 = .ok (.putfield 55, 3) := by decide +kernel
theorem dX9_init_85 : decode cX9_init 85 = .ok (.aload_n 0, 1) := by decide +kernel
theorem dX9_init_86 : decode cX9_init 86 = .ok (.new 59, 3) := by decide +kernel
theorem dX9_init_89 : decode cX9_init 89 = .ok (.dup, 1) := by decide +kernel
theorem dX9_init_90 : decode cX9_init 90 = .ok (.invokespecial 61, 3) := by decide +kernel
theorem dX9_init_93 : decode cX9_init 93 = .ok (.putfield 62, 3) := by decide +kernel
theorem dX9_init_96 : decode cX9_init 96 = .ok (.aload_n 0, 1) := by decide +kernel
theorem dX9_init_97 : decode cX9_init 97 = .ok (.new 66, 3) := by decide +kernel
theorem dX9_init_100 : decode cX9_init 100 = .ok (.dup, 1) := by decide +kernel
theorem dX9_init_101 : decode cX9_init 101 = .ok (.aload_n 0, 1) := by decide +kernel
theorem dX9_init_102 : decode cX9_init 102 = .ok (.getfield 55, 3) := by decide +kernel
theorem dX9_init_105 : decode cX9_init 105 = .ok (.invokespecial 68, 3) := by decide +kernel
theorem dX9_init_108 : decode cX9_init 108 = .ok (.putfield 71, 3) := by decide +kernel
theorem dX9_init_111 : decode cX9_init 111 = .ok (.aload_n 0, 1) := by decide +kernel
theorem dX9_init_112 : decode cX9_init 112 = .ok (.new 75, 3) := by decide +kernel
theorem dX9_init_115 : decode cX9_init 115 = .ok (.dup, 1) := by decide +kernel
theorem dX9_init_116 : decode cX9_init 116 = .ok (.aload_n 0, 1) := by decide +kernel
theorem dX9_init_117 : decode cX9_init 117 = .ok (.getfield 55, 3) := by decide +kernel
theorem dX9_init_120 : decode cX9_init 120 = .ok (.aload_n 0, 1) := by decide +kernel
theorem dX9_init_121 : decode cX9_init 121 = .ok (.getfield 71, 3) := by decide +kernel
theorem dX9_init_124 : decode cX9_init 124 = .ok (.invokespecial 77, 3) := by decide +kernel
theorem dX9_init_127 : decode cX9_init 127 = .ok (.putfield 80, 3) := by decide +kernel
theorem dX9_init_130 : decode cX9_init 130 = .ok (.iconst 0, 1) := by decide +kernel
theorem dX9_init_131 : decode cX9_init 131 = .ok (.istore_n 1, 1) := by decide +kernel
theorem dX9_init_132 : decode cX9_init 132 = .ok (.iload_n 1, 1) := by decide +kernel
theorem dX9_init_133 : decode cX9_init 133 = .ok (.iconst 2, 1) := by decide +kernel
theorem dX9_init_134 : decode cX9_init 134 = .ok (.if_icmp .ge 22, 3) := by decide +kernel
theorem dX9_init_137 : decode cX9_init 137 = .ok (.aload_n 0, 1) := by decide +kernel
theorem dX9_init_138 : decode cX9_init 138 = .ok (.getfield 44, 3) := by decide +kernel
theorem dX9_init_141 : decode cX9_init 141 = .ok (.iload_n 1, 1) := by decide +kernel
theorem dX9_init_142 : decode cX9_init 142 = .ok (.new 30, 3) := by decide +kernel
theorem dX9_init_145 : decode cX9_init 145 = .ok (.dup, 1) := by decide +kernel
theorem dX9_init_146 : decode cX9_init 146 = .ok (.invokespecial 32, 3) := by decide +kernel
theorem dX9_init_149 : decode cX9_init 149 = .ok (.aastore, 1) := by decide +kernel
theorem dX9_init_150 : decode cX9_init 150 = .ok (.iinc 1 1, 3) := by decide +kernel
theorem dX9_init_153 : decode cX9_init 153 = .ok (.goto (-21), 3) := by decide +kernel
theorem dX9_init_156 : decode cX9_init 156 = .ok (.return_, 1) := by decide +kernel
theorem dX9_type_0 : decode cX9_type 0 = .ok (.iload_n 1, 1) := by decide +kernel
theorem dX9_type_1 : decode cX9_type 1 = .ok (.sipush 255, 3) := by decide +kernel
theorem dX9_type_4 : decode cX9_type 4 = .ok (.invokestatic 84, 3) := by decide +kernel
theorem dX9_type_7 : decode cX9_type 7 = .ok (.ifCond .ne 5, 3) := by decide +kernel
theorem dX9_type_10 : decode cX9_type 10 = .ok (.iconst (-1), 1) := by decide +kernel
theorem dX9_type_11 : decode cX9_type 11 = .ok (.ireturn, 1) := by decide +kernel
theorem dX9_type_12 : decode cX9_type 12 = .ok (.aload_n 0, 1) := by decide +kernel
theorem dX9_type_13 : decode cX9_type 13 = .ok (.getfield 12, 3) := by decide +kernel
theorem dX9_type_16 : decode cX9_type 16 = .ok (.iload_n 1, 1) := by decide +kernel
theorem dX9_type_17 : decode cX9_type 17 = .ok (.invokevirtual 88, 3) := by decide +kernel
theorem dX9_type_20 : decode cX9_type 20 = .ok (.ifCond .eq 13, 3) := by decide +kernel
theorem dX9_type_23 : decode cX9_type 23 = .ok (.aload_n 0, 1) := by decide +kernel
theorem dX9_type_24 : decode cX9_type 24 = .ok (.getfield 12, 3) := by decide +kernel
theorem dX9_type_27 : decode cX9_type 27 = .ok (.getfield 92, 3) := by decide +kernel
theorem dX9_type_30 : decode cX9_type 30 = .ok (.goto 5, 3) := by decide +kernel
theorem dX9_type_33 : decode cX9_type 33 = .ok (.bipush (-3), 2) := by decide +kernel
theorem dX9_type_35 : decode cX9_type 35 = .ok (.ireturn, 1) := by decide +kernel
theorem dX9_clear_0 : decode cX9_clear 0 = .ok (.aload_n 0, 1) := by decide +kernel
theorem dX9_clear_1 : decode cX9_clear 1 = .ok (.getfield 12, 3) := by decide +kernel
theorem dX9_clear_4 : decode cX9_clear 4 = .ok (.getfield 92, 3) := by decide +kernel
theorem dX9_clear_7 : decode cX9_clear 7 = .ok (.istore_n 1, 1) := by decide +kernel
theorem dX9_clear_8 : decode cX9_clear 8 = .ok (.aload_n 0, 1) := by decide +kernel
theorem dX9_clear_9 : decode cX9_clear 9 = .ok (.getfield 12, 3) := by decide +kernel
theorem dX9_clear_12 : decode cX9_clear 12 = .ok (.iconst 0, 1) := by decide +kernel
theorem dX9_clear_13 : decode cX9_clear 13 = .ok (.putfield 92, 3) := by decide +kernel
theorem dX9_clear_16 : decode cX9_clear 16 = .ok (.iload_n 1, 1) := by decide +kernel
theorem dX9_clear_17 : decode cX9_clear 17 = .ok (.ireturn, 1) := by decide +kernel
theorem dX9_field_0 : decode cX9_field 0 = .ok (.aload_n 0, 1) := by decide +kernel
theorem dX9_field_1 : decode cX9_field 1 = .ok (.getfield 19, 3) := by decide +kernel
theorem dX9_field_4 : decode cX9_field 4 = .ok (.aload_n 0, 1) := by decide +kernel
theorem dX9_field_5 : decode cX9_field 5 = .ok (.getfield 12, 3) := by decide +kernel
theorem dX9_field_8 : decode cX9_field 8 = .ok (.invokevirtual 96, 3) := by decide +kernel
theorem dX9_field_11 : decode cX9_field 11 = .ok (.istore_n 1, 1) := by decide +kernel
theorem dX9_field_12 : decode cX9_field 12 = .ok (.iload_n 1, 1) := by decide +kernel
theorem dX9_field_13 : decode cX9_field 13 = .ok (.iconst (-1), 1) := by decide +kernel
theorem dX9_field_14 : decode cX9_field 14 = .ok (.if_icmp .eq 8, 3) := by decide +kernel
theorem dX9_field_17 : decode cX9_field 17 = .ok (.bipush (-10), 2) := by decide +kernel
theorem dX9_field_19 : decode cX9_field 19 = .ok (.iload_n 1, 1) := by decide +kernel
theorem dX9_field_20 : decode cX9_field 20 = .ok (.isub, 1) := by decide +kernel
theorem dX9_field_21 : decode cX9_field 21 = .ok (.ireturn, 1) := by decide +kernel
theorem dX9_field_22 : decode cX9_field 22 = .ok (.aload_n 0, 1) := by decide +kernel
theorem dX9_field_23 : decode cX9_field 23 = .ok (.getfield 26, 3) := by decide +kernel
theorem dX9_field_26 : decode cX9_field 26 = .ok (.aload_n 0, 1) := by decide +kernel
theorem dX9_field_27 : decode cX9_field 27 = .ok (.getfield 19, 3) := by decide +kernel
theorem dX9_field_30 : decode cX9_field 30 = .ok (.getfield 100, 3) := by decide +kernel
theorem dX9_field_33 : decode cX9_field 33 = .ok (.invokevirtual 101, 3) := by decide +kernel
theorem dX9_field_36 : decode cX9_field 36 = .ok (.aload_n 0, 1) := by decide +kernel
theorem dX9_field_37 : decode cX9_field 37 = .ok (.getfield 33, 3) := by decide +kernel
theorem dX9_field_40 : decode cX9_field 40 = .ok (.aload_n 0, 1) := by decide +kernel
theorem dX9_field_41 : decode cX9_field 41 = .ok (.getfield 19, 3) := by decide +kernel
theorem dX9_field_44 : decode cX9_field 44 = .ok (.getfield 105, 3) := by decide +kernel
theorem dX9_field_47 : decode cX9_field 47 = .ok (.invokevirtual 106, 3) := by decide +kernel
theorem dX9_field_50 : decode cX9_field 50 = .ok (.aload_n 0, 1) := by decide +kernel
theorem dX9_field_51 : decode cX9_field 51 = .ok (.getfield 40, 3) := by decide +kernel
theorem dX9_field_54 : decode cX9_field 54 = .ok (.iconst 0, 1) := by decide +kernel
theorem dX9_field_55 : decode cX9_field 55 = .ok (.putfield 109, 3) := by decide +kernel
theorem dX9_field_58 : decode cX9_field 58 = .ok (.iconst 0, 1) := by decide +kernel
theorem dX9_field_59 : decode cX9_field 59 = .ok (.istore_n 2, 1) := by decide +kernel
theorem dX9_field_60 : decode cX9_field 60 = .ok (.iload_n 2, 1) := by decide +kernel
theorem dX9_field_61 : decode cX9_field 61 = .ok (.iconst 2, 1) := by decide +kernel
theorem dX9_field_62 : decode cX9_field 62 = .ok (.if_icmp .ge 16, 3) := by decide +kernel
theorem dX9_field_65 : decode cX9_field 65 = .ok (.aload_n 0, 1) := by decide +kernel
theorem dX9_field_66 : decode cX9_field 66 = .ok (.getfield 48, 3) := by decide +kernel
theorem dX9_field_69 : decode cX9_field 69 = .ok (.iload_n 2, 1) := by decide +kernel
theorem dX9_field_70 : decode cX9_field 70 = .ok (.iconst 0, 1) := by decide +kernel
theorem dX9_field_71 : decode cX9_field 71 = .ok (.bastore, 1) := by decide +kernel
theorem dX9_field_72 : decode cX9_field 72 = .ok (.iinc 2 1, 3) := by decide +kernel
theorem dX9_field_75 : decode cX9_field 75 = .ok (.goto (-15), 3) := by decide +kernel
theorem dX9_field_78 : decode cX9_field 78 = .ok (.aload_n 0, 1) := by decide +kernel
theorem dX9_field_79 : decode cX9_field 79 = .ok (.getfield 12, 3) := by decide +kernel
theorem dX9_field_82 : decode cX9_field 82 = .ok (.iconst 0, 1) := by decide +kernel
theorem dX9_field_83 : decode cX9_field 83 = .ok (.putfield 92, 3) := by decide +kernel
theorem dX9_field_86 : decode cX9_field 86 = .ok (.aload_n 0, 1) := by decide +kernel
theorem dX9_field_87 : decode cX9_field 87 = .ok (.getfield 19, 3) := by decide +kernel
theorem dX9_field_90 : decode cX9_field 90 = .ok (.getfield 110, 3) := by decide +kernel
theorem dX9_field_93 : decode cX9_field 93 = .ok (.ireturn, 1) := by decide +kernel
theorem dX9_station_0 : decode cX9_station 0 = .ok (.aload_n 0, 1) := by decide +kernel
theorem dX9_station_1 : decode cX9_station 1 = .ok (.iload_n 1, 1) := by decide +kernel
theorem dX9_station_2 : decode cX9_station 2 = .ok (.invokevirtual 113, 3) := by decide +kernel
theorem dX9_station_5 : decode cX9_station 5 = .ok (.ifCond .eq 11, 3) := by decide +kernel
theorem dX9_station_8 : decode cX9_station 8 = .ok (.iload_n 2, 1) := by decide +kernel
theorem dX9_station_9 : decode cX9_station 9 = .ok (.iconst 2, 1) := by decide +kernel
theorem dX9_station_10 : decode cX9_station 10 = .ok (.invokestatic 84, 3) := by decide +kernel
theorem dX9_station_13 : decode cX9_station 13 = .ok (.ifCond .ne 5, 3) := by decide +kernel
theorem dX9_station_16 : decode cX9_station 16 = .ok (.iconst (-1), 1) := by decide +kernel
theorem dX9_station_17 : decode cX9_station 17 = .ok (.ireturn, 1) := by decide +kernel
theorem dX9_station_18 : decode cX9_station 18 = .ok (.iload_n 2, 1) := by decide +kernel
theorem dX9_station_19 : decode cX9_station 19 = .ok (.lookupswitch 45 #[(0, 25), (1, 35)], 25) := by decide +kernel
theorem dX9_station_44 : decode cX9_station 44 = .ok (.aload_n 0, 1) := by decide +kernel
theorem dX9_station_45 : decode cX9_station 45 = .ok (.getfield 26, 3) := by decide +kernel
theorem dX9_station_48 : decode cX9_station 48 = .ok (.getfield 116, 3) := by decide +kernel
theorem dX9_station_51 : decode cX9_station 51 = .ok (.iload_n 1, 1) := by decide +kernel
theorem dX9_station_52 : decode cX9_station 52 = .ok (.iaload, 1) := by decide +kernel
theorem dX9_station_53 : decode cX9_station 53 = .ok (.ireturn, 1) := by decide +kernel
theorem dX9_station_54 : decode cX9_station 54 = .ok (.aload_n 0, 1) := by decide +kernel
theorem dX9_station_55 : decode cX9_station 55 = .ok (.getfield 26, 3) := by decide +kernel
theorem dX9_station_58 : decode cX9_station 58 = .ok (.getfield 120, 3) := by decide +kernel
theorem dX9_station_61 : decode cX9_station 61 = .ok (.iload_n 1, 1) := by decide +kernel
theorem dX9_station_62 : decode cX9_station 62 = .ok (.iaload, 1) := by decide +kernel
theorem dX9_station_63 : decode cX9_station 63 = .ok (.ireturn, 1) := by decide +kernel
theorem dX9_station_64 : decode cX9_station 64 = .ok (.aload_n 0, 1) := by decide +kernel
theorem dX9_station_65 : decode cX9_station 65 = .ok (.getfield 33, 3) := by decide +kernel
theorem dX9_station_68 : decode cX9_station 68 = .ok (.getfield 123, 3) := by decide +kernel
theorem dX9_station_71 : decode cX9_station 71 = .ok (.iload_n 1, 1) := by decide +kernel
theorem dX9_station_72 : decode cX9_station 72 = .ok (.iaload, 1) := by decide +kernel
theorem dX9_station_73 : decode cX9_station 73 = .ok (.ireturn, 1) := by decide +kernel
theorem dX9_reading_0 : decode cX9_reading 0 = .ok (.aload_n 0, 1) := by decide +kernel
theorem dX9_reading_1 : decode cX9_reading 1 = .ok (.iload_n 1, 1) := by decide +kernel
theorem dX9_reading_2 : decode cX9_reading 2 = .ok (.invokevirtual 126, 3) := by decide +kernel
theorem dX9_reading_5 : decode cX9_reading 5 = .ok (.ifCond .eq 11, 3) := by decide +kernel
theorem dX9_reading_8 : decode cX9_reading 8 = .ok (.iload_n 2, 1) := by decide +kernel
theorem dX9_reading_9 : decode cX9_reading 9 = .ok (.iconst 3, 1) := by decide +kernel
theorem dX9_reading_10 : decode cX9_reading 10 = .ok (.invokestatic 84, 3) := by decide +kernel
theorem dX9_reading_13 : decode cX9_reading 13 = .ok (.ifCond .ne 6, 3) := by decide +kernel
theorem dX9_reading_16 : decode cX9_reading 16 = .ok (.ldc 129, 2) := by decide +kernel
theorem dX9_reading_18 : decode cX9_reading 18 = .ok (.ireturn, 1) := by decide +kernel
theorem dX9_reading_19 : decode cX9_reading 19 = .ok (.iload_n 2, 1) := by decide +kernel
theorem dX9_reading_20 : decode cX9_reading 20 = .ok (.tableswitch 78 0 2 #[28, 38, 48], 28) := by decide +kernel
theorem dX9_reading_48 : decode cX9_reading 48 = .ok (.aload_n 0, 1) := by decide +kernel
theorem dX9_reading_49 : decode cX9_reading 49 = .ok (.getfield 33, 3) := by decide +kernel
theorem dX9_reading_52 : decode cX9_reading 52 = .ok (.getfield 130, 3) := by decide +kernel
theorem dX9_reading_55 : decode cX9_reading 55 = .ok (.iload_n 1, 1) := by decide +kernel
theorem dX9_reading_56 : decode cX9_reading 56 = .ok (.iaload, 1) := by decide +kernel
theorem dX9_reading_57 : decode cX9_reading 57 = .ok (.ireturn, 1) := by decide +kernel
theorem dX9_reading_58 : decode cX9_reading 58 = .ok (.aload_n 0, 1) := by decide +kernel
theorem dX9_reading_59 : decode cX9_reading 59 = .ok (.getfield 33, 3) := by decide +kernel
theorem dX9_reading_62 : decode cX9_reading 62 = .ok (.getfield 133, 3) := by decide +kernel
theorem dX9_reading_65 : decode cX9_reading 65 = .ok (.iload_n 1, 1) := by decide +kernel
theorem dX9_reading_66 : decode cX9_reading 66 = .ok (.iaload, 1) := by decide +kernel
theorem dX9_reading_67 : decode cX9_reading 67 = .ok (.ireturn, 1) := by decide +kernel
theorem dX9_reading_68 : decode cX9_reading 68 = .ok (.aload_n 0, 1) := by decide +kernel
theorem dX9_reading_69 : decode cX9_reading 69 = .ok (.getfield 33, 3) := by decide +kernel
theorem dX9_reading_72 : decode cX9_reading 72 = .ok (.getfield 123, 3) := by decide +kernel
theorem dX9_reading_75 : decode cX9_reading 75 = .ok (.aload_n 0, 1) := by decide +kernel
theorem dX9_reading_76 : decode cX9_reading 76 = .ok (.getfield 33, 3) := by decide +kernel
theorem dX9_reading_79 : decode cX9_reading 79 = .ok (.getfield 130, 3) := by decide +kernel
theorem dX9_reading_82 : decode cX9_reading 82 = .ok (.iload_n 1, 1) := by decide +kernel
theorem dX9_reading_83 : decode cX9_reading 83 = .ok (.iaload, 1) := by decide +kernel
theorem dX9_reading_84 : decode cX9_reading 84 = .ok (.iaload, 1) := by decide +kernel
theorem dX9_reading_85 : decode cX9_reading 85 = .ok (.aload_n 0, 1) := by decide +kernel
theorem dX9_reading_86 : decode cX9_reading 86 = .ok (.getfield 33, 3) := by decide +kernel
theorem dX9_reading_89 : decode cX9_reading 89 = .ok (.getfield 133, 3) := by decide +kernel
theorem dX9_reading_92 : decode cX9_reading 92 = .ok (.iload_n 1, 1) := by decide +kernel
theorem dX9_reading_93 : decode cX9_reading 93 = .ok (.iaload, 1) := by decide +kernel
theorem dX9_reading_94 : decode cX9_reading 94 = .ok (.invokestatic 136, 3) := by decide +kernel
theorem dX9_reading_97 : decode cX9_reading 97 = .ok (.ireturn, 1) := by decide +kernel
theorem dX9_reading_98 : decode cX9_reading 98 = .ok (.aload_n 0, 1) := by decide +kernel
theorem dX9_reading_99 : decode cX9_reading 99 = .ok (.invokevirtual 140, 3) := by decide +kernel
theorem dX9_reading_102 : decode cX9_reading 102 = .ok (.aload_n 0, 1) := by decide +kernel
theorem dX9_reading_103 : decode cX9_reading 103 = .ok (.getfield 62, 3) := by decide +kernel
theorem dX9_reading_106 : decode cX9_reading 106 = .ok (.getfield 143, 3) := by decide +kernel
theorem dX9_reading_109 : decode cX9_reading 109 = .ok (.iload_n 1, 1) := by decide +kernel
theorem dX9_reading_110 : decode cX9_reading 110 = .ok (.iaload, 1) := by decide +kernel
theorem dX9_reading_111 : decode cX9_reading 111 = .ok (.ireturn, 1) := by decide +kernel
theorem dX9_hears_0 : decode cX9_hears 0 = .ok (.aload_n 0, 1) := by decide +kernel
theorem dX9_hears_1 : decode cX9_hears 1 = .ok (.iload_n 1, 1) := by decide +kernel
theorem dX9_hears_2 : decode cX9_hears 2 = .ok (.invokevirtual 113, 3) := by decide +kernel
theorem dX9_hears_5 : decode cX9_hears 5 = .ok (.ifCond .eq 12, 3) := by decide +kernel
theorem dX9_hears_8 : decode cX9_hears 8 = .ok (.iload_n 2, 1) := by decide +kernel
theorem dX9_hears_9 : decode cX9_hears 9 = .ok (.bipush 60, 2) := by decide +kernel
theorem dX9_hears_11 : decode cX9_hears 11 = .ok (.invokestatic 84, 3) := by decide +kernel
theorem dX9_hears_14 : decode cX9_hears 14 = .ok (.ifCond .ne 5, 3) := by decide +kernel
theorem dX9_hears_17 : decode cX9_hears 17 = .ok (.iconst (-1), 1) := by decide +kernel
theorem dX9_hears_18 : decode cX9_hears 18 = .ok (.ireturn, 1) := by decide +kernel
theorem dX9_hears_19 : decode cX9_hears 19 = .ok (.aload_n 0, 1) := by decide +kernel
theorem dX9_hears_20 : decode cX9_hears 20 = .ok (.getfield 33, 3) := by decide +kernel
theorem dX9_hears_23 : decode cX9_hears 23 = .ok (.getfield 146, 3) := by decide +kernel
theorem dX9_hears_26 : decode cX9_hears 26 = .ok (.bipush 9, 2) := by decide +kernel
theorem dX9_hears_28 : decode cX9_hears 28 = .ok (.if_icmp .lt 6, 3) := by decide +kernel
theorem dX9_hears_31 : decode cX9_hears 31 = .ok (.bipush (-3), 2) := by decide +kernel
theorem dX9_hears_33 : decode cX9_hears 33 = .ok (.ireturn, 1) := by decide +kernel
theorem dX9_hears_34 : decode cX9_hears 34 = .ok (.aload_n 0, 1) := by decide +kernel
theorem dX9_hears_35 : decode cX9_hears 35 = .ok (.getfield 40, 3) := by decide +kernel
theorem dX9_hears_38 : decode cX9_hears 38 = .ok (.aload_n 0, 1) := by decide +kernel
theorem dX9_hears_39 : decode cX9_hears 39 = .ok (.getfield 33, 3) := by decide +kernel
theorem dX9_hears_42 : decode cX9_hears 42 = .ok (.invokevirtual 147, 3) := by decide +kernel
theorem dX9_hears_45 : decode cX9_hears 45 = .ok (.aload_n 0, 1) := by decide +kernel
theorem dX9_hears_46 : decode cX9_hears 46 = .ok (.getfield 33, 3) := by decide +kernel
theorem dX9_hears_49 : decode cX9_hears 49 = .ok (.iload_n 1, 1) := by decide +kernel
theorem dX9_hears_50 : decode cX9_hears 50 = .ok (.iload_n 2, 1) := by decide +kernel
theorem dX9_hears_51 : decode cX9_hears 51 = .ok (.invokevirtual 150, 3) := by decide +kernel
theorem dX9_hears_54 : decode cX9_hears 54 = .ok (.aload_n 0, 1) := by decide +kernel
theorem dX9_hears_55 : decode cX9_hears 55 = .ok (.getfield 33, 3) := by decide +kernel
theorem dX9_hears_58 : decode cX9_hears 58 = .ok (.getfield 146, 3) := by decide +kernel
theorem dX9_hears_61 : decode cX9_hears 61 = .ok (.iconst 1, 1) := by decide +kernel
theorem dX9_hears_62 : decode cX9_hears 62 = .ok (.isub, 1) := by decide +kernel
theorem dX9_hears_63 : decode cX9_hears 63 = .ok (.ireturn, 1) := by decide +kernel
theorem dX9_strikes_0 : decode cX9_strikes 0 = .ok (.aload_n 0, 1) := by decide +kernel
theorem dX9_strikes_1 : decode cX9_strikes 1 = .ok (.iload_n 1, 1) := by decide +kernel
theorem dX9_strikes_2 : decode cX9_strikes 2 = .ok (.invokevirtual 126, 3) := by decide +kernel
theorem dX9_strikes_5 : decode cX9_strikes 5 = .ok (.ifCond .ne 5, 3) := by decide +kernel
theorem dX9_strikes_8 : decode cX9_strikes 8 = .ok (.iconst (-1), 1) := by decide +kernel
theorem dX9_strikes_9 : decode cX9_strikes 9 = .ok (.ireturn, 1) := by decide +kernel
theorem dX9_strikes_10 : decode cX9_strikes 10 = .ok (.aload_n 0, 1) := by decide +kernel
theorem dX9_strikes_11 : decode cX9_strikes 11 = .ok (.getfield 40, 3) := by decide +kernel
theorem dX9_strikes_14 : decode cX9_strikes 14 = .ok (.aload_n 0, 1) := by decide +kernel
theorem dX9_strikes_15 : decode cX9_strikes 15 = .ok (.getfield 33, 3) := by decide +kernel
theorem dX9_strikes_18 : decode cX9_strikes 18 = .ok (.invokevirtual 147, 3) := by decide +kernel
theorem dX9_strikes_21 : decode cX9_strikes 21 = .ok (.aload_n 0, 1) := by decide +kernel
theorem dX9_strikes_22 : decode cX9_strikes 22 = .ok (.getfield 33, 3) := by decide +kernel
theorem dX9_strikes_25 : decode cX9_strikes 25 = .ok (.iload_n 1, 1) := by decide +kernel
theorem dX9_strikes_26 : decode cX9_strikes 26 = .ok (.invokevirtual 153, 3) := by decide +kernel
theorem dX9_strikes_29 : decode cX9_strikes 29 = .ok (.aload_n 0, 1) := by decide +kernel
theorem dX9_strikes_30 : decode cX9_strikes 30 = .ok (.getfield 33, 3) := by decide +kernel
theorem dX9_strikes_33 : decode cX9_strikes 33 = .ok (.getfield 146, 3) := by decide +kernel
theorem dX9_strikes_36 : decode cX9_strikes 36 = .ok (.ireturn, 1) := by decide +kernel
theorem dX9_sets_0 : decode cX9_sets 0 = .ok (.aload_n 0, 1) := by decide +kernel
theorem dX9_sets_1 : decode cX9_sets 1 = .ok (.iload_n 1, 1) := by decide +kernel
theorem dX9_sets_2 : decode cX9_sets 2 = .ok (.invokevirtual 113, 3) := by decide +kernel
theorem dX9_sets_5 : decode cX9_sets 5 = .ok (.ifCond .eq 11, 3) := by decide +kernel
theorem dX9_sets_8 : decode cX9_sets 8 = .ok (.iload_n 2, 1) := by decide +kernel
theorem dX9_sets_9 : decode cX9_sets 9 = .ok (.iconst 4, 1) := by decide +kernel
theorem dX9_sets_10 : decode cX9_sets 10 = .ok (.invokestatic 84, 3) := by decide +kernel
theorem dX9_sets_13 : decode cX9_sets 13 = .ok (.ifCond .ne 5, 3) := by decide +kernel
theorem dX9_sets_16 : decode cX9_sets 16 = .ok (.iconst (-1), 1) := by decide +kernel
theorem dX9_sets_17 : decode cX9_sets 17 = .ok (.ireturn, 1) := by decide +kernel
theorem dX9_sets_18 : decode cX9_sets 18 = .ok (.aload_n 0, 1) := by decide +kernel
theorem dX9_sets_19 : decode cX9_sets 19 = .ok (.getfield 33, 3) := by decide +kernel
theorem dX9_sets_22 : decode cX9_sets 22 = .ok (.getfield 123, 3) := by decide +kernel
theorem dX9_sets_25 : decode cX9_sets 25 = .ok (.iload_n 1, 1) := by decide +kernel
theorem dX9_sets_26 : decode cX9_sets 26 = .ok (.iaload, 1) := by decide +kernel
theorem dX9_sets_27 : decode cX9_sets 27 = .ok (.istore_n 3, 1) := by decide +kernel
theorem dX9_sets_28 : decode cX9_sets 28 = .ok (.iload_n 3, 1) := by decide +kernel
theorem dX9_sets_29 : decode cX9_sets 29 = .ok (.iload_n 2, 1) := by decide +kernel
theorem dX9_sets_30 : decode cX9_sets 30 = .ok (.if_icmp .ne 6, 3) := by decide +kernel
theorem dX9_sets_33 : decode cX9_sets 33 = .ok (.bipush (-2), 2) := by decide +kernel
theorem dX9_sets_35 : decode cX9_sets 35 = .ok (.ireturn, 1) := by decide +kernel
theorem dX9_sets_36 : decode cX9_sets 36 = .ok (.aload_n 0, 1) := by decide +kernel
theorem dX9_sets_37 : decode cX9_sets 37 = .ok (.getfield 40, 3) := by decide +kernel
theorem dX9_sets_40 : decode cX9_sets 40 = .ok (.aload_n 0, 1) := by decide +kernel
theorem dX9_sets_41 : decode cX9_sets 41 = .ok (.getfield 33, 3) := by decide +kernel
theorem dX9_sets_44 : decode cX9_sets 44 = .ok (.invokevirtual 147, 3) := by decide +kernel
theorem dX9_sets_47 : decode cX9_sets 47 = .ok (.aload_n 0, 1) := by decide +kernel
theorem dX9_sets_48 : decode cX9_sets 48 = .ok (.getfield 33, 3) := by decide +kernel
theorem dX9_sets_51 : decode cX9_sets 51 = .ok (.getfield 123, 3) := by decide +kernel
theorem dX9_sets_54 : decode cX9_sets 54 = .ok (.iload_n 1, 1) := by decide +kernel
theorem dX9_sets_55 : decode cX9_sets 55 = .ok (.iload_n 2, 1) := by decide +kernel
theorem dX9_sets_56 : decode cX9_sets 56 = .ok (.iastore, 1) := by decide +kernel
theorem dX9_sets_57 : decode cX9_sets 57 = .ok (.iload_n 3, 1) := by decide +kernel
theorem dX9_sets_58 : decode cX9_sets 58 = .ok (.ireturn, 1) := by decide +kernel
theorem dX9_undo_0 : decode cX9_undo 0 = .ok (.aload_n 0, 1) := by decide +kernel
theorem dX9_undo_1 : decode cX9_undo 1 = .ok (.getfield 40, 3) := by decide +kernel
theorem dX9_undo_4 : decode cX9_undo 4 = .ok (.getfield 109, 3) := by decide +kernel
theorem dX9_undo_7 : decode cX9_undo 7 = .ok (.ifCond .gt 6, 3) := by decide +kernel
theorem dX9_undo_10 : decode cX9_undo 10 = .ok (.bipush (-2), 2) := by decide +kernel
theorem dX9_undo_12 : decode cX9_undo 12 = .ok (.ireturn, 1) := by decide +kernel
theorem dX9_undo_13 : decode cX9_undo 13 = .ok (.aload_n 0, 1) := by decide +kernel
theorem dX9_undo_14 : decode cX9_undo 14 = .ok (.getfield 40, 3) := by decide +kernel
theorem dX9_undo_17 : decode cX9_undo 17 = .ok (.aload_n 0, 1) := by decide +kernel
theorem dX9_undo_18 : decode cX9_undo 18 = .ok (.getfield 33, 3) := by decide +kernel
theorem dX9_undo_21 : decode cX9_undo 21 = .ok (.invokevirtual 157, 3) := by decide +kernel
theorem dX9_undo_24 : decode cX9_undo 24 = .ok (.aload_n 0, 1) := by decide +kernel
theorem dX9_undo_25 : decode cX9_undo 25 = .ok (.getfield 40, 3) := by decide +kernel
theorem dX9_undo_28 : decode cX9_undo 28 = .ok (.getfield 109, 3) := by decide +kernel
theorem dX9_undo_31 : decode cX9_undo 31 = .ok (.ireturn, 1) := by decide +kernel
theorem dX9_group_0 : decode cX9_group 0 = .ok (.aload_n 0, 1) := by decide +kernel
theorem dX9_group_1 : decode cX9_group 1 = .ok (.invokevirtual 140, 3) := by decide +kernel
theorem dX9_group_4 : decode cX9_group 4 = .ok (.iload_n 1, 1) := by decide +kernel
theorem dX9_group_5 : decode cX9_group 5 = .ok (.aload_n 0, 1) := by decide +kernel
theorem dX9_group_6 : decode cX9_group 6 = .ok (.getfield 62, 3) := by decide +kernel
theorem dX9_group_9 : decode cX9_group 9 = .ok (.getfield 160, 3) := by decide +kernel
theorem dX9_group_12 : decode cX9_group 12 = .ok (.iconst 1, 1) := by decide +kernel
theorem dX9_group_13 : decode cX9_group 13 = .ok (.isub, 1) := by decide +kernel
theorem dX9_group_14 : decode cX9_group 14 = .ok (.invokestatic 84, 3) := by decide +kernel
theorem dX9_group_17 : decode cX9_group 17 = .ok (.ifCond .eq 12, 3) := by decide +kernel
theorem dX9_group_20 : decode cX9_group 20 = .ok (.iload_n 2, 1) := by decide +kernel
theorem dX9_group_21 : decode cX9_group 21 = .ok (.bipush 7, 2) := by decide +kernel
theorem dX9_group_23 : decode cX9_group 23 = .ok (.invokestatic 84, 3) := by decide +kernel
theorem dX9_group_26 : decode cX9_group 26 = .ok (.ifCond .ne 5, 3) := by decide +kernel
theorem dX9_group_29 : decode cX9_group 29 = .ok (.iconst (-1), 1) := by decide +kernel
theorem dX9_group_30 : decode cX9_group 30 = .ok (.ireturn, 1) := by decide +kernel
theorem dX9_group_31 : decode cX9_group 31 = .ok (.aload_n 0, 1) := by decide +kernel
theorem dX9_group_32 : decode cX9_group 32 = .ok (.getfield 62, 3) := by decide +kernel
theorem dX9_group_35 : decode cX9_group 35 = .ok (.getfield 161, 3) := by decide +kernel
theorem dX9_group_38 : decode cX9_group 38 = .ok (.iload_n 1, 1) := by decide +kernel
theorem dX9_group_39 : decode cX9_group 39 = .ok (.iaload, 1) := by decide +kernel
theorem dX9_group_40 : decode cX9_group 40 = .ok (.istore_n 3, 1) := by decide +kernel
theorem dX9_group_41 : decode cX9_group 41 = .ok (.iload_n 2, 1) := by decide +kernel
theorem dX9_group_42 : decode cX9_group 42 = .ok (.tableswitch 126 0 6 #[42, 44, 60, 69, 78, 94, 110], 42) := by decide +kernel
theorem dX9_group_84 : decode cX9_group 84 = .ok (.iload_n 3, 1) := by decide +kernel
theorem dX9_group_85 : decode cX9_group 85 = .ok (.ireturn, 1) := by decide +kernel
theorem dX9_group_86 : decode cX9_group 86 = .ok (.aload_n 0, 1) := by decide +kernel
theorem dX9_group_87 : decode cX9_group 87 = .ok (.getfield 71, 3) := by decide +kernel
theorem dX9_group_90 : decode cX9_group 90 = .ok (.iload_n 3, 1) := by decide +kernel
theorem dX9_group_91 : decode cX9_group 91 = .ok (.invokevirtual 164, 3) := by decide +kernel
theorem dX9_group_94 : decode cX9_group 94 = .ok (.aload_n 0, 1) := by decide +kernel
theorem dX9_group_95 : decode cX9_group 95 = .ok (.getfield 71, 3) := by decide +kernel
theorem dX9_group_98 : decode cX9_group 98 = .ok (.getfield 167, 3) := by decide +kernel
theorem dX9_group_101 : decode cX9_group 101 = .ok (.ireturn, 1) := by decide +kernel
theorem dX9_group_102 : decode cX9_group 102 = .ok (.aload_n 0, 1) := by decide +kernel
theorem dX9_group_103 : decode cX9_group 103 = .ok (.getfield 71, 3) := by decide +kernel
theorem dX9_group_106 : decode cX9_group 106 = .ok (.iload_n 3, 1) := by decide +kernel
theorem dX9_group_107 : decode cX9_group 107 = .ok (.invokevirtual 170, 3) := by decide +kernel
theorem dX9_group_110 : decode cX9_group 110 = .ok (.ireturn, 1) := by decide +kernel
theorem dX9_group_111 : decode cX9_group 111 = .ok (.aload_n 0, 1) := by decide +kernel
theorem dX9_group_112 : decode cX9_group 112 = .ok (.getfield 80, 3) := by decide +kernel
theorem dX9_group_115 : decode cX9_group 115 = .ok (.iload_n 3, 1) := by decide +kernel
theorem dX9_group_116 : decode cX9_group 116 = .ok (.invokevirtual 174, 3) := by decide +kernel
theorem dX9_group_119 : decode cX9_group 119 = .ok (.ireturn, 1) := by decide +kernel
theorem dX9_group_120 : decode cX9_group 120 = .ok (.aload_n 0, 1) := by decide +kernel
theorem dX9_group_121 : decode cX9_group 121 = .ok (.getfield 80, 3) := by decide +kernel
theorem dX9_group_124 : decode cX9_group 124 = .ok (.iload_n 3, 1) := by decide +kernel
theorem dX9_group_125 : decode cX9_group 125 = .ok (.invokevirtual 177, 3) := by decide +kernel
theorem dX9_group_128 : decode cX9_group 128 = .ok (.aload_n 0, 1) := by decide +kernel
theorem dX9_group_129 : decode cX9_group 129 = .ok (.getfield 80, 3) := by decide +kernel
theorem dX9_group_132 : decode cX9_group 132 = .ok (.getfield 180, 3) := by decide +kernel
theorem dX9_group_135 : decode cX9_group 135 = .ok (.ireturn, 1) := by decide +kernel
theorem dX9_group_136 : decode cX9_group 136 = .ok (.aload_n 0, 1) := by decide +kernel
theorem dX9_group_137 : decode cX9_group 137 = .ok (.getfield 80, 3) := by decide +kernel
theorem dX9_group_140 : decode cX9_group 140 = .ok (.iload_n 3, 1) := by decide +kernel
theorem dX9_group_141 : decode cX9_group 141 = .ok (.invokevirtual 177, 3) := by decide +kernel
theorem dX9_group_144 : decode cX9_group 144 = .ok (.aload_n 0, 1) := by decide +kernel
theorem dX9_group_145 : decode cX9_group 145 = .ok (.getfield 80, 3) := by decide +kernel
theorem dX9_group_148 : decode cX9_group 148 = .ok (.getfield 183, 3) := by decide +kernel
theorem dX9_group_151 : decode cX9_group 151 = .ok (.ireturn, 1) := by decide +kernel
theorem dX9_group_152 : decode cX9_group 152 = .ok (.aload_n 0, 1) := by decide +kernel
theorem dX9_group_153 : decode cX9_group 153 = .ok (.getfield 80, 3) := by decide +kernel
theorem dX9_group_156 : decode cX9_group 156 = .ok (.iload_n 3, 1) := by decide +kernel
theorem dX9_group_157 : decode cX9_group 157 = .ok (.invokevirtual 186, 3) := by decide +kernel
theorem dX9_group_160 : decode cX9_group 160 = .ok (.aload_n 0, 1) := by decide +kernel
theorem dX9_group_161 : decode cX9_group 161 = .ok (.getfield 80, 3) := by decide +kernel
theorem dX9_group_164 : decode cX9_group 164 = .ok (.getfield 189, 3) := by decide +kernel
theorem dX9_group_167 : decode cX9_group 167 = .ok (.ireturn, 1) := by decide +kernel
theorem dX9_group_168 : decode cX9_group 168 = .ok (.aload_n 0, 1) := by decide +kernel
theorem dX9_group_169 : decode cX9_group 169 = .ok (.getfield 80, 3) := by decide +kernel
theorem dX9_group_172 : decode cX9_group 172 = .ok (.iload_n 3, 1) := by decide +kernel
theorem dX9_group_173 : decode cX9_group 173 = .ok (.invokevirtual 186, 3) := by decide +kernel
theorem dX9_group_176 : decode cX9_group 176 = .ok (.aload_n 0, 1) := by decide +kernel
theorem dX9_group_177 : decode cX9_group 177 = .ok (.getfield 80, 3) := by decide +kernel
theorem dX9_group_180 : decode cX9_group 180 = .ok (.getfield 192, 3) := by decide +kernel
theorem dX9_group_183 : decode cX9_group 183 = .ok (.ireturn, 1) := by decide +kernel
theorem dX9_place_0 : decode cX9_place 0 = .ok (.aload_n 0, 1) := by decide +kernel
theorem dX9_place_1 : decode cX9_place 1 = .ok (.invokevirtual 140, 3) := by decide +kernel
theorem dX9_place_4 : decode cX9_place 4 = .ok (.iload_n 1, 1) := by decide +kernel
theorem dX9_place_5 : decode cX9_place 5 = .ok (.aload_n 0, 1) := by decide +kernel
theorem dX9_place_6 : decode cX9_place 6 = .ok (.getfield 62, 3) := by decide +kernel
theorem dX9_place_9 : decode cX9_place 9 = .ok (.getfield 160, 3) := by decide +kernel
theorem dX9_place_12 : decode cX9_place 12 = .ok (.iconst 1, 1) := by decide +kernel
theorem dX9_place_13 : decode cX9_place 13 = .ok (.isub, 1) := by decide +kernel
theorem dX9_place_14 : decode cX9_place 14 = .ok (.invokestatic 84, 3) := by decide +kernel
theorem dX9_place_17 : decode cX9_place 17 = .ok (.ifCond .eq 11, 3) := by decide +kernel
theorem dX9_place_20 : decode cX9_place 20 = .ok (.iload_n 2, 1) := by decide +kernel
theorem dX9_place_21 : decode cX9_place 21 = .ok (.iconst 5, 1) := by decide +kernel
theorem dX9_place_22 : decode cX9_place 22 = .ok (.invokestatic 84, 3) := by decide +kernel
theorem dX9_place_25 : decode cX9_place 25 = .ok (.ifCond .ne 6, 3) := by decide +kernel
theorem dX9_place_28 : decode cX9_place 28 = .ok (.ldc 129, 2) := by decide +kernel
theorem dX9_place_30 : decode cX9_place 30 = .ok (.ireturn, 1) := by decide +kernel
theorem dX9_place_31 : decode cX9_place 31 = .ok (.aload_n 0, 1) := by decide +kernel
theorem dX9_place_32 : decode cX9_place 32 = .ok (.getfield 71, 3) := by decide +kernel
theorem dX9_place_35 : decode cX9_place 35 = .ok (.aload_n 0, 1) := by decide +kernel
theorem dX9_place_36 : decode cX9_place 36 = .ok (.getfield 62, 3) := by decide +kernel
theorem dX9_place_39 : decode cX9_place 39 = .ok (.getfield 161, 3) := by decide +kernel
theorem dX9_place_42 : decode cX9_place 42 = .ok (.iload_n 1, 1) := by decide +kernel
theorem dX9_place_43 : decode cX9_place 43 = .ok (.iaload, 1) := by decide +kernel
theorem dX9_place_44 : decode cX9_place 44 = .ok (.invokevirtual 170, 3) := by decide +kernel
theorem dX9_place_47 : decode cX9_place 47 = .ok (.ifCond .eq 6, 3) := by decide +kernel
theorem dX9_place_50 : decode cX9_place 50 = .ok (.ldc 129, 2) := by decide +kernel
theorem dX9_place_52 : decode cX9_place 52 = .ok (.ireturn, 1) := by decide +kernel
theorem dX9_place_53 : decode cX9_place 53 = .ok (.iload_n 2, 1) := by decide +kernel
theorem dX9_place_54 : decode cX9_place 54 = .ok (.tableswitch 124 0 4 #[34, 52, 70, 88, 106], 34) := by decide +kernel
theorem dX9_place_88 : decode cX9_place 88 = .ok (.aload_n 0, 1) := by decide +kernel
theorem dX9_place_89 : decode cX9_place 89 = .ok (.getfield 71, 3) := by decide +kernel
theorem dX9_place_92 : decode cX9_place 92 = .ok (.getfield 195, 3) := by decide +kernel
theorem dX9_place_95 : decode cX9_place 95 = .ok (.aload_n 0, 1) := by decide +kernel
theorem dX9_place_96 : decode cX9_place 96 = .ok (.getfield 71, 3) := by decide +kernel
theorem dX9_place_99 : decode cX9_place 99 = .ok (.getfield 198, 3) := by decide +kernel
theorem dX9_place_102 : decode cX9_place 102 = .ok (.invokestatic 201, 3) := by decide +kernel
theorem dX9_place_105 : decode cX9_place 105 = .ok (.ireturn, 1) := by decide +kernel
theorem dX9_place_106 : decode cX9_place 106 = .ok (.aload_n 0, 1) := by decide +kernel
theorem dX9_place_107 : decode cX9_place 107 = .ok (.getfield 71, 3) := by decide +kernel
theorem dX9_place_110 : decode cX9_place 110 = .ok (.getfield 195, 3) := by decide +kernel
theorem dX9_place_113 : decode cX9_place 113 = .ok (.aload_n 0, 1) := by decide +kernel
theorem dX9_place_114 : decode cX9_place 114 = .ok (.getfield 71, 3) := by decide +kernel
theorem dX9_place_117 : decode cX9_place 117 = .ok (.getfield 198, 3) := by decide +kernel
theorem dX9_place_120 : decode cX9_place 120 = .ok (.invokestatic 205, 3) := by decide +kernel
theorem dX9_place_123 : decode cX9_place 123 = .ok (.ireturn, 1) := by decide +kernel
theorem dX9_place_124 : decode cX9_place 124 = .ok (.aload_n 0, 1) := by decide +kernel
theorem dX9_place_125 : decode cX9_place 125 = .ok (.getfield 71, 3) := by decide +kernel
theorem dX9_place_128 : decode cX9_place 128 = .ok (.getfield 207, 3) := by decide +kernel
theorem dX9_place_131 : decode cX9_place 131 = .ok (.aload_n 0, 1) := by decide +kernel
theorem dX9_place_132 : decode cX9_place 132 = .ok (.getfield 71, 3) := by decide +kernel
theorem dX9_place_135 : decode cX9_place 135 = .ok (.getfield 198, 3) := by decide +kernel
theorem dX9_place_138 : decode cX9_place 138 = .ok (.invokestatic 201, 3) := by decide +kernel
theorem dX9_place_141 : decode cX9_place 141 = .ok (.ireturn, 1) := by decide +kernel
theorem dX9_place_142 : decode cX9_place 142 = .ok (.aload_n 0, 1) := by decide +kernel
theorem dX9_place_143 : decode cX9_place 143 = .ok (.getfield 71, 3) := by decide +kernel
theorem dX9_place_146 : decode cX9_place 146 = .ok (.getfield 207, 3) := by decide +kernel
theorem dX9_place_149 : decode cX9_place 149 = .ok (.aload_n 0, 1) := by decide +kernel
theorem dX9_place_150 : decode cX9_place 150 = .ok (.getfield 71, 3) := by decide +kernel
theorem dX9_place_153 : decode cX9_place 153 = .ok (.getfield 198, 3) := by decide +kernel
theorem dX9_place_156 : decode cX9_place 156 = .ok (.invokestatic 205, 3) := by decide +kernel
theorem dX9_place_159 : decode cX9_place 159 = .ok (.ireturn, 1) := by decide +kernel
theorem dX9_place_160 : decode cX9_place 160 = .ok (.aload_n 0, 1) := by decide +kernel
theorem dX9_place_161 : decode cX9_place 161 = .ok (.getfield 71, 3) := by decide +kernel
theorem dX9_place_164 : decode cX9_place 164 = .ok (.getfield 209, 3) := by decide +kernel
theorem dX9_place_167 : decode cX9_place 167 = .ok (.aload_n 0, 1) := by decide +kernel
theorem dX9_place_168 : decode cX9_place 168 = .ok (.getfield 71, 3) := by decide +kernel
theorem dX9_place_171 : decode cX9_place 171 = .ok (.getfield 198, 3) := by decide +kernel
theorem dX9_place_174 : decode cX9_place 174 = .ok (.invokestatic 201, 3) := by decide +kernel
theorem dX9_place_177 : decode cX9_place 177 = .ok (.ireturn, 1) := by decide +kernel
theorem dX9_place_178 : decode cX9_place 178 = .ok (.aload_n 0, 1) := by decide +kernel
theorem dX9_place_179 : decode cX9_place 179 = .ok (.getfield 71, 3) := by decide +kernel
theorem dX9_place_182 : decode cX9_place 182 = .ok (.getfield 209, 3) := by decide +kernel
theorem dX9_place_185 : decode cX9_place 185 = .ok (.aload_n 0, 1) := by decide +kernel
theorem dX9_place_186 : decode cX9_place 186 = .ok (.getfield 71, 3) := by decide +kernel
theorem dX9_place_189 : decode cX9_place 189 = .ok (.getfield 198, 3) := by decide +kernel
theorem dX9_place_192 : decode cX9_place 192 = .ok (.invokestatic 205, 3) := by decide +kernel
theorem dX9_place_195 : decode cX9_place 195 = .ok (.ireturn, 1) := by decide +kernel
theorem dX9_verdict_0 : decode cX9_verdict 0 = .ok (.iload_n 1, 1) := by decide +kernel
theorem dX9_verdict_1 : decode cX9_verdict 1 = .ok (.iconst 1, 1) := by decide +kernel
theorem dX9_verdict_2 : decode cX9_verdict 2 = .ok (.if_icmp .lt 16, 3) := by decide +kernel
theorem dX9_verdict_5 : decode cX9_verdict 5 = .ok (.iload_n 1, 1) := by decide +kernel
theorem dX9_verdict_6 : decode cX9_verdict 6 = .ok (.iconst 1, 1) := by decide +kernel
theorem dX9_verdict_7 : decode cX9_verdict 7 = .ok (.aload_n 0, 1) := by decide +kernel
theorem dX9_verdict_8 : decode cX9_verdict 8 = .ok (.getfield 33, 3) := by decide +kernel
theorem dX9_verdict_11 : decode cX9_verdict 11 = .ok (.getfield 146, 3) := by decide +kernel
theorem dX9_verdict_14 : decode cX9_verdict 14 = .ok (.ishl, 1) := by decide +kernel
theorem dX9_verdict_15 : decode cX9_verdict 15 = .ok (.if_icmp .lt 5, 3) := by decide +kernel
theorem dX9_verdict_18 : decode cX9_verdict 18 = .ok (.iconst (-1), 1) := by decide +kernel
theorem dX9_verdict_19 : decode cX9_verdict 19 = .ok (.ireturn, 1) := by decide +kernel
theorem dX9_verdict_20 : decode cX9_verdict 20 = .ok (.aload_n 0, 1) := by decide +kernel
theorem dX9_verdict_21 : decode cX9_verdict 21 = .ok (.getfield 55, 3) := by decide +kernel
theorem dX9_verdict_24 : decode cX9_verdict 24 = .ok (.aload_n 0, 1) := by decide +kernel
theorem dX9_verdict_25 : decode cX9_verdict 25 = .ok (.getfield 26, 3) := by decide +kernel
theorem dX9_verdict_28 : decode cX9_verdict 28 = .ok (.aload_n 0, 1) := by decide +kernel
theorem dX9_verdict_29 : decode cX9_verdict 29 = .ok (.getfield 33, 3) := by decide +kernel
theorem dX9_verdict_32 : decode cX9_verdict 32 = .ok (.invokevirtual 212, 3) := by decide +kernel
theorem dX9_verdict_35 : decode cX9_verdict 35 = .ok (.aload_n 0, 1) := by decide +kernel
theorem dX9_verdict_36 : decode cX9_verdict 36 = .ok (.getfield 71, 3) := by decide +kernel
theorem dX9_verdict_39 : decode cX9_verdict 39 = .ok (.iload_n 1, 1) := by decide +kernel
theorem dX9_verdict_40 : decode cX9_verdict 40 = .ok (.invokevirtual 170, 3) := by decide +kernel
theorem dX9_verdict_43 : decode cX9_verdict 43 = .ok (.ireturn, 1) := by decide +kernel
theorem dX9_due_0 : decode cX9_due 0 = .ok (.aload_n 0, 1) := by decide +kernel
theorem dX9_due_1 : decode cX9_due 1 = .ok (.iload_n 1, 1) := by decide +kernel
theorem dX9_due_2 : decode cX9_due 2 = .ok (.invokevirtual 113, 3) := by decide +kernel
theorem dX9_due_5 : decode cX9_due 5 = .ok (.ifCond .eq 21, 3) := by decide +kernel
theorem dX9_due_8 : decode cX9_due 8 = .ok (.iload_n 2, 1) := by decide +kernel
theorem dX9_due_9 : decode cX9_due 9 = .ok (.bipush 29, 2) := by decide +kernel
theorem dX9_due_11 : decode cX9_due 11 = .ok (.invokestatic 84, 3) := by decide +kernel
theorem dX9_due_14 : decode cX9_due 14 = .ok (.ifCond .eq 12, 3) := by decide +kernel
theorem dX9_due_17 : decode cX9_due 17 = .ok (.iload_n 3, 1) := by decide +kernel
theorem dX9_due_18 : decode cX9_due 18 = .ok (.bipush 29, 2) := by decide +kernel
theorem dX9_due_20 : decode cX9_due 20 = .ok (.invokestatic 84, 3) := by decide +kernel
theorem dX9_due_23 : decode cX9_due 23 = .ok (.ifCond .ne 5, 3) := by decide +kernel
theorem dX9_due_26 : decode cX9_due 26 = .ok (.iconst (-1), 1) := by decide +kernel
theorem dX9_due_27 : decode cX9_due 27 = .ok (.ireturn, 1) := by decide +kernel
theorem dX9_due_28 : decode cX9_due 28 = .ok (.iload 4, 2) := by decide +kernel
theorem dX9_due_30 : decode cX9_due 30 = .ok (.bipush 60, 2) := by decide +kernel
theorem dX9_due_32 : decode cX9_due 32 = .ok (.invokestatic 84, 3) := by decide +kernel
theorem dX9_due_35 : decode cX9_due 35 = .ok (.ifCond .eq 12, 3) := by decide +kernel
theorem dX9_due_38 : decode cX9_due 38 = .ok (.iload 5, 2) := by decide +kernel
theorem dX9_due_40 : decode cX9_due 40 = .ok (.iconst 1, 1) := by decide +kernel
theorem dX9_due_41 : decode cX9_due 41 = .ok (.invokestatic 84, 3) := by decide +kernel
theorem dX9_due_44 : decode cX9_due 44 = .ok (.ifCond .ne 5, 3) := by decide +kernel
theorem dX9_due_47 : decode cX9_due 47 = .ok (.iconst (-1), 1) := by decide +kernel
theorem dX9_due_48 : decode cX9_due 48 = .ok (.ireturn, 1) := by decide +kernel
theorem dX9_due_49 : decode cX9_due 49 = .ok (.iload_n 2, 1) := by decide +kernel
theorem dX9_due_50 : decode cX9_due 50 = .ok (.aload_n 0, 1) := by decide +kernel
theorem dX9_due_51 : decode cX9_due 51 = .ok (.getfield 26, 3) := by decide +kernel
theorem dX9_due_54 : decode cX9_due 54 = .ok (.getfield 116, 3) := by decide +kernel
theorem dX9_due_57 : decode cX9_due 57 = .ok (.iload_n 1, 1) := by decide +kernel
theorem dX9_due_58 : decode cX9_due 58 = .ok (.iaload, 1) := by decide +kernel
theorem dX9_due_59 : decode cX9_due 59 = .ok (.isub, 1) := by decide +kernel
theorem dX9_due_60 : decode cX9_due 60 = .ok (.iload_n 3, 1) := by decide +kernel
theorem dX9_due_61 : decode cX9_due 61 = .ok (.aload_n 0, 1) := by decide +kernel
theorem dX9_due_62 : decode cX9_due 62 = .ok (.getfield 26, 3) := by decide +kernel
theorem dX9_due_65 : decode cX9_due 65 = .ok (.getfield 120, 3) := by decide +kernel
theorem dX9_due_68 : decode cX9_due 68 = .ok (.iload_n 1, 1) := by decide +kernel
theorem dX9_due_69 : decode cX9_due 69 = .ok (.iaload, 1) := by decide +kernel
theorem dX9_due_70 : decode cX9_due 70 = .ok (.isub, 1) := by decide +kernel
theorem dX9_due_71 : decode cX9_due 71 = .ok (.invokestatic 216, 3) := by decide +kernel
theorem dX9_due_74 : decode cX9_due 74 = .ok (.istore 6, 2) := by decide +kernel
theorem dX9_due_76 : decode cX9_due 76 = .ok (.iload 6, 2) := by decide +kernel
theorem dX9_due_78 : decode cX9_due 78 = .ok (.ifCond .ge 6, 3) := by decide +kernel
theorem dX9_due_81 : decode cX9_due 81 = .ok (.bipush (-9), 2) := by decide +kernel
theorem dX9_due_83 : decode cX9_due 83 = .ok (.ireturn, 1) := by decide +kernel
theorem dX9_due_84 : decode cX9_due 84 = .ok (.iload 5, 2) := by decide +kernel
theorem dX9_due_86 : decode cX9_due 86 = .ok (.ifCond .ne 9, 3) := by decide +kernel
theorem dX9_due_89 : decode cX9_due 89 = .ok (.iload 4, 2) := by decide +kernel
theorem dX9_due_91 : decode cX9_due 91 = .ok (.iload 6, 2) := by decide +kernel
theorem dX9_due_93 : decode cX9_due 93 = .ok (.iadd, 1) := by decide +kernel
theorem dX9_due_94 : decode cX9_due 94 = .ok (.ireturn, 1) := by decide +kernel
theorem dX9_due_95 : decode cX9_due 95 = .ok (.aload_n 0, 1) := by decide +kernel
theorem dX9_due_96 : decode cX9_due 96 = .ok (.getfield 33, 3) := by decide +kernel
theorem dX9_due_99 : decode cX9_due 99 = .ok (.getfield 123, 3) := by decide +kernel
theorem dX9_due_102 : decode cX9_due 102 = .ok (.iload_n 1, 1) := by decide +kernel
theorem dX9_due_103 : decode cX9_due 103 = .ok (.iaload, 1) := by decide +kernel
theorem dX9_due_104 : decode cX9_due 104 = .ok (.iload 4, 2) := by decide +kernel
theorem dX9_due_106 : decode cX9_due 106 = .ok (.iload 6, 2) := by decide +kernel
theorem dX9_due_108 : decode cX9_due 108 = .ok (.iadd, 1) := by decide +kernel
theorem dX9_due_109 : decode cX9_due 109 = .ok (.invokestatic 219, 3) := by decide +kernel
theorem dX9_due_112 : decode cX9_due 112 = .ok (.istore 7, 2) := by decide +kernel
theorem dX9_due_114 : decode cX9_due 114 = .ok (.iload 7, 2) := by decide +kernel
theorem dX9_due_116 : decode cX9_due 116 = .ok (.bipush 60, 2) := by decide +kernel
theorem dX9_due_118 : decode cX9_due 118 = .ok (.invokestatic 84, 3) := by decide +kernel
theorem dX9_due_121 : decode cX9_due 121 = .ok (.ifCond .eq 8, 3) := by decide +kernel
theorem dX9_due_124 : decode cX9_due 124 = .ok (.iload 7, 2) := by decide +kernel
theorem dX9_due_126 : decode cX9_due 126 = .ok (.goto 5, 3) := by decide +kernel
theorem dX9_due_129 : decode cX9_due 129 = .ok (.bipush (-9), 2) := by decide +kernel
theorem dX9_due_131 : decode cX9_due 131 = .ok (.ireturn, 1) := by decide +kernel
theorem dX9_odds_0 : decode cX9_odds 0 = .ok (.aload_n 0, 1) := by decide +kernel
theorem dX9_odds_1 : decode cX9_odds 1 = .ok (.invokevirtual 140, 3) := by decide +kernel
theorem dX9_odds_4 : decode cX9_odds 4 = .ok (.iload_n 1, 1) := by decide +kernel
theorem dX9_odds_5 : decode cX9_odds 5 = .ok (.aload_n 0, 1) := by decide +kernel
theorem dX9_odds_6 : decode cX9_odds 6 = .ok (.getfield 62, 3) := by decide +kernel
theorem dX9_odds_9 : decode cX9_odds 9 = .ok (.getfield 160, 3) := by decide +kernel
theorem dX9_odds_12 : decode cX9_odds 12 = .ok (.iconst 1, 1) := by decide +kernel
theorem dX9_odds_13 : decode cX9_odds 13 = .ok (.isub, 1) := by decide +kernel
theorem dX9_odds_14 : decode cX9_odds 14 = .ok (.invokestatic 84, 3) := by decide +kernel
theorem dX9_odds_17 : decode cX9_odds 17 = .ok (.ifCond .eq 20, 3) := by decide +kernel
theorem dX9_odds_20 : decode cX9_odds 20 = .ok (.iload_n 2, 1) := by decide +kernel
theorem dX9_odds_21 : decode cX9_odds 21 = .ok (.bipush 10, 2) := by decide +kernel
theorem dX9_odds_23 : decode cX9_odds 23 = .ok (.invokestatic 84, 3) := by decide +kernel
theorem dX9_odds_26 : decode cX9_odds 26 = .ok (.ifCond .eq 11, 3) := by decide +kernel
theorem dX9_odds_29 : decode cX9_odds 29 = .ok (.iload_n 3, 1) := by decide +kernel
theorem dX9_odds_30 : decode cX9_odds 30 = .ok (.iconst 1, 1) := by decide +kernel
theorem dX9_odds_31 : decode cX9_odds 31 = .ok (.invokestatic 84, 3) := by decide +kernel
theorem dX9_odds_34 : decode cX9_odds 34 = .ok (.ifCond .ne 5, 3) := by decide +kernel
theorem dX9_odds_37 : decode cX9_odds 37 = .ok (.iconst (-1), 1) := by decide +kernel
theorem dX9_odds_38 : decode cX9_odds 38 = .ok (.ireturn, 1) := by decide +kernel
theorem dX9_odds_39 : decode cX9_odds 39 = .ok (.aload_n 0, 1) := by decide +kernel
theorem dX9_odds_40 : decode cX9_odds 40 = .ok (.getfield 62, 3) := by decide +kernel
theorem dX9_odds_43 : decode cX9_odds 43 = .ok (.getfield 161, 3) := by decide +kernel
theorem dX9_odds_46 : decode cX9_odds 46 = .ok (.iload_n 1, 1) := by decide +kernel
theorem dX9_odds_47 : decode cX9_odds 47 = .ok (.iaload, 1) := by decide +kernel
theorem dX9_odds_48 : decode cX9_odds 48 = .ok (.istore 4, 2) := by decide +kernel
theorem dX9_odds_50 : decode cX9_odds 50 = .ok (.bipush 10, 2) := by decide +kernel
theorem dX9_odds_52 : decode cX9_odds 52 = .ok (.iload 4, 2) := by decide +kernel
theorem dX9_odds_54 : decode cX9_odds 54 = .ok (.invokestatic 222, 3) := by decide +kernel
theorem dX9_odds_57 : decode cX9_odds 57 = .ok (.invokestatic 227, 3) := by decide +kernel
theorem dX9_odds_60 : decode cX9_odds 60 = .ok (.lstore 5, 2) := by decide +kernel
theorem dX9_odds_62 : decode cX9_odds 62 = .ok (.aload_n 0, 1) := by decide +kernel
theorem dX9_odds_63 : decode cX9_odds 63 = .ok (.getfield 80, 3) := by decide +kernel
theorem dX9_odds_66 : decode cX9_odds 66 = .ok (.iload 4, 2) := by decide +kernel
theorem dX9_odds_68 : decode cX9_odds 68 = .ok (.iload_n 2, 1) := by decide +kernel
theorem dX9_odds_69 : decode cX9_odds 69 = .ok (.invokevirtual 231, 3) := by decide +kernel
theorem dX9_odds_72 : decode cX9_odds 72 = .ok (.lstore 7, 2) := by decide +kernel
theorem dX9_odds_74 : decode cX9_odds 74 = .ok (.iload_n 3, 1) := by decide +kernel
theorem dX9_odds_75 : decode cX9_odds 75 = .ok (.ifCond .ne 13, 3) := by decide +kernel
theorem dX9_odds_78 : decode cX9_odds 78 = .ok (.lload 7, 2) := by decide +kernel
theorem dX9_odds_80 : decode cX9_odds 80 = .ok (.lload 5, 2) := by decide +kernel
theorem dX9_odds_82 : decode cX9_odds 82 = .ok (.invokestatic 201, 3) := by decide +kernel
theorem dX9_odds_85 : decode cX9_odds 85 = .ok (.goto 10, 3) := by decide +kernel
theorem dX9_odds_88 : decode cX9_odds 88 = .ok (.lload 7, 2) := by decide +kernel
theorem dX9_odds_90 : decode cX9_odds 90 = .ok (.lload 5, 2) := by decide +kernel
theorem dX9_odds_92 : decode cX9_odds 92 = .ok (.invokestatic 205, 3) := by decide +kernel
theorem dX9_odds_95 : decode cX9_odds 95 = .ok (.ireturn, 1) := by decide +kernel
theorem dX9_keep_0 : decode cX9_keep 0 = .ok (.iload_n 1, 1) := by decide +kernel
theorem dX9_keep_1 : decode cX9_keep 1 = .ok (.iconst 1, 1) := by decide +kernel
theorem dX9_keep_2 : decode cX9_keep 2 = .ok (.invokestatic 84, 3) := by decide +kernel
theorem dX9_keep_5 : decode cX9_keep 5 = .ok (.ifCond .ne 5, 3) := by decide +kernel
theorem dX9_keep_8 : decode cX9_keep 8 = .ok (.iconst (-1), 1) := by decide +kernel
theorem dX9_keep_9 : decode cX9_keep 9 = .ok (.ireturn, 1) := by decide +kernel
theorem dX9_keep_10 : decode cX9_keep 10 = .ok (.aload_n 0, 1) := by decide +kernel
theorem dX9_keep_11 : decode cX9_keep 11 = .ok (.getfield 44, 3) := by decide +kernel
theorem dX9_keep_14 : decode cX9_keep 14 = .ok (.iload_n 1, 1) := by decide +kernel
theorem dX9_keep_15 : decode cX9_keep 15 = .ok (.aaload, 1) := by decide +kernel
theorem dX9_keep_16 : decode cX9_keep 16 = .ok (.aload_n 0, 1) := by decide +kernel
theorem dX9_keep_17 : decode cX9_keep 17 = .ok (.getfield 33, 3) := by decide +kernel
theorem dX9_keep_20 : decode cX9_keep 20 = .ok (.invokevirtual 106, 3) := by decide +kernel
theorem dX9_keep_23 : decode cX9_keep 23 = .ok (.aload_n 0, 1) := by decide +kernel
theorem dX9_keep_24 : decode cX9_keep 24 = .ok (.getfield 48, 3) := by decide +kernel
theorem dX9_keep_27 : decode cX9_keep 27 = .ok (.iload_n 1, 1) := by decide +kernel
theorem dX9_keep_28 : decode cX9_keep 28 = .ok (.iconst 1, 1) := by decide +kernel
theorem dX9_keep_29 : decode cX9_keep 29 = .ok (.bastore, 1) := by decide +kernel
theorem dX9_keep_30 : decode cX9_keep 30 = .ok (.aload_n 0, 1) := by decide +kernel
theorem dX9_keep_31 : decode cX9_keep 31 = .ok (.getfield 33, 3) := by decide +kernel
theorem dX9_keep_34 : decode cX9_keep 34 = .ok (.getfield 146, 3) := by decide +kernel
theorem dX9_keep_37 : decode cX9_keep 37 = .ok (.ireturn, 1) := by decide +kernel
theorem dX9_back_0 : decode cX9_back 0 = .ok (.iload_n 1, 1) := by decide +kernel
theorem dX9_back_1 : decode cX9_back 1 = .ok (.iconst 1, 1) := by decide +kernel
theorem dX9_back_2 : decode cX9_back 2 = .ok (.invokestatic 84, 3) := by decide +kernel
theorem dX9_back_5 : decode cX9_back 5 = .ok (.ifCond .ne 5, 3) := by decide +kernel
theorem dX9_back_8 : decode cX9_back 8 = .ok (.iconst (-1), 1) := by decide +kernel
theorem dX9_back_9 : decode cX9_back 9 = .ok (.ireturn, 1) := by decide +kernel
theorem dX9_back_10 : decode cX9_back 10 = .ok (.aload_n 0, 1) := by decide +kernel
theorem dX9_back_11 : decode cX9_back 11 = .ok (.getfield 48, 3) := by decide +kernel
theorem dX9_back_14 : decode cX9_back 14 = .ok (.iload_n 1, 1) := by decide +kernel
theorem dX9_back_15 : decode cX9_back 15 = .ok (.baload, 1) := by decide +kernel
theorem dX9_back_16 : decode cX9_back 16 = .ok (.ifCond .ne 6, 3) := by decide +kernel
theorem dX9_back_19 : decode cX9_back 19 = .ok (.bipush (-2), 2) := by decide +kernel
theorem dX9_back_21 : decode cX9_back 21 = .ok (.ireturn, 1) := by decide +kernel
theorem dX9_back_22 : decode cX9_back 22 = .ok (.aload_n 0, 1) := by decide +kernel
theorem dX9_back_23 : decode cX9_back 23 = .ok (.getfield 33, 3) := by decide +kernel
theorem dX9_back_26 : decode cX9_back 26 = .ok (.aload_n 0, 1) := by decide +kernel
theorem dX9_back_27 : decode cX9_back 27 = .ok (.getfield 44, 3) := by decide +kernel
theorem dX9_back_30 : decode cX9_back 30 = .ok (.iload_n 1, 1) := by decide +kernel
theorem dX9_back_31 : decode cX9_back 31 = .ok (.aaload, 1) := by decide +kernel
theorem dX9_back_32 : decode cX9_back 32 = .ok (.invokevirtual 106, 3) := by decide +kernel
theorem dX9_back_35 : decode cX9_back 35 = .ok (.aload_n 0, 1) := by decide +kernel
theorem dX9_back_36 : decode cX9_back 36 = .ok (.getfield 40, 3) := by decide +kernel
theorem dX9_back_39 : decode cX9_back 39 = .ok (.iconst 0, 1) := by decide +kernel
theorem dX9_back_40 : decode cX9_back 40 = .ok (.putfield 109, 3) := by decide +kernel
theorem dX9_back_43 : decode cX9_back 43 = .ok (.aload_n 0, 1) := by decide +kernel
theorem dX9_back_44 : decode cX9_back 44 = .ok (.getfield 33, 3) := by decide +kernel
theorem dX9_back_47 : decode cX9_back 47 = .ok (.getfield 146, 3) := by decide +kernel
theorem dX9_back_50 : decode cX9_back 50 = .ok (.ireturn, 1) := by decide +kernel
theorem dX9_count_0 : decode cX9_count 0 = .ok (.iload_n 1, 1) := by decide +kernel
theorem dX9_count_1 : decode cX9_count 1 = .ok (.tableswitch 88 0 5 #[39, 47, 55, 67, 72, 80], 39) := by decide +kernel
theorem dX9_count_40 : decode cX9_count 40 = .ok (.aload_n 0, 1) := by decide +kernel
theorem dX9_count_41 : decode cX9_count 41 = .ok (.getfield 26, 3) := by decide +kernel
theorem dX9_count_44 : decode cX9_count 44 = .ok (.getfield 234, 3) := by decide +kernel
theorem dX9_count_47 : decode cX9_count 47 = .ok (.ireturn, 1) := by decide +kernel
theorem dX9_count_48 : decode cX9_count 48 = .ok (.aload_n 0, 1) := by decide +kernel
theorem dX9_count_49 : decode cX9_count 49 = .ok (.getfield 33, 3) := by decide +kernel
theorem dX9_count_52 : decode cX9_count 52 = .ok (.getfield 146, 3) := by decide +kernel
theorem dX9_count_55 : decode cX9_count 55 = .ok (.ireturn, 1) := by decide +kernel
theorem dX9_count_56 : decode cX9_count 56 = .ok (.aload_n 0, 1) := by decide +kernel
theorem dX9_count_57 : decode cX9_count 57 = .ok (.invokevirtual 140, 3) := by decide +kernel
theorem dX9_count_60 : decode cX9_count 60 = .ok (.aload_n 0, 1) := by decide +kernel
theorem dX9_count_61 : decode cX9_count 61 = .ok (.getfield 62, 3) := by decide +kernel
theorem dX9_count_64 : decode cX9_count 64 = .ok (.getfield 160, 3) := by decide +kernel
theorem dX9_count_67 : decode cX9_count 67 = .ok (.ireturn, 1) := by decide +kernel
theorem dX9_count_68 : decode cX9_count 68 = .ok (.aload_n 0, 1) := by decide +kernel
theorem dX9_count_69 : decode cX9_count 69 = .ok (.invokevirtual 235, 3) := by decide +kernel
theorem dX9_count_72 : decode cX9_count 72 = .ok (.ireturn, 1) := by decide +kernel
theorem dX9_count_73 : decode cX9_count 73 = .ok (.aload_n 0, 1) := by decide +kernel
theorem dX9_count_74 : decode cX9_count 74 = .ok (.getfield 12, 3) := by decide +kernel
theorem dX9_count_77 : decode cX9_count 77 = .ok (.getfield 92, 3) := by decide +kernel
theorem dX9_count_80 : decode cX9_count 80 = .ok (.ireturn, 1) := by decide +kernel
theorem dX9_count_81 : decode cX9_count 81 = .ok (.aload_n 0, 1) := by decide +kernel
theorem dX9_count_82 : decode cX9_count 82 = .ok (.getfield 40, 3) := by decide +kernel
theorem dX9_count_85 : decode cX9_count 85 = .ok (.getfield 109, 3) := by decide +kernel
theorem dX9_count_88 : decode cX9_count 88 = .ok (.ireturn, 1) := by decide +kernel
