theorem dX3_init_0 : decode cX3_init 0 = .ok (.aload_n 0, 1) := by decide +kernel
theorem dX3_init_1 : decode cX3_init 1 = .ok (.invokespecial 3, 3) := by decide +kernel
theorem dX3_init_4 : decode cX3_init 4 = .ok (.aload_n 0, 1) := by decide +kernel
theorem dX3_init_5 : decode cX3_init 5 = .ok (.new 9, 3) := by decide +kernel
theorem dX3_init_8 : decode cX3_init 8 = .ok (.dup, 1) := by decide +kernel
theorem dX3_init_9 : decode cX3_init 9 = .ok (.invokespecial 11, 3) := by decide +kernel
theorem dX3_init_12 : decode cX3_init 12 = .ok (.putfield 12, 3) := by decide +kernel
theorem dX3_init_15 : decode cX3_init 15 = .ok (.aload_n 0, 1) := by decide +kernel
theorem dX3_init_16 : decode cX3_init 16 = .ok (.new 18, 3) := by decide +kernel
theorem dX3_init_19 : decode cX3_init 19 = .ok (.dup, 1) := by decide +kernel
theorem dX3_init_20 : decode cX3_init 20 = .ok (.invokespecial 20, 3) := by decide +kernel
theorem dX3_init_23 : decode cX3_init 23 = .ok (.putfield 21, 3) := by decide +kernel
theorem dX3_init_26 : decode cX3_init 26 = .ok (.return_, 1) := by decide +kernel
theorem dX3_parse_0 : decode cX3_parse 0 = .ok (.aload_n 0, 1) := by decide +kernel
theorem dX3_parse_1 : decode cX3_parse 1 = .ok (.getfield 12, 3) := by decide +kernel
theorem dX3_parse_4 : decode cX3_parse 4 = .ok (.iconst 0, 1) := by decide +kernel
theorem dX3_parse_5 : decode cX3_parse 5 = .ok (.putfield 25, 3) := by decide +kernel
theorem dX3_parse_8 : decode cX3_parse 8 = .ok (.aload_n 0, 1) := by decide +kernel
theorem dX3_parse_9 : decode cX3_parse 9 = .ok (.getfield 21, 3) := by decide +kernel
theorem dX3_parse_12 : decode cX3_parse 12 = .ok (.iconst 0, 1) := by decide +kernel
theorem dX3_parse_13 : decode cX3_parse 13 = .ok (.putfield 29, 3) := by decide +kernel
theorem dX3_parse_16 : decode cX3_parse 16 = .ok (.aload_n 0, 1) := by decide +kernel
theorem dX3_parse_17 : decode cX3_parse 17 = .ok (.iconst 0, 1) := by decide +kernel
theorem dX3_parse_18 : decode cX3_parse 18 = .ok (.putfield 30, 3) := by decide +kernel
theorem dX3_parse_21 : decode cX3_parse 21 = .ok (.aload_n 0, 1) := by decide +kernel
theorem dX3_parse_22 : decode cX3_parse 22 = .ok (.iconst 0, 1) := by decide +kernel
theorem dX3_parse_23 : decode cX3_parse 23 = .ok (.putfield 33, 3) := by decide +kernel
theorem dX3_parse_26 : decode cX3_parse 26 = .ok (.iconst 0, 1) := by decide +kernel
theorem dX3_parse_27 : decode cX3_parse 27 = .ok (.istore_n 2, 1) := by decide +kernel
theorem dX3_parse_28 : decode cX3_parse 28 = .ok (.iload_n 2, 1) := by decide +kernel
theorem dX3_parse_29 : decode cX3_parse 29 = .ok (.bipush 110, 2) := by decide +kernel
theorem dX3_parse_31 : decode cX3_parse 31 = .ok (.if_icmp .gt 110, 3) := by decide +kernel
theorem dX3_parse_34 : decode cX3_parse 34 = .ok (.aload_n 0, 1) := by decide +kernel
theorem dX3_parse_35 : decode cX3_parse 35 = .ok (.aload_n 1, 1) := by decide +kernel
theorem dX3_parse_36 : decode cX3_parse 36 = .ok (.invokevirtual 36, 3) := by decide +kernel
theorem dX3_parse_39 : decode cX3_parse 39 = .ok (.aload_n 0, 1) := by decide +kernel
theorem dX3_parse_40 : decode cX3_parse 40 = .ok (.getfield 40, 3) := by decide +kernel
theorem dX3_parse_43 : decode cX3_parse 43 = .ok (.ifCond .ne 5, 3) := by decide +kernel
theorem dX3_parse_46 : decode cX3_parse 46 = .ok (.iconst (-1), 1) := by decide +kernel
theorem dX3_parse_47 : decode cX3_parse 47 = .ok (.ireturn, 1) := by decide +kernel
theorem dX3_parse_48 : decode cX3_parse 48 = .ok (.aload_n 0, 1) := by decide +kernel
theorem dX3_parse_49 : decode cX3_parse 49 = .ok (.getfield 40, 3) := by decide +kernel
theorem dX3_parse_52 : decode cX3_parse 52 = .ok (.iconst 1, 1) := by decide +kernel
theorem dX3_parse_53 : decode cX3_parse 53 = .ok (.if_icmp .ne 16, 3) := by decide +kernel
theorem dX3_parse_56 : decode cX3_parse 56 = .ok (.aload_n 0, 1) := by decide +kernel
theorem dX3_parse_57 : decode cX3_parse 57 = .ok (.getfield 43, 3) := by decide +kernel
theorem dX3_parse_60 : decode cX3_parse 60 = .ok (.bipush 115, 2) := by decide +kernel
theorem dX3_parse_62 : decode cX3_parse 62 = .ok (.if_icmp .ne 7, 3) := by decide +kernel
theorem dX3_parse_65 : decode cX3_parse 65 = .ok (.iconst 1, 1) := by decide +kernel
theorem dX3_parse_66 : decode cX3_parse 66 = .ok (.goto 4, 3) := by decide +kernel
theorem dX3_parse_69 : decode cX3_parse 69 = .ok (.iconst 0, 1) := by decide +kernel
theorem dX3_parse_70 : decode cX3_parse 70 = .ok (.istore_n 3, 1) := by decide +kernel
theorem dX3_parse_71 : decode cX3_parse 71 = .ok (.aload_n 0, 1) := by decide +kernel
theorem dX3_parse_72 : decode cX3_parse 72 = .ok (.getfield 40, 3) := by decide +kernel
theorem dX3_parse_75 : decode cX3_parse 75 = .ok (.iconst 1, 1) := by decide +kernel
theorem dX3_parse_76 : decode cX3_parse 76 = .ok (.if_icmp .ne 16, 3) := by decide +kernel
theorem dX3_parse_79 : decode cX3_parse 79 = .ok (.aload_n 0, 1) := by decide +kernel
theorem dX3_parse_80 : decode cX3_parse 80 = .ok (.getfield 43, 3) := by decide +kernel
theorem dX3_parse_83 : decode cX3_parse 83 = .ok (.bipush 104, 2) := by decide +kernel
theorem dX3_parse_85 : decode cX3_parse 85 = .ok (.if_icmp .ne 7, 3) := by decide +kernel
theorem dX3_parse_88 : decode cX3_parse 88 = .ok (.iconst 1, 1) := by decide +kernel
theorem dX3_parse_89 : decode cX3_parse 89 = .ok (.goto 4, 3) := by decide +kernel
theorem dX3_parse_92 : decode cX3_parse 92 = .ok (.iconst 0, 1) := by decide +kernel
theorem dX3_parse_93 : decode cX3_parse 93 = .ok (.istore 4, 2) := by decide +kernel
theorem dX3_parse_95 : decode cX3_parse 95 = .ok (.iload_n 3, 1) := by decide +kernel
theorem dX3_parse_96 : decode cX3_parse 96 = .ok (.ifCond .eq 11, 3) := by decide +kernel
theorem dX3_parse_99 : decode cX3_parse 99 = .ok (.aload_n 0, 1) := by decide +kernel
theorem dX3_parse_100 : decode cX3_parse 100 = .ok (.aload_n 1, 1) := by decide +kernel
theorem dX3_parse_101 : decode cX3_parse 101 = .ok (.invokevirtual 46, 3) := by decide +kernel
theorem dX3_parse_104 : decode cX3_parse 104 = .ok (.ifCond .ne 21, 3) := by decide +kernel
theorem dX3_parse_107 : decode cX3_parse 107 = .ok (.iload 4, 2) := by decide +kernel
theorem dX3_parse_109 : decode cX3_parse 109 = .ok (.ifCond .eq 11, 3) := by decide +kernel
theorem dX3_parse_112 : decode cX3_parse 112 = .ok (.aload_n 0, 1) := by decide +kernel
theorem dX3_parse_113 : decode cX3_parse 113 = .ok (.aload_n 1, 1) := by decide +kernel
theorem dX3_parse_114 : decode cX3_parse 114 = .ok (.invokevirtual 50, 3) := by decide +kernel
theorem dX3_parse_117 : decode cX3_parse 117 = .ok (.ifCond .ne 8, 3) := by decide +kernel
theorem dX3_parse_120 : decode cX3_parse 120 = .ok (.aload_n 0, 1) := by decide +kernel
theorem dX3_parse_121 : decode cX3_parse 121 = .ok (.getfield 53, 3) := by decide +kernel
theorem dX3_parse_124 : decode cX3_parse 124 = .ok (.ireturn, 1) := by decide +kernel
theorem dX3_parse_125 : decode cX3_parse 125 = .ok (.aload_n 0, 1) := by decide +kernel
theorem dX3_parse_126 : decode cX3_parse 126 = .ok (.dup, 1) := by decide +kernel
theorem dX3_parse_127 : decode cX3_parse 127 = .ok (.getfield 30, 3) := by decide +kernel
theorem dX3_parse_130 : decode cX3_parse 130 = .ok (.iconst 1, 1) := by decide +kernel
theorem dX3_parse_131 : decode cX3_parse 131 = .ok (.iadd, 1) := by decide +kernel
theorem dX3_parse_132 : decode cX3_parse 132 = .ok (.putfield 30, 3) := by decide +kernel
theorem dX3_parse_135 : decode cX3_parse 135 = .ok (.iinc 2 1, 3) := by decide +kernel
theorem dX3_parse_138 : decode cX3_parse 138 = .ok (.goto (-110), 3) := by decide +kernel
theorem dX3_parse_141 : decode cX3_parse 141 = .ok (.aload_n 0, 1) := by decide +kernel
theorem dX3_parse_142 : decode cX3_parse 142 = .ok (.getfield 53, 3) := by decide +kernel
theorem dX3_parse_145 : decode cX3_parse 145 = .ok (.ireturn, 1) := by decide +kernel
theorem dX3_takeStation_0 : decode cX3_takeStation 0 = .ok (.aload_n 0, 1) := by decide +kernel
theorem dX3_takeStation_1 : decode cX3_takeStation 1 = .ok (.getfield 12, 3) := by decide +kernel
theorem dX3_takeStation_4 : decode cX3_takeStation 4 = .ok (.getfield 25, 3) := by decide +kernel
theorem dX3_takeStation_7 : decode cX3_takeStation 7 = .ok (.bipush 6, 2) := by decide +kernel
theorem dX3_takeStation_9 : decode cX3_takeStation 9 = .ok (.if_icmp .ge 13, 3) := by decide +kernel
theorem dX3_takeStation_12 : decode cX3_takeStation 12 = .ok (.aload_n 0, 1) := by decide +kernel
theorem dX3_takeStation_13 : decode cX3_takeStation 13 = .ok (.aload_n 1, 1) := by decide +kernel
theorem dX3_takeStation_14 : decode cX3_takeStation 14 = .ok (.bipush 29, 2) := by decide +kernel
theorem dX3_takeStation_16 : decode cX3_takeStation 16 = .ok (.invokevirtual 56, 3) := by decide +kernel
theorem dX3_takeStation_19 : decode cX3_takeStation 19 = .ok (.ifCond .ne 5, 3) := by decide +kernel
theorem dX3_takeStation_22 : decode cX3_takeStation 22 = .ok (.iconst 0, 1) := by decide +kernel
theorem dX3_takeStation_23 : decode cX3_takeStation 23 = .ok (.ireturn, 1) := by decide +kernel
theorem dX3_takeStation_24 : decode cX3_takeStation 24 = .ok (.aload_n 0, 1) := by decide +kernel
theorem dX3_takeStation_25 : decode cX3_takeStation 25 = .ok (.getfield 43, 3) := by decide +kernel
theorem dX3_takeStation_28 : decode cX3_takeStation 28 = .ok (.istore_n 2, 1) := by decide +kernel
theorem dX3_takeStation_29 : decode cX3_takeStation 29 = .ok (.aload_n 0, 1) := by decide +kernel
theorem dX3_takeStation_30 : decode cX3_takeStation 30 = .ok (.aload_n 1, 1) := by decide +kernel
theorem dX3_takeStation_31 : decode cX3_takeStation 31 = .ok (.bipush 29, 2) := by decide +kernel
theorem dX3_takeStation_33 : decode cX3_takeStation 33 = .ok (.invokevirtual 56, 3) := by decide +kernel
theorem dX3_takeStation_36 : decode cX3_takeStation 36 = .ok (.ifCond .ne 5, 3) := by decide +kernel
theorem dX3_takeStation_39 : decode cX3_takeStation 39 = .ok (.iconst 0, 1) := by decide +kernel
theorem dX3_takeStation_40 : decode cX3_takeStation 40 = .ok (.ireturn, 1) := by decide +kernel
theorem dX3_takeStation_41 : decode cX3_takeStation 41 = .ok (.aload_n 0, 1) := by decide +kernel
theorem dX3_takeStation_42 : decode cX3_takeStation 42 = .ok (.getfield 43, 3) := by decide +kernel
theorem dX3_takeStation_45 : decode cX3_takeStation 45 = .ok (.istore_n 3, 1) := by decide +kernel
theorem dX3_takeStation_46 : decode cX3_takeStation 46 = .ok (.aload_n 0, 1) := by decide +kernel
theorem dX3_takeStation_47 : decode cX3_takeStation 47 = .ok (.aload_n 1, 1) := by decide +kernel
theorem dX3_takeStation_48 : decode cX3_takeStation 48 = .ok (.invokevirtual 36, 3) := by decide +kernel
theorem dX3_takeStation_51 : decode cX3_takeStation 51 = .ok (.aload_n 0, 1) := by decide +kernel
theorem dX3_takeStation_52 : decode cX3_takeStation 52 = .ok (.getfield 40, 3) := by decide +kernel
theorem dX3_takeStation_55 : decode cX3_takeStation 55 = .ok (.iconst 1, 1) := by decide +kernel
theorem dX3_takeStation_56 : decode cX3_takeStation 56 = .ok (.if_icmp .ne 13, 3) := by decide +kernel
theorem dX3_takeStation_59 : decode cX3_takeStation 59 = .ok (.aload_n 0, 1) := by decide +kernel
theorem dX3_takeStation_60 : decode cX3_takeStation 60 = .ok (.getfield 43, 3) := by decide +kernel
theorem dX3_takeStation_63 : decode cX3_takeStation 63 = .ok (.invokestatic 60, 3) := by decide +kernel
theorem dX3_takeStation_66 : decode cX3_takeStation 66 = .ok (.goto 4, 3) := by decide +kernel
theorem dX3_takeStation_69 : decode cX3_takeStation 69 = .ok (.iconst (-1), 1) := by decide +kernel
theorem dX3_takeStation_70 : decode cX3_takeStation 70 = .ok (.istore 4, 2) := by decide +kernel
theorem dX3_takeStation_72 : decode cX3_takeStation 72 = .ok (.iload 4, 2) := by decide +kernel
theorem dX3_takeStation_74 : decode cX3_takeStation 74 = .ok (.ifCond .lt 11, 3) := by decide +kernel
theorem dX3_takeStation_77 : decode cX3_takeStation 77 = .ok (.aload_n 0, 1) := by decide +kernel
theorem dX3_takeStation_78 : decode cX3_takeStation 78 = .ok (.aload_n 1, 1) := by decide +kernel
theorem dX3_takeStation_79 : decode cX3_takeStation 79 = .ok (.invokevirtual 64, 3) := by decide +kernel
theorem dX3_takeStation_82 : decode cX3_takeStation 82 = .ok (.ifCond .ne 5, 3) := by decide +kernel
theorem dX3_takeStation_85 : decode cX3_takeStation 85 = .ok (.iconst 0, 1) := by decide +kernel
theorem dX3_takeStation_86 : decode cX3_takeStation 86 = .ok (.ireturn, 1) := by decide +kernel
theorem dX3_takeStation_87 : decode cX3_takeStation 87 = .ok (.aload_n 0, 1) := by decide +kernel
theorem dX3_takeStation_88 : decode cX3_takeStation 88 = .ok (.getfield 21, 3) := by decide +kernel
theorem dX3_takeStation_91 : decode cX3_takeStation 91 = .ok (.getfield 67, 3) := by decide +kernel
theorem dX3_takeStation_94 : decode cX3_takeStation 94 = .ok (.aload_n 0, 1) := by decide +kernel
theorem dX3_takeStation_95 : decode cX3_takeStation 95 = .ok (.getfield 12, 3) := by decide +kernel
theorem dX3_takeStation_98 : decode cX3_takeStation 98 = .ok (.getfield 25, 3) := by decide +kernel
theorem dX3_takeStation_101 : decode cX3_takeStation 101 = .ok (.iload 4, 2) := by decide +kernel
theorem dX3_takeStation_103 : decode cX3_takeStation 103 = .ok (.iastore, 1) := by decide +kernel
theorem dX3_takeStation_104 : decode cX3_takeStation 104 = .ok (.aload_n 0, 1) := by decide +kernel
theorem dX3_takeStation_105 : decode cX3_takeStation 105 = .ok (.getfield 12, 3) := by decide +kernel
theorem dX3_takeStation_108 : decode cX3_takeStation 108 = .ok (.iload_n 2, 1) := by decide +kernel
theorem dX3_takeStation_109 : decode cX3_takeStation 109 = .ok (.iload_n 3, 1) := by decide +kernel
theorem dX3_takeStation_110 : decode cX3_takeStation 110 = .ok (.invokevirtual 71, 3) := by decide +kernel
theorem dX3_takeStation_113 : decode cX3_takeStation 113 = .ok (.iconst 1, 1) := by decide +kernel
theorem dX3_takeStation_114 : decode cX3_takeStation 114 = .ok (.ireturn, 1) := by decide +kernel
theorem dX3_takeReading_0 : decode cX3_takeReading 0 = .ok (.aload_n 0, 1) := by decide +kernel
theorem dX3_takeReading_1 : decode cX3_takeReading 1 = .ok (.getfield 21, 3) := by decide +kernel
theorem dX3_takeReading_4 : decode cX3_takeReading 4 = .ok (.getfield 29, 3) := by decide +kernel
theorem dX3_takeReading_7 : decode cX3_takeReading 7 = .ok (.bipush 9, 2) := by decide +kernel
theorem dX3_takeReading_9 : decode cX3_takeReading 9 = .ok (.if_icmp .ge 20, 3) := by decide +kernel
theorem dX3_takeReading_12 : decode cX3_takeReading 12 = .ok (.aload_n 0, 1) := by decide +kernel
theorem dX3_takeReading_13 : decode cX3_takeReading 13 = .ok (.aload_n 1, 1) := by decide +kernel
theorem dX3_takeReading_14 : decode cX3_takeReading 14 = .ok (.aload_n 0, 1) := by decide +kernel
theorem dX3_takeReading_15 : decode cX3_takeReading 15 = .ok (.getfield 12, 3) := by decide +kernel
theorem dX3_takeReading_18 : decode cX3_takeReading 18 = .ok (.getfield 25, 3) := by decide +kernel
theorem dX3_takeReading_21 : decode cX3_takeReading 21 = .ok (.iconst 1, 1) := by decide +kernel
theorem dX3_takeReading_22 : decode cX3_takeReading 22 = .ok (.isub, 1) := by decide +kernel
theorem dX3_takeReading_23 : decode cX3_takeReading 23 = .ok (.invokevirtual 56, 3) := by decide +kernel
theorem dX3_takeReading_26 : decode cX3_takeReading 26 = .ok (.ifCond .ne 5, 3) := by decide +kernel
theorem dX3_takeReading_29 : decode cX3_takeReading 29 = .ok (.iconst 0, 1) := by decide +kernel
theorem dX3_takeReading_30 : decode cX3_takeReading 30 = .ok (.ireturn, 1) := by decide +kernel
theorem dX3_takeReading_31 : decode cX3_takeReading 31 = .ok (.aload_n 0, 1) := by decide +kernel
theorem dX3_takeReading_32 : decode cX3_takeReading 32 = .ok (.getfield 43, 3) := by decide +kernel
theorem dX3_takeReading_35 : decode cX3_takeReading 35 = .ok (.istore_n 2, 1) := by decide +kernel
theorem dX3_takeReading_36 : decode cX3_takeReading 36 = .ok (.aload_n 0, 1) := by decide +kernel
theorem dX3_takeReading_37 : decode cX3_takeReading 37 = .ok (.aload_n 1, 1) := by decide +kernel
theorem dX3_takeReading_38 : decode cX3_takeReading 38 = .ok (.bipush 60, 2) := by decide +kernel
theorem dX3_takeReading_40 : decode cX3_takeReading 40 = .ok (.invokevirtual 56, 3) := by decide +kernel
theorem dX3_takeReading_43 : decode cX3_takeReading 43 = .ok (.ifCond .ne 5, 3) := by decide +kernel
theorem dX3_takeReading_46 : decode cX3_takeReading 46 = .ok (.iconst 0, 1) := by decide +kernel
theorem dX3_takeReading_47 : decode cX3_takeReading 47 = .ok (.ireturn, 1) := by decide +kernel
theorem dX3_takeReading_48 : decode cX3_takeReading 48 = .ok (.aload_n 0, 1) := by decide +kernel
theorem dX3_takeReading_49 : decode cX3_takeReading 49 = .ok (.getfield 43, 3) := by decide +kernel
theorem dX3_takeReading_52 : decode cX3_takeReading 52 = .ok (.istore_n 3, 1) := by decide +kernel
theorem dX3_takeReading_53 : decode cX3_takeReading 53 = .ok (.aload_n 0, 1) := by decide +kernel
theorem dX3_takeReading_54 : decode cX3_takeReading 54 = .ok (.aload_n 1, 1) := by decide +kernel
theorem dX3_takeReading_55 : decode cX3_takeReading 55 = .ok (.invokevirtual 64, 3) := by decide +kernel
theorem dX3_takeReading_58 : decode cX3_takeReading 58 = .ok (.ifCond .ne 5, 3) := by decide +kernel
theorem dX3_takeReading_61 : decode cX3_takeReading 61 = .ok (.iconst 0, 1) := by decide +kernel
theorem dX3_takeReading_62 : decode cX3_takeReading 62 = .ok (.ireturn, 1) := by decide +kernel
theorem dX3_takeReading_63 : decode cX3_takeReading 63 = .ok (.aload_n 0, 1) := by decide +kernel
theorem dX3_takeReading_64 : decode cX3_takeReading 64 = .ok (.getfield 21, 3) := by decide +kernel
theorem dX3_takeReading_67 : decode cX3_takeReading 67 = .ok (.iload_n 2, 1) := by decide +kernel
theorem dX3_takeReading_68 : decode cX3_takeReading 68 = .ok (.iload_n 3, 1) := by decide +kernel
theorem dX3_takeReading_69 : decode cX3_takeReading 69 = .ok (.invokevirtual 75, 3) := by decide +kernel
theorem dX3_takeReading_72 : decode cX3_takeReading 72 = .ok (.iconst 1, 1) := by decide +kernel
theorem dX3_takeReading_73 : decode cX3_takeReading 73 = .ok (.ireturn, 1) := by decide +kernel
theorem dX3_takeNumber_0 : decode cX3_takeNumber 0 = .ok (.aload_n 0, 1) := by decide +kernel
theorem dX3_takeNumber_1 : decode cX3_takeNumber 1 = .ok (.aload_n 1, 1) := by decide +kernel
theorem dX3_takeNumber_2 : decode cX3_takeNumber 2 = .ok (.invokevirtual 36, 3) := by decide +kernel
theorem dX3_takeNumber_5 : decode cX3_takeNumber 5 = .ok (.aload_n 0, 1) := by decide +kernel
theorem dX3_takeNumber_6 : decode cX3_takeNumber 6 = .ok (.getfield 40, 3) := by decide +kernel
theorem dX3_takeNumber_9 : decode cX3_takeNumber 9 = .ok (.iconst 2, 1) := by decide +kernel
theorem dX3_takeNumber_10 : decode cX3_takeNumber 10 = .ok (.if_icmp .ne 15, 3) := by decide +kernel
theorem dX3_takeNumber_13 : decode cX3_takeNumber 13 = .ok (.aload_n 0, 1) := by decide +kernel
theorem dX3_takeNumber_14 : decode cX3_takeNumber 14 = .ok (.getfield 43, 3) := by decide +kernel
theorem dX3_takeNumber_17 : decode cX3_takeNumber 17 = .ok (.iload_n 2, 1) := by decide +kernel
theorem dX3_takeNumber_18 : decode cX3_takeNumber 18 = .ok (.if_icmp .gt 7, 3) := by decide +kernel
theorem dX3_takeNumber_21 : decode cX3_takeNumber 21 = .ok (.iconst 1, 1) := by decide +kernel
theorem dX3_takeNumber_22 : decode cX3_takeNumber 22 = .ok (.goto 4, 3) := by decide +kernel
theorem dX3_takeNumber_25 : decode cX3_takeNumber 25 = .ok (.iconst 0, 1) := by decide +kernel
theorem dX3_takeNumber_26 : decode cX3_takeNumber 26 = .ok (.ireturn, 1) := by decide +kernel
theorem dX3_takeSemicolon_0 : decode cX3_takeSemicolon 0 = .ok (.aload_n 0, 1) := by decide +kernel
theorem dX3_takeSemicolon_1 : decode cX3_takeSemicolon 1 = .ok (.aload_n 1, 1) := by decide +kernel
theorem dX3_takeSemicolon_2 : decode cX3_takeSemicolon 2 = .ok (.invokevirtual 36, 3) := by decide +kernel
theorem dX3_takeSemicolon_5 : decode cX3_takeSemicolon 5 = .ok (.aload_n 0, 1) := by decide +kernel
theorem dX3_takeSemicolon_6 : decode cX3_takeSemicolon 6 = .ok (.getfield 40, 3) := by decide +kernel
theorem dX3_takeSemicolon_9 : decode cX3_takeSemicolon 9 = .ok (.iconst 3, 1) := by decide +kernel
theorem dX3_takeSemicolon_10 : decode cX3_takeSemicolon 10 = .ok (.if_icmp .ne 7, 3) := by decide +kernel
theorem dX3_takeSemicolon_13 : decode cX3_takeSemicolon 13 = .ok (.iconst 1, 1) := by decide +kernel
theorem dX3_takeSemicolon_14 : decode cX3_takeSemicolon 14 = .ok (.goto 4, 3) := by decide +kernel
theorem dX3_takeSemicolon_17 : decode cX3_takeSemicolon 17 = .ok (.iconst 0, 1) := by decide +kernel
theorem dX3_takeSemicolon_18 : decode cX3_takeSemicolon 18 = .ok (.ireturn, 1) := by decide +kernel
theorem dX3_clockOf_0 : decode cX3_clockOf 0 = .ok (.iload_n 0, 1) := by decide +kernel
theorem dX3_clockOf_1 : decode cX3_clockOf 1 = .ok (.tableswitch 85 98 112 #[83, 85, 81, 79, 85, 85, 85, 85, 85, 85, 77, 85, 85, 85, 75], 75) := by decide +kernel
theorem dX3_clockOf_76 : decode cX3_clockOf 76 = .ok (.iconst 0, 1) := by decide +kernel
theorem dX3_clockOf_77 : decode cX3_clockOf 77 = .ok (.ireturn, 1) := by decide +kernel
theorem dX3_clockOf_78 : decode cX3_clockOf 78 = .ok (.iconst 1, 1) := by decide +kernel
theorem dX3_clockOf_79 : decode cX3_clockOf 79 = .ok (.ireturn, 1) := by decide +kernel
theorem dX3_clockOf_80 : decode cX3_clockOf 80 = .ok (.iconst 2, 1) := by decide +kernel
theorem dX3_clockOf_81 : decode cX3_clockOf 81 = .ok (.ireturn, 1) := by decide +kernel
theorem dX3_clockOf_82 : decode cX3_clockOf 82 = .ok (.iconst 3, 1) := by decide +kernel
theorem dX3_clockOf_83 : decode cX3_clockOf 83 = .ok (.ireturn, 1) := by decide +kernel
theorem dX3_clockOf_84 : decode cX3_clockOf 84 = .ok (.iconst 4, 1) := by decide +kernel
theorem dX3_clockOf_85 : decode cX3_clockOf 85 = .ok (.ireturn, 1) := by decide +kernel
theorem dX3_clockOf_86 : decode cX3_clockOf 86 = .ok (.iconst (-1), 1) := by decide +kernel
theorem dX3_clockOf_87 : decode cX3_clockOf 87 = .ok (.ireturn, 1) := by decide +kernel
theorem dX3_advance_0 : decode cX3_advance 0 = .ok (.aload_n 0, 1) := by decide +kernel
theorem dX3_advance_1 : decode cX3_advance 1 = .ok (.getfield 33, 3) := by decide +kernel
theorem dX3_advance_4 : decode cX3_advance 4 = .ok (.aload_n 1, 1) := by decide +kernel
theorem dX3_advance_5 : decode cX3_advance 5 = .ok (.getfield 76, 3) := by decide +kernel
theorem dX3_advance_8 : decode cX3_advance 8 = .ok (.if_icmp .ge 30, 3) := by decide +kernel
theorem dX3_advance_11 : decode cX3_advance 11 = .ok (.aload_n 1, 1) := by decide +kernel
theorem dX3_advance_12 : decode cX3_advance 12 = .ok (.getfield 79, 3) := by decide +kernel
theorem dX3_advance_15 : decode cX3_advance 15 = .ok (.aload_n 0, 1) := by decide +kernel
theorem dX3_advance_16 : decode cX3_advance 16 = .ok (.getfield 33, 3) := by decide +kernel
theorem dX3_advance_19 : decode cX3_advance 19 = .ok (.iaload, 1) := by decide +kernel
theorem dX3_advance_20 : decode cX3_advance 20 = .ok (.bipush 32, 2) := by decide +kernel
theorem dX3_advance_22 : decode cX3_advance 22 = .ok (.if_icmp .ne 16, 3) := by decide +kernel
theorem dX3_advance_25 : decode cX3_advance 25 = .ok (.aload_n 0, 1) := by decide +kernel
theorem dX3_advance_26 : decode cX3_advance 26 = .ok (.dup, 1) := by decide +kernel
theorem dX3_advance_27 : decode cX3_advance 27 = .ok (.getfield 33, 3) := by decide +kernel
theorem dX3_advance_30 : decode cX3_advance 30 = .ok (.iconst 1, 1) := by decide +kernel
theorem dX3_advance_31 : decode cX3_advance 31 = .ok (.iadd, 1) := by decide +kernel
theorem dX3_advance_32 : decode cX3_advance 32 = .ok (.putfield 33, 3) := by decide +kernel
theorem dX3_advance_35 : decode cX3_advance 35 = .ok (.goto (-35), 3) := by decide +kernel
theorem dX3_advance_38 : decode cX3_advance 38 = .ok (.aload_n 0, 1) := by decide +kernel
theorem dX3_advance_39 : decode cX3_advance 39 = .ok (.aload_n 0, 1) := by decide +kernel
theorem dX3_advance_40 : decode cX3_advance 40 = .ok (.getfield 33, 3) := by decide +kernel
theorem dX3_advance_43 : decode cX3_advance 43 = .ok (.putfield 53, 3) := by decide +kernel
theorem dX3_advance_46 : decode cX3_advance 46 = .ok (.aload_n 0, 1) := by decide +kernel
theorem dX3_advance_47 : decode cX3_advance 47 = .ok (.getfield 33, 3) := by decide +kernel
theorem dX3_advance_50 : decode cX3_advance 50 = .ok (.aload_n 1, 1) := by decide +kernel
theorem dX3_advance_51 : decode cX3_advance 51 = .ok (.getfield 76, 3) := by decide +kernel
theorem dX3_advance_54 : decode cX3_advance 54 = .ok (.if_icmp .lt 9, 3) := by decide +kernel
theorem dX3_advance_57 : decode cX3_advance 57 = .ok (.aload_n 0, 1) := by decide +kernel
theorem dX3_advance_58 : decode cX3_advance 58 = .ok (.iconst 0, 1) := by decide +kernel
theorem dX3_advance_59 : decode cX3_advance 59 = .ok (.putfield 40, 3) := by decide +kernel
theorem dX3_advance_62 : decode cX3_advance 62 = .ok (.return_, 1) := by decide +kernel
theorem dX3_advance_63 : decode cX3_advance 63 = .ok (.aload_n 0, 1) := by decide +kernel
theorem dX3_advance_64 : decode cX3_advance 64 = .ok (.aload_n 1, 1) := by decide +kernel
theorem dX3_advance_65 : decode cX3_advance 65 = .ok (.getfield 79, 3) := by decide +kernel
theorem dX3_advance_68 : decode cX3_advance 68 = .ok (.aload_n 0, 1) := by decide +kernel
theorem dX3_advance_69 : decode cX3_advance 69 = .ok (.getfield 33, 3) := by decide +kernel
theorem dX3_advance_72 : decode cX3_advance 72 = .ok (.iaload, 1) := by decide +kernel
theorem dX3_advance_73 : decode cX3_advance 73 = .ok (.putfield 43, 3) := by decide +kernel
theorem dX3_advance_76 : decode cX3_advance 76 = .ok (.aload_n 0, 1) := by decide +kernel
theorem dX3_advance_77 : decode cX3_advance 77 = .ok (.getfield 43, 3) := by decide +kernel
theorem dX3_advance_80 : decode cX3_advance 80 = .ok (.invokestatic 82, 3) := by decide +kernel
theorem dX3_advance_83 : decode cX3_advance 83 = .ok (.ifCond .eq 9, 3) := by decide +kernel
theorem dX3_advance_86 : decode cX3_advance 86 = .ok (.aload_n 0, 1) := by decide +kernel
theorem dX3_advance_87 : decode cX3_advance 87 = .ok (.aload_n 1, 1) := by decide +kernel
theorem dX3_advance_88 : decode cX3_advance 88 = .ok (.invokevirtual 86, 3) := by decide +kernel
theorem dX3_advance_91 : decode cX3_advance 91 = .ok (.return_, 1) := by decide +kernel
theorem dX3_advance_92 : decode cX3_advance 92 = .ok (.aload_n 0, 1) := by decide +kernel
theorem dX3_advance_93 : decode cX3_advance 93 = .ok (.dup, 1) := by decide +kernel
theorem dX3_advance_94 : decode cX3_advance 94 = .ok (.getfield 33, 3) := by decide +kernel
theorem dX3_advance_97 : decode cX3_advance 97 = .ok (.iconst 1, 1) := by decide +kernel
theorem dX3_advance_98 : decode cX3_advance 98 = .ok (.iadd, 1) := by decide +kernel
theorem dX3_advance_99 : decode cX3_advance 99 = .ok (.putfield 33, 3) := by decide +kernel
theorem dX3_advance_102 : decode cX3_advance 102 = .ok (.aload_n 0, 1) := by decide +kernel
theorem dX3_advance_103 : decode cX3_advance 103 = .ok (.getfield 43, 3) := by decide +kernel
theorem dX3_advance_106 : decode cX3_advance 106 = .ok (.bipush 97, 2) := by decide +kernel
theorem dX3_advance_108 : decode cX3_advance 108 = .ok (.if_icmp .lt 20, 3) := by decide +kernel
theorem dX3_advance_111 : decode cX3_advance 111 = .ok (.aload_n 0, 1) := by decide +kernel
theorem dX3_advance_112 : decode cX3_advance 112 = .ok (.getfield 43, 3) := by decide +kernel
theorem dX3_advance_115 : decode cX3_advance 115 = .ok (.bipush 122, 2) := by decide +kernel
theorem dX3_advance_117 : decode cX3_advance 117 = .ok (.if_icmp .gt 11, 3) := by decide +kernel
theorem dX3_advance_120 : decode cX3_advance 120 = .ok (.aload_n 0, 1) := by decide +kernel
theorem dX3_advance_121 : decode cX3_advance 121 = .ok (.iconst 1, 1) := by decide +kernel
theorem dX3_advance_122 : decode cX3_advance 122 = .ok (.putfield 40, 3) := by decide +kernel
theorem dX3_advance_125 : decode cX3_advance 125 = .ok (.goto 21, 3) := by decide +kernel
theorem dX3_advance_128 : decode cX3_advance 128 = .ok (.aload_n 0, 1) := by decide +kernel
theorem dX3_advance_129 : decode cX3_advance 129 = .ok (.aload_n 0, 1) := by decide +kernel
theorem dX3_advance_130 : decode cX3_advance 130 = .ok (.getfield 43, 3) := by decide +kernel
theorem dX3_advance_133 : decode cX3_advance 133 = .ok (.bipush 59, 2) := by decide +kernel
theorem dX3_advance_135 : decode cX3_advance 135 = .ok (.if_icmp .ne 7, 3) := by decide +kernel
theorem dX3_advance_138 : decode cX3_advance 138 = .ok (.iconst 3, 1) := by decide +kernel
theorem dX3_advance_139 : decode cX3_advance 139 = .ok (.goto 4, 3) := by decide +kernel
theorem dX3_advance_142 : decode cX3_advance 142 = .ok (.iconst 4, 1) := by decide +kernel
theorem dX3_advance_143 : decode cX3_advance 143 = .ok (.putfield 40, 3) := by decide +kernel
theorem dX3_advance_146 : decode cX3_advance 146 = .ok (.return_, 1) := by decide +kernel
theorem dX3_advanceOverNumber_0 : decode cX3_advanceOverNumber 0 = .ok (.aload_n 1, 1) := by decide +kernel
theorem dX3_advanceOverNumber_1 : decode cX3_advanceOverNumber 1 = .ok (.getfield 79, 3) := by decide +kernel
theorem dX3_advanceOverNumber_4 : decode cX3_advanceOverNumber 4 = .ok (.aload_n 0, 1) := by decide +kernel
theorem dX3_advanceOverNumber_5 : decode cX3_advanceOverNumber 5 = .ok (.getfield 53, 3) := by decide +kernel
theorem dX3_advanceOverNumber_8 : decode cX3_advanceOverNumber 8 = .ok (.iaload, 1) := by decide +kernel
theorem dX3_advanceOverNumber_9 : decode cX3_advanceOverNumber 9 = .ok (.bipush 48, 2) := by decide +kernel
theorem dX3_advanceOverNumber_11 : decode cX3_advanceOverNumber 11 = .ok (.if_icmp .ne 7, 3) := by decide +kernel
theorem dX3_advanceOverNumber_14 : decode cX3_advanceOverNumber 14 = .ok (.iconst 1, 1) := by decide +kernel
theorem dX3_advanceOverNumber_15 : decode cX3_advanceOverNumber 15 = .ok (.goto 4, 3) := by decide +kernel
theorem dX3_advanceOverNumber_18 : decode cX3_advanceOverNumber 18 = .ok (.iconst 0, 1) := by decide +kernel
theorem dX3_advanceOverNumber_19 : decode cX3_advanceOverNumber 19 = .ok (.istore_n 2, 1) := by decide +kernel
theorem dX3_advanceOverNumber_20 : decode cX3_advanceOverNumber 20 = .ok (.aload_n 0, 1) := by decide +kernel
theorem dX3_advanceOverNumber_21 : decode cX3_advanceOverNumber 21 = .ok (.iconst 0, 1) := by decide +kernel
theorem dX3_advanceOverNumber_22 : decode cX3_advanceOverNumber 22 = .ok (.putfield 43, 3) := by decide +kernel
theorem dX3_advanceOverNumber_25 : decode cX3_advanceOverNumber 25 = .ok (.aload_n 0, 1) := by decide +kernel
theorem dX3_advanceOverNumber_26 : decode cX3_advanceOverNumber 26 = .ok (.getfield 33, 3) := by decide +kernel
theorem dX3_advanceOverNumber_29 : decode cX3_advanceOverNumber 29 = .ok (.aload_n 1, 1) := by decide +kernel
theorem dX3_advanceOverNumber_30 : decode cX3_advanceOverNumber 30 = .ok (.getfield 76, 3) := by decide +kernel
theorem dX3_advanceOverNumber_33 : decode cX3_advanceOverNumber 33 = .ok (.if_icmp .ge 60, 3) := by decide +kernel
theorem dX3_advanceOverNumber_36 : decode cX3_advanceOverNumber 36 = .ok (.aload_n 1, 1) := by decide +kernel
theorem dX3_advanceOverNumber_37 : decode cX3_advanceOverNumber 37 = .ok (.getfield 79, 3) := by decide +kernel
theorem dX3_advanceOverNumber_40 : decode cX3_advanceOverNumber 40 = .ok (.aload_n 0, 1) := by decide +kernel
theorem dX3_advanceOverNumber_41 : decode cX3_advanceOverNumber 41 = .ok (.getfield 33, 3) := by decide +kernel
theorem dX3_advanceOverNumber_44 : decode cX3_advanceOverNumber 44 = .ok (.iaload, 1) := by decide +kernel
theorem dX3_advanceOverNumber_45 : decode cX3_advanceOverNumber 45 = .ok (.invokestatic 82, 3) := by decide +kernel
theorem dX3_advanceOverNumber_48 : decode cX3_advanceOverNumber 48 = .ok (.ifCond .eq 45, 3) := by decide +kernel
theorem dX3_advanceOverNumber_51 : decode cX3_advanceOverNumber 51 = .ok (.aload_n 0, 1) := by decide +kernel
theorem dX3_advanceOverNumber_52 : decode cX3_advanceOverNumber 52 = .ok (.bipush 100, 2) := by decide +kernel
theorem dX3_advanceOverNumber_54 : decode cX3_advanceOverNumber 54 = .ok (.bipush 10, 2) := by decide +kernel
theorem dX3_advanceOverNumber_56 : decode cX3_advanceOverNumber 56 = .ok (.aload_n 0, 1) := by decide +kernel
theorem dX3_advanceOverNumber_57 : decode cX3_advanceOverNumber 57 = .ok (.getfield 43, 3) := by decide +kernel
theorem dX3_advanceOverNumber_60 : decode cX3_advanceOverNumber 60 = .ok (.imul, 1) := by decide +kernel
theorem dX3_advanceOverNumber_61 : decode cX3_advanceOverNumber 61 = .ok (.aload_n 1, 1) := by decide +kernel
theorem dX3_advanceOverNumber_62 : decode cX3_advanceOverNumber 62 = .ok (.getfield 79, 3) := by decide +kernel
theorem dX3_advanceOverNumber_65 : decode cX3_advanceOverNumber 65 = .ok (.aload_n 0, 1) := by decide +kernel
theorem dX3_advanceOverNumber_66 : decode cX3_advanceOverNumber 66 = .ok (.getfield 33, 3) := by decide +kernel
theorem dX3_advanceOverNumber_69 : decode cX3_advanceOverNumber 69 = .ok (.iaload, 1) := by decide +kernel
theorem dX3_advanceOverNumber_70 : decode cX3_advanceOverNumber 70 = .ok (.iadd, 1) := by decide +kernel
theorem dX3_advanceOverNumber_71 : decode cX3_advanceOverNumber 71 = .ok (.bipush 48, 2) := by decide +kernel
theorem dX3_advanceOverNumber_73 : decode cX3_advanceOverNumber 73 = .ok (.isub, 1) := by decide +kernel
theorem dX3_advanceOverNumber_74 : decode cX3_advanceOverNumber 74 = .ok (.invokestatic 89, 3) := by decide +kernel
theorem dX3_advanceOverNumber_77 : decode cX3_advanceOverNumber 77 = .ok (.putfield 43, 3) := by decide +kernel
theorem dX3_advanceOverNumber_80 : decode cX3_advanceOverNumber 80 = .ok (.aload_n 0, 1) := by decide +kernel
theorem dX3_advanceOverNumber_81 : decode cX3_advanceOverNumber 81 = .ok (.dup, 1) := by decide +kernel
theorem dX3_advanceOverNumber_82 : decode cX3_advanceOverNumber 82 = .ok (.getfield 33, 3) := by decide +kernel
theorem dX3_advanceOverNumber_85 : decode cX3_advanceOverNumber 85 = .ok (.iconst 1, 1) := by decide +kernel
theorem dX3_advanceOverNumber_86 : decode cX3_advanceOverNumber 86 = .ok (.iadd, 1) := by decide +kernel
theorem dX3_advanceOverNumber_87 : decode cX3_advanceOverNumber 87 = .ok (.putfield 33, 3) := by decide +kernel
theorem dX3_advanceOverNumber_90 : decode cX3_advanceOverNumber 90 = .ok (.goto (-65), 3) := by decide +kernel
theorem dX3_advanceOverNumber_93 : decode cX3_advanceOverNumber 93 = .ok (.aload_n 0, 1) := by decide +kernel
theorem dX3_advanceOverNumber_94 : decode cX3_advanceOverNumber 94 = .ok (.getfield 43, 3) := by decide +kernel
theorem dX3_advanceOverNumber_97 : decode cX3_advanceOverNumber 97 = .ok (.bipush 99, 2) := by decide +kernel
theorem dX3_advanceOverNumber_99 : decode cX3_advanceOverNumber 99 = .ok (.if_icmp .gt 20, 3) := by decide +kernel
theorem dX3_advanceOverNumber_102 : decode cX3_advanceOverNumber 102 = .ok (.iload_n 2, 1) := by decide +kernel
theorem dX3_advanceOverNumber_103 : decode cX3_advanceOverNumber 103 = .ok (.ifCond .eq 20, 3) := by decide +kernel
theorem dX3_advanceOverNumber_106 : decode cX3_advanceOverNumber 106 = .ok (.aload_n 0, 1) := by decide +kernel
theorem dX3_advanceOverNumber_107 : decode cX3_advanceOverNumber 107 = .ok (.getfield 33, 3) := by decide +kernel
theorem dX3_advanceOverNumber_110 : decode cX3_advanceOverNumber 110 = .ok (.aload_n 0, 1) := by decide +kernel
theorem dX3_advanceOverNumber_111 : decode cX3_advanceOverNumber 111 = .ok (.getfield 53, 3) := by decide +kernel
theorem dX3_advanceOverNumber_114 : decode cX3_advanceOverNumber 114 = .ok (.isub, 1) := by decide +kernel
theorem dX3_advanceOverNumber_115 : decode cX3_advanceOverNumber 115 = .ok (.iconst 1, 1) := by decide +kernel
theorem dX3_advanceOverNumber_116 : decode cX3_advanceOverNumber 116 = .ok (.if_icmp .le 7, 3) := by decide +kernel
theorem dX3_advanceOverNumber_119 : decode cX3_advanceOverNumber 119 = .ok (.iconst 1, 1) := by decide +kernel
theorem dX3_advanceOverNumber_120 : decode cX3_advanceOverNumber 120 = .ok (.goto 4, 3) := by decide +kernel
theorem dX3_advanceOverNumber_123 : decode cX3_advanceOverNumber 123 = .ok (.iconst 0, 1) := by decide +kernel
theorem dX3_advanceOverNumber_124 : decode cX3_advanceOverNumber 124 = .ok (.istore_n 3, 1) := by decide +kernel
theorem dX3_advanceOverNumber_125 : decode cX3_advanceOverNumber 125 = .ok (.aload_n 0, 1) := by decide +kernel
theorem dX3_advanceOverNumber_126 : decode cX3_advanceOverNumber 126 = .ok (.iload_n 3, 1) := by decide +kernel
theorem dX3_advanceOverNumber_127 : decode cX3_advanceOverNumber 127 = .ok (.ifCond .eq 7, 3) := by decide +kernel
theorem dX3_advanceOverNumber_130 : decode cX3_advanceOverNumber 130 = .ok (.iconst 4, 1) := by decide +kernel
theorem dX3_advanceOverNumber_131 : decode cX3_advanceOverNumber 131 = .ok (.goto 4, 3) := by decide +kernel
theorem dX3_advanceOverNumber_134 : decode cX3_advanceOverNumber 134 = .ok (.iconst 2, 1) := by decide +kernel
theorem dX3_advanceOverNumber_135 : decode cX3_advanceOverNumber 135 = .ok (.putfield 40, 3) := by decide +kernel
theorem dX3_advanceOverNumber_138 : decode cX3_advanceOverNumber 138 = .ok (.return_, 1) := by decide +kernel
theorem dX3_isDigit_0 : decode cX3_isDigit 0 = .ok (.iload_n 0, 1) := by decide +kernel
theorem dX3_isDigit_1 : decode cX3_isDigit 1 = .ok (.bipush 48, 2) := by decide +kernel
theorem dX3_isDigit_3 : decode cX3_isDigit 3 = .ok (.if_icmp .lt 13, 3) := by decide +kernel
theorem dX3_isDigit_6 : decode cX3_isDigit 6 = .ok (.iload_n 0, 1) := by decide +kernel
theorem dX3_isDigit_7 : decode cX3_isDigit 7 = .ok (.bipush 57, 2) := by decide +kernel
theorem dX3_isDigit_9 : decode cX3_isDigit 9 = .ok (.if_icmp .gt 7, 3) := by decide +kernel
theorem dX3_isDigit_12 : decode cX3_isDigit 12 = .ok (.iconst 1, 1) := by decide +kernel
theorem dX3_isDigit_13 : decode cX3_isDigit 13 = .ok (.goto 4, 3) := by decide +kernel
theorem dX3_isDigit_16 : decode cX3_isDigit 16 = .ok (.iconst 0, 1) := by decide +kernel
theorem dX3_isDigit_17 : decode cX3_isDigit 17 = .ok (.ireturn, 1) := by decide +kernel
