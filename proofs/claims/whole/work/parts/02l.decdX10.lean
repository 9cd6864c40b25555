theorem dX10_init_0 : decode cX10_init 0 = .ok (.aload_n 0, 1) := by decide +kernel
theorem dX10_init_1 : decode cX10_init 1 = .ok (.invokespecial 1, 3) := by decide +kernel
theorem dX10_init_4 : decode cX10_init 4 = .ok (.aload_n 0, 1) := by decide +kernel
theorem dX10_init_5 : decode cX10_init 5 = .ok (.bipush 6, 2) := by decide +kernel
theorem dX10_init_7 : decode cX10_init 7 = .ok (.newarray .int, 2) := by decide +kernel
theorem dX10_init_9 : decode cX10_init 9 = .ok (.putfield 7, 3) := by decide +kernel
theorem dX10_init_12 : decode cX10_init 12 = .ok (.aload_n 0, 1) := by decide +kernel
theorem dX10_init_13 : decode cX10_init 13 = .ok (.bipush 6, 2) := by decide +kernel
theorem dX10_init_15 : decode cX10_init 15 = .ok (.newarray .int, 2) := by decide +kernel
theorem dX10_init_17 : decode cX10_init 17 = .ok (.putfield 13, 3) := by decide +kernel
theorem dX10_init_20 : decode cX10_init 20 = .ok (.aload_n 0, 1) := by decide +kernel
theorem dX10_init_21 : decode cX10_init 21 = .ok (.bipush 25, 2) := by decide +kernel
theorem dX10_init_23 : decode cX10_init 23 = .ok (.newarray .int, 2) := by decide +kernel
theorem dX10_init_25 : decode cX10_init 25 = .ok (.putfield 16, 3) := by decide +kernel
theorem dX10_init_28 : decode cX10_init 28 = .ok (.aload_n 0, 1) := by decide +kernel
theorem dX10_init_29 : decode cX10_init 29 = .ok (.sipush 250, 3) := by decide +kernel
theorem dX10_init_32 : decode cX10_init 32 = .ok (.newarray .int, 2) := by decide +kernel
theorem dX10_init_34 : decode cX10_init 34 = .ok (.putfield 19, 3) := by decide +kernel
theorem dX10_init_37 : decode cX10_init 37 = .ok (.aload_n 0, 1) := by decide +kernel
theorem dX10_init_38 : decode cX10_init 38 = .ok (.iconst 2, 1) := by decide +kernel
theorem dX10_init_39 : decode cX10_init 39 = .ok (.newarray .boolean, 2) := by decide +kernel
theorem dX10_init_41 : decode cX10_init 41 = .ok (.putfield 22, 3) := by decide +kernel
theorem dX10_init_44 : decode cX10_init 44 = .ok (.aload_n 0, 1) := by decide +kernel
theorem dX10_init_45 : decode cX10_init 45 = .ok (.bipush 50, 2) := by decide +kernel
theorem dX10_init_47 : decode cX10_init 47 = .ok (.newarray .int, 2) := by decide +kernel
theorem dX10_init_49 : decode cX10_init 49 = .ok (.putfield 26, 3) := by decide +kernel
theorem dX10_init_52 : decode cX10_init 52 = .ok (.aload_n 0, 1) := by decide +kernel
theorem dX10_init_53 : decode cX10_init 53 = .ok (.bipush 110, 2) := by decide +kernel
theorem dX10_init_55 : decode cX10_init 55 = .ok (.newarray .int, 2) := by decide +kernel
theorem dX10_init_57 : decode cX10_init 57 = .ok (.putfield 29, 3) := by decide +kernel
theorem dX10_init_60 : decode cX10_init 60 = .ok (.aload_n 0, 1) := by decide +kernel
theorem dX10_init_61 : decode cX10_init 61 = .ok (.bipush 6, 2) := by decide +kernel
theorem dX10_init_63 : decode cX10_init 63 = .ok (.newarray .int, 2) := by decide +kernel
theorem dX10_init_65 : decode cX10_init 65 = .ok (.putfield 32, 3) := by decide +kernel
theorem dX10_init_68 : decode cX10_init 68 = .ok (.aload_n 0, 1) := by decide +kernel
theorem dX10_init_69 : decode cX10_init 69 = .ok (.bipush 6, 2) := by decide +kernel
theorem dX10_init_71 : decode cX10_init 71 = .ok (.newarray .int, 2) := by decide +kernel
theorem dX10_init_73 : decode cX10_init 73 = .ok (.putfield 35, 3) := by decide +kernel
theorem dX10_init_76 : decode cX10_init 76 = .ok (.aload_n 0, 1) := by decide +kernel
theorem dX10_init_77 : decode cX10_init 77 = .ok (.bipush 25, 2) := by decide +kernel
theorem dX10_init_79 : decode cX10_init 79 = .ok (.newarray .int, 2) := by decide +kernel
theorem dX10_init_81 : decode cX10_init 81 = .ok (.putfield 38, 3) := by decide +kernel
theorem dX10_init_84 : decode cX10_init 84 = .ok (.aload_n 0, 1) := by decide +kernel
theorem dX10_init_85 : decode cX10_init 85 = .ok (.bipush 9, 2) := by decide +kernel
theorem dX10_init_87 : decode cX10_init 87 = .ok (.newarray .int, 2) := by decide +kernel
theorem dX10_init_89 : decode cX10_init 89 = .ok (.putfield 41, 3) := by decide +kernel
theorem dX10_init_92 : decode cX10_init 92 = .ok (.aload_n 0, 1) := by decide +kernel
theorem dX10_init_93 : decode cX10_init 93 = .ok (.bipush 36, 2) := by decide +kernel
theorem dX10_init_95 : decode cX10_init 95 = .ok (.newarray .long, 2) := by decide +kernel
theorem dX10_init_97 : decode cX10_init 97 = .ok (.putfield 44, 3) := by decide +kernel
theorem dX10_init_100 : decode cX10_init 100 = .ok (.return_, 1) := by decide +kernel
theorem dX10_in_0 : decode cX10_in 0 = .ok (.iload_n 0, 1) := by decide +kernel
theorem dX10_in_1 : decode cX10_in 1 = .ok (.iload_n 1, 1) := by decide +kernel
theorem dX10_in_2 : decode cX10_in 2 = .ok (.if_icmp .lt 12, 3) := by decide +kernel
theorem dX10_in_5 : decode cX10_in 5 = .ok (.iload_n 0, 1) := by decide +kernel
theorem dX10_in_6 : decode cX10_in 6 = .ok (.iload_n 2, 1) := by decide +kernel
theorem dX10_in_7 : decode cX10_in 7 = .ok (.if_icmp .gt 7, 3) := by decide +kernel
theorem dX10_in_10 : decode cX10_in 10 = .ok (.iconst 1, 1) := by decide +kernel
theorem dX10_in_11 : decode cX10_in 11 = .ok (.goto 4, 3) := by decide +kernel
theorem dX10_in_14 : decode cX10_in 14 = .ok (.iconst 0, 1) := by decide +kernel
theorem dX10_in_15 : decode cX10_in 15 = .ok (.ireturn, 1) := by decide +kernel
theorem dX10_has_0 : decode cX10_has 0 = .ok (.iload_n 0, 1) := by decide +kernel
theorem dX10_has_1 : decode cX10_has 1 = .ok (.iload_n 1, 1) := by decide +kernel
theorem dX10_has_2 : decode cX10_has 2 = .ok (.ishr, 1) := by decide +kernel
theorem dX10_has_3 : decode cX10_has 3 = .ok (.iconst 1, 1) := by decide +kernel
theorem dX10_has_4 : decode cX10_has 4 = .ok (.iand, 1) := by decide +kernel
theorem dX10_has_5 : decode cX10_has 5 = .ok (.iconst 1, 1) := by decide +kernel
theorem dX10_has_6 : decode cX10_has 6 = .ok (.if_icmp .ne 7, 3) := by decide +kernel
theorem dX10_has_9 : decode cX10_has 9 = .ok (.iconst 1, 1) := by decide +kernel
theorem dX10_has_10 : decode cX10_has 10 = .ok (.goto 4, 3) := by decide +kernel
theorem dX10_has_13 : decode cX10_has 13 = .ok (.iconst 0, 1) := by decide +kernel
theorem dX10_has_14 : decode cX10_has 14 = .ok (.ireturn, 1) := by decide +kernel
theorem dX10_bits_0 : decode cX10_bits 0 = .ok (.iconst 0, 1) := by decide +kernel
theorem dX10_bits_1 : decode cX10_bits 1 = .ok (.istore_n 1, 1) := by decide +kernel
theorem dX10_bits_2 : decode cX10_bits 2 = .ok (.iload_n 0, 1) := by decide +kernel
theorem dX10_bits_3 : decode cX10_bits 3 = .ok (.istore_n 2, 1) := by decide +kernel
theorem dX10_bits_4 : decode cX10_bits 4 = .ok (.iload_n 2, 1) := by decide +kernel
theorem dX10_bits_5 : decode cX10_bits 5 = .ok (.ifCond .eq 15, 3) := by decide +kernel
theorem dX10_bits_8 : decode cX10_bits 8 = .ok (.iinc 1 1, 3) := by decide +kernel
theorem dX10_bits_11 : decode cX10_bits 11 = .ok (.iload_n 2, 1) := by decide +kernel
theorem dX10_bits_12 : decode cX10_bits 12 = .ok (.iload_n 2, 1) := by decide +kernel
theorem dX10_bits_13 : decode cX10_bits 13 = .ok (.iconst 1, 1) := by decide +kernel
theorem dX10_bits_14 : decode cX10_bits 14 = .ok (.isub, 1) := by decide +kernel
theorem dX10_bits_15 : decode cX10_bits 15 = .ok (.iand, 1) := by decide +kernel
theorem dX10_bits_16 : decode cX10_bits 16 = .ok (.istore_n 2, 1) := by decide +kernel
theorem dX10_bits_17 : decode cX10_bits 17 = .ok (.goto (-13), 3) := by decide +kernel
theorem dX10_bits_20 : decode cX10_bits 20 = .ok (.iload_n 1, 1) := by decide +kernel
theorem dX10_bits_21 : decode cX10_bits 21 = .ok (.ireturn, 1) := by decide +kernel
theorem dX10_type_0 : decode cX10_type 0 = .ok (.iload_n 1, 1) := by decide +kernel
theorem dX10_type_1 : decode cX10_type 1 = .ok (.iconst 0, 1) := by decide +kernel
theorem dX10_type_2 : decode cX10_type 2 = .ok (.sipush 255, 3) := by decide +kernel
theorem dX10_type_5 : decode cX10_type 5 = .ok (.invokestatic 48, 3) := by decide +kernel
theorem dX10_type_8 : decode cX10_type 8 = .ok (.ifCond .ne 5, 3) := by decide +kernel
theorem dX10_type_11 : decode cX10_type 11 = .ok (.iconst (-1), 1) := by decide +kernel
theorem dX10_type_12 : decode cX10_type 12 = .ok (.ireturn, 1) := by decide +kernel
theorem dX10_type_13 : decode cX10_type 13 = .ok (.aload_n 0, 1) := by decide +kernel
theorem dX10_type_14 : decode cX10_type 14 = .ok (.getfield 52, 3) := by decide +kernel
theorem dX10_type_17 : decode cX10_type 17 = .ok (.bipush 110, 2) := by decide +kernel
theorem dX10_type_19 : decode cX10_type 19 = .ok (.if_icmp .ne 6, 3) := by decide +kernel
theorem dX10_type_22 : decode cX10_type 22 = .ok (.bipush (-3), 2) := by decide +kernel
theorem dX10_type_24 : decode cX10_type 24 = .ok (.ireturn, 1) := by decide +kernel
theorem dX10_type_25 : decode cX10_type 25 = .ok (.aload_n 0, 1) := by decide +kernel
theorem dX10_type_26 : decode cX10_type 26 = .ok (.getfield 29, 3) := by decide +kernel
theorem dX10_type_29 : decode cX10_type 29 = .ok (.aload_n 0, 1) := by decide +kernel
theorem dX10_type_30 : decode cX10_type 30 = .ok (.getfield 52, 3) := by decide +kernel
theorem dX10_type_33 : decode cX10_type 33 = .ok (.iload_n 1, 1) := by decide +kernel
theorem dX10_type_34 : decode cX10_type 34 = .ok (.iastore, 1) := by decide +kernel
theorem dX10_type_35 : decode cX10_type 35 = .ok (.aload_n 0, 1) := by decide +kernel
theorem dX10_type_36 : decode cX10_type 36 = .ok (.dup, 1) := by decide +kernel
theorem dX10_type_37 : decode cX10_type 37 = .ok (.getfield 52, 3) := by decide +kernel
theorem dX10_type_40 : decode cX10_type 40 = .ok (.iconst 1, 1) := by decide +kernel
theorem dX10_type_41 : decode cX10_type 41 = .ok (.iadd, 1) := by decide +kernel
theorem dX10_type_42 : decode cX10_type 42 = .ok (.putfield 52, 3) := by decide +kernel
theorem dX10_type_45 : decode cX10_type 45 = .ok (.aload_n 0, 1) := by decide +kernel
theorem dX10_type_46 : decode cX10_type 46 = .ok (.getfield 52, 3) := by decide +kernel
theorem dX10_type_49 : decode cX10_type 49 = .ok (.ireturn, 1) := by decide +kernel
theorem dX10_clear_0 : decode cX10_clear 0 = .ok (.aload_n 0, 1) := by decide +kernel
theorem dX10_clear_1 : decode cX10_clear 1 = .ok (.getfield 52, 3) := by decide +kernel
theorem dX10_clear_4 : decode cX10_clear 4 = .ok (.istore_n 1, 1) := by decide +kernel
theorem dX10_clear_5 : decode cX10_clear 5 = .ok (.aload_n 0, 1) := by decide +kernel
theorem dX10_clear_6 : decode cX10_clear 6 = .ok (.iconst 0, 1) := by decide +kernel
theorem dX10_clear_7 : decode cX10_clear 7 = .ok (.putfield 52, 3) := by decide +kernel
theorem dX10_clear_10 : decode cX10_clear 10 = .ok (.iload_n 1, 1) := by decide +kernel
theorem dX10_clear_11 : decode cX10_clear 11 = .ok (.ireturn, 1) := by decide +kernel
theorem dX10_isFigure_0 : decode cX10_isFigure 0 = .ok (.aload_n 0, 1) := by decide +kernel
theorem dX10_isFigure_1 : decode cX10_isFigure 1 = .ok (.getfield 56, 3) := by decide +kernel
theorem dX10_isFigure_4 : decode cX10_isFigure 4 = .ok (.aload_n 0, 1) := by decide +kernel
theorem dX10_isFigure_5 : decode cX10_isFigure 5 = .ok (.getfield 52, 3) := by decide +kernel
theorem dX10_isFigure_8 : decode cX10_isFigure 8 = .ok (.if_icmp .ge 26, 3) := by decide +kernel
theorem dX10_isFigure_11 : decode cX10_isFigure 11 = .ok (.aload_n 0, 1) := by decide +kernel
theorem dX10_isFigure_12 : decode cX10_isFigure 12 = .ok (.getfield 29, 3) := by decide +kernel
theorem dX10_isFigure_15 : decode cX10_isFigure 15 = .ok (.aload_n 0, 1) := by decide +kernel
theorem dX10_isFigure_16 : decode cX10_isFigure 16 = .ok (.getfield 56, 3) := by decide +kernel
theorem dX10_isFigure_19 : decode cX10_isFigure 19 = .ok (.iaload, 1) := by decide +kernel
theorem dX10_isFigure_20 : decode cX10_isFigure 20 = .ok (.bipush 48, 2) := by decide +kernel
theorem dX10_isFigure_22 : decode cX10_isFigure 22 = .ok (.bipush 57, 2) := by decide +kernel
theorem dX10_isFigure_24 : decode cX10_isFigure 24 = .ok (.invokestatic 48, 3) := by decide +kernel
theorem dX10_isFigure_27 : decode cX10_isFigure 27 = .ok (.ifCond .eq 7, 3) := by decide +kernel
theorem dX10_isFigure_30 : decode cX10_isFigure 30 = .ok (.iconst 1, 1) := by decide +kernel
theorem dX10_isFigure_31 : decode cX10_isFigure 31 = .ok (.goto 4, 3) := by decide +kernel
theorem dX10_isFigure_34 : decode cX10_isFigure 34 = .ok (.iconst 0, 1) := by decide +kernel
theorem dX10_isFigure_35 : decode cX10_isFigure 35 = .ok (.ireturn, 1) := by decide +kernel
theorem dX10_blanks_0 : decode cX10_blanks 0 = .ok (.aload_n 0, 1) := by decide +kernel
theorem dX10_blanks_1 : decode cX10_blanks 1 = .ok (.getfield 56, 3) := by decide +kernel
theorem dX10_blanks_4 : decode cX10_blanks 4 = .ok (.aload_n 0, 1) := by decide +kernel
theorem dX10_blanks_5 : decode cX10_blanks 5 = .ok (.getfield 52, 3) := by decide +kernel
theorem dX10_blanks_8 : decode cX10_blanks 8 = .ok (.if_icmp .ge 30, 3) := by decide +kernel
theorem dX10_blanks_11 : decode cX10_blanks 11 = .ok (.aload_n 0, 1) := by decide +kernel
theorem dX10_blanks_12 : decode cX10_blanks 12 = .ok (.getfield 29, 3) := by decide +kernel
theorem dX10_blanks_15 : decode cX10_blanks 15 = .ok (.aload_n 0, 1) := by decide +kernel
theorem dX10_blanks_16 : decode cX10_blanks 16 = .ok (.getfield 56, 3) := by decide +kernel
theorem dX10_blanks_19 : decode cX10_blanks 19 = .ok (.iaload, 1) := by decide +kernel
theorem dX10_blanks_20 : decode cX10_blanks 20 = .ok (.bipush 32, 2) := by decide +kernel
theorem dX10_blanks_22 : decode cX10_blanks 22 = .ok (.if_icmp .ne 16, 3) := by decide +kernel
theorem dX10_blanks_25 : decode cX10_blanks 25 = .ok (.aload_n 0, 1) := by decide +kernel
theorem dX10_blanks_26 : decode cX10_blanks 26 = .ok (.dup, 1) := by decide +kernel
theorem dX10_blanks_27 : decode cX10_blanks 27 = .ok (.getfield 56, 3) := by decide +kernel
theorem dX10_blanks_30 : decode cX10_blanks 30 = .ok (.iconst 1, 1) := by decide +kernel
theorem dX10_blanks_31 : decode cX10_blanks 31 = .ok (.iadd, 1) := by decide +kernel
theorem dX10_blanks_32 : decode cX10_blanks 32 = .ok (.putfield 56, 3) := by decide +kernel
theorem dX10_blanks_35 : decode cX10_blanks 35 = .ok (.goto (-35), 3) := by decide +kernel
theorem dX10_blanks_38 : decode cX10_blanks 38 = .ok (.return_, 1) := by decide +kernel
theorem dX10_next_0 : decode cX10_next 0 = .ok (.aload_n 0, 1) := by decide +kernel
theorem dX10_next_1 : decode cX10_next 1 = .ok (.invokevirtual 59, 3) := by decide +kernel
theorem dX10_next_4 : decode cX10_next 4 = .ok (.aload_n 0, 1) := by decide +kernel
theorem dX10_next_5 : decode cX10_next 5 = .ok (.aload_n 0, 1) := by decide +kernel
theorem dX10_next_6 : decode cX10_next 6 = .ok (.getfield 56, 3) := by decide +kernel
theorem dX10_next_9 : decode cX10_next 9 = .ok (.putfield 62, 3) := by decide +kernel
theorem dX10_next_12 : decode cX10_next 12 = .ok (.aload_n 0, 1) := by decide +kernel
theorem dX10_next_13 : decode cX10_next 13 = .ok (.getfield 56, 3) := by decide +kernel
theorem dX10_next_16 : decode cX10_next 16 = .ok (.aload_n 0, 1) := by decide +kernel
theorem dX10_next_17 : decode cX10_next 17 = .ok (.getfield 52, 3) := by decide +kernel
theorem dX10_next_20 : decode cX10_next 20 = .ok (.if_icmp .ne 11, 3) := by decide +kernel
theorem dX10_next_23 : decode cX10_next 23 = .ok (.aload_n 0, 1) := by decide +kernel
theorem dX10_next_24 : decode cX10_next 24 = .ok (.iconst (-1), 1) := by decide +kernel
theorem dX10_next_25 : decode cX10_next 25 = .ok (.putfield 65, 3) := by decide +kernel
theorem dX10_next_28 : decode cX10_next 28 = .ok (.goto 185, 3) := by decide +kernel
theorem dX10_next_31 : decode cX10_next 31 = .ok (.aload_n 0, 1) := by decide +kernel
theorem dX10_next_32 : decode cX10_next 32 = .ok (.invokevirtual 68, 3) := by decide +kernel
theorem dX10_next_35 : decode cX10_next 35 = .ok (.ifCond .eq 117, 3) := by decide +kernel
theorem dX10_next_38 : decode cX10_next 38 = .ok (.aload_n 0, 1) := by decide +kernel
theorem dX10_next_39 : decode cX10_next 39 = .ok (.iconst 0, 1) := by decide +kernel
theorem dX10_next_40 : decode cX10_next 40 = .ok (.putfield 72, 3) := by decide +kernel
theorem dX10_next_43 : decode cX10_next 43 = .ok (.aload_n 0, 1) := by decide +kernel
theorem dX10_next_44 : decode cX10_next 44 = .ok (.invokevirtual 68, 3) := by decide +kernel
theorem dX10_next_47 : decode cX10_next 47 = .ok (.ifCond .eq 56, 3) := by decide +kernel
theorem dX10_next_50 : decode cX10_next 50 = .ok (.aload_n 0, 1) := by decide +kernel
theorem dX10_next_51 : decode cX10_next 51 = .ok (.aload_n 0, 1) := by decide +kernel
theorem dX10_next_52 : decode cX10_next 52 = .ok (.getfield 72, 3) := by decide +kernel
theorem dX10_next_55 : decode cX10_next 55 = .ok (.bipush 99, 2) := by decide +kernel
theorem dX10_next_57 : decode cX10_next 57 = .ok (.if_icmp .le 10, 3) := by decide +kernel
theorem dX10_next_60 : decode cX10_next 60 = .ok (.aload_n 0, 1) := by decide +kernel
theorem dX10_next_61 : decode cX10_next 61 = .ok (.getfield 72, 3) := by decide +kernel
theorem dX10_next_64 : decode cX10_next 64 = .ok (.goto 23, 3) := by decide +kernel
theorem dX10_next_67 : decode cX10_next 67 = .ok (.bipush 10, 2) := by decide +kernel
theorem dX10_next_69 : decode cX10_next 69 = .ok (.aload_n 0, 1) := by decide +kernel
theorem dX10_next_70 : decode cX10_next 70 = .ok (.getfield 72, 3) := by decide +kernel
theorem dX10_next_73 : decode cX10_next 73 = .ok (.imul, 1) := by decide +kernel
theorem dX10_next_74 : decode cX10_next 74 = .ok (.aload_n 0, 1) := by decide +kernel
theorem dX10_next_75 : decode cX10_next 75 = .ok (.getfield 29, 3) := by decide +kernel
theorem dX10_next_78 : decode cX10_next 78 = .ok (.aload_n 0, 1) := by decide +kernel
theorem dX10_next_79 : decode cX10_next 79 = .ok (.getfield 56, 3) := by decide +kernel
theorem dX10_next_82 : decode cX10_next 82 = .ok (.iaload, 1) := by decide +kernel
theorem dX10_next_83 : decode cX10_next 83 = .ok (.iadd, 1) := by decide +kernel
theorem dX10_next_84 : decode cX10_next 84 = .ok (.bipush 48, 2) := by decide +kernel
theorem dX10_next_86 : decode cX10_next 86 = .ok (.isub, 1) := by decide +kernel
theorem dX10_next_87 : decode cX10_next 87 = .ok (.putfield 72, 3) := by decide +kernel
theorem dX10_next_90 : decode cX10_next 90 = .ok (.aload_n 0, 1) := by decide +kernel
theorem dX10_next_91 : decode cX10_next 91 = .ok (.dup, 1) := by decide +kernel
theorem dX10_next_92 : decode cX10_next 92 = .ok (.getfield 56, 3) := by decide +kernel
theorem dX10_next_95 : decode cX10_next 95 = .ok (.iconst 1, 1) := by decide +kernel
theorem dX10_next_96 : decode cX10_next 96 = .ok (.iadd, 1) := by decide +kernel
theorem dX10_next_97 : decode cX10_next 97 = .ok (.putfield 56, 3) := by decide +kernel
theorem dX10_next_100 : decode cX10_next 100 = .ok (.goto (-57), 3) := by decide +kernel
theorem dX10_next_103 : decode cX10_next 103 = .ok (.aload_n 0, 1) := by decide +kernel
theorem dX10_next_104 : decode cX10_next 104 = .ok (.aload_n 0, 1) := by decide +kernel
theorem dX10_next_105 : decode cX10_next 105 = .ok (.getfield 72, 3) := by decide +kernel
theorem dX10_next_108 : decode cX10_next 108 = .ok (.bipush 99, 2) := by decide +kernel
theorem dX10_next_110 : decode cX10_next 110 = .ok (.if_icmp .gt 30, 3) := by decide +kernel
theorem dX10_next_113 : decode cX10_next 113 = .ok (.aload_n 0, 1) := by decide +kernel
theorem dX10_next_114 : decode cX10_next 114 = .ok (.getfield 29, 3) := by decide +kernel
theorem dX10_next_117 : decode cX10_next 117 = .ok (.aload_n 0, 1) := by decide +kernel
theorem dX10_next_118 : decode cX10_next 118 = .ok (.getfield 62, 3) := by decide +kernel
theorem dX10_next_121 : decode cX10_next 121 = .ok (.iaload, 1) := by decide +kernel
theorem dX10_next_122 : decode cX10_next 122 = .ok (.bipush 48, 2) := by decide +kernel
theorem dX10_next_124 : decode cX10_next 124 = .ok (.if_icmp .ne 21, 3) := by decide +kernel
theorem dX10_next_127 : decode cX10_next 127 = .ok (.aload_n 0, 1) := by decide +kernel
theorem dX10_next_128 : decode cX10_next 128 = .ok (.getfield 56, 3) := by decide +kernel
theorem dX10_next_131 : decode cX10_next 131 = .ok (.aload_n 0, 1) := by decide +kernel
theorem dX10_next_132 : decode cX10_next 132 = .ok (.getfield 62, 3) := by decide +kernel
theorem dX10_next_135 : decode cX10_next 135 = .ok (.isub, 1) := by decide +kernel
theorem dX10_next_136 : decode cX10_next 136 = .ok (.iconst 1, 1) := by decide +kernel
theorem dX10_next_137 : decode cX10_next 137 = .ok (.if_icmp .le 8, 3) := by decide +kernel
theorem dX10_next_140 : decode cX10_next 140 = .ok (.bipush (-2), 2) := by decide +kernel
theorem dX10_next_142 : decode cX10_next 142 = .ok (.goto 4, 3) := by decide +kernel
theorem dX10_next_145 : decode cX10_next 145 = .ok (.iconst 0, 1) := by decide +kernel
theorem dX10_next_146 : decode cX10_next 146 = .ok (.putfield 65, 3) := by decide +kernel
theorem dX10_next_149 : decode cX10_next 149 = .ok (.goto 64, 3) := by decide +kernel
theorem dX10_next_152 : decode cX10_next 152 = .ok (.aload_n 0, 1) := by decide +kernel
theorem dX10_next_153 : decode cX10_next 153 = .ok (.aload_n 0, 1) := by decide +kernel
theorem dX10_next_154 : decode cX10_next 154 = .ok (.getfield 29, 3) := by decide +kernel
theorem dX10_next_157 : decode cX10_next 157 = .ok (.aload_n 0, 1) := by decide +kernel
theorem dX10_next_158 : decode cX10_next 158 = .ok (.getfield 56, 3) := by decide +kernel
theorem dX10_next_161 : decode cX10_next 161 = .ok (.iaload, 1) := by decide +kernel
theorem dX10_next_162 : decode cX10_next 162 = .ok (.bipush 97, 2) := by decide +kernel
theorem dX10_next_164 : decode cX10_next 164 = .ok (.bipush 122, 2) := by decide +kernel
theorem dX10_next_166 : decode cX10_next 166 = .ok (.invokestatic 48, 3) := by decide +kernel
theorem dX10_next_169 : decode cX10_next 169 = .ok (.ifCond .ne 17, 3) := by decide +kernel
theorem dX10_next_172 : decode cX10_next 172 = .ok (.aload_n 0, 1) := by decide +kernel
theorem dX10_next_173 : decode cX10_next 173 = .ok (.getfield 29, 3) := by decide +kernel
theorem dX10_next_176 : decode cX10_next 176 = .ok (.aload_n 0, 1) := by decide +kernel
theorem dX10_next_177 : decode cX10_next 177 = .ok (.getfield 56, 3) := by decide +kernel
theorem dX10_next_180 : decode cX10_next 180 = .ok (.iaload, 1) := by decide +kernel
theorem dX10_next_181 : decode cX10_next 181 = .ok (.bipush 59, 2) := by decide +kernel
theorem dX10_next_183 : decode cX10_next 183 = .ok (.if_icmp .ne 15, 3) := by decide +kernel
theorem dX10_next_186 : decode cX10_next 186 = .ok (.aload_n 0, 1) := by decide +kernel
theorem dX10_next_187 : decode cX10_next 187 = .ok (.getfield 29, 3) := by decide +kernel
theorem dX10_next_190 : decode cX10_next 190 = .ok (.aload_n 0, 1) := by decide +kernel
theorem dX10_next_191 : decode cX10_next 191 = .ok (.getfield 56, 3) := by decide +kernel
theorem dX10_next_194 : decode cX10_next 194 = .ok (.iaload, 1) := by decide +kernel
theorem dX10_next_195 : decode cX10_next 195 = .ok (.goto 5, 3) := by decide +kernel
theorem dX10_next_198 : decode cX10_next 198 = .ok (.bipush (-2), 2) := by decide +kernel
theorem dX10_next_200 : decode cX10_next 200 = .ok (.putfield 65, 3) := by decide +kernel
theorem dX10_next_203 : decode cX10_next 203 = .ok (.aload_n 0, 1) := by decide +kernel
theorem dX10_next_204 : decode cX10_next 204 = .ok (.dup, 1) := by decide +kernel
theorem dX10_next_205 : decode cX10_next 205 = .ok (.getfield 56, 3) := by decide +kernel
theorem dX10_next_208 : decode cX10_next 208 = .ok (.iconst 1, 1) := by decide +kernel
theorem dX10_next_209 : decode cX10_next 209 = .ok (.iadd, 1) := by decide +kernel
theorem dX10_next_210 : decode cX10_next 210 = .ok (.putfield 56, 3) := by decide +kernel
theorem dX10_next_213 : decode cX10_next 213 = .ok (.return_, 1) := by decide +kernel
theorem dX10_fails_0 : decode cX10_fails 0 = .ok (.aload_n 0, 1) := by decide +kernel
theorem dX10_fails_1 : decode cX10_fails 1 = .ok (.aload_n 0, 1) := by decide +kernel
theorem dX10_fails_2 : decode cX10_fails 2 = .ok (.getfield 62, 3) := by decide +kernel
theorem dX10_fails_5 : decode cX10_fails 5 = .ok (.putfield 75, 3) := by decide +kernel
theorem dX10_fails_8 : decode cX10_fails 8 = .ok (.iconst 0, 1) := by decide +kernel
theorem dX10_fails_9 : decode cX10_fails 9 = .ok (.ireturn, 1) := by decide +kernel
theorem dX10_number_0 : decode cX10_number 0 = .ok (.aload_n 0, 1) := by decide +kernel
theorem dX10_number_1 : decode cX10_number 1 = .ok (.invokevirtual 78, 3) := by decide +kernel
theorem dX10_number_4 : decode cX10_number 4 = .ok (.aload_n 0, 1) := by decide +kernel
theorem dX10_number_5 : decode cX10_number 5 = .ok (.getfield 65, 3) := by decide +kernel
theorem dX10_number_8 : decode cX10_number 8 = .ok (.ifCond .ne 11, 3) := by decide +kernel
theorem dX10_number_11 : decode cX10_number 11 = .ok (.aload_n 0, 1) := by decide +kernel
theorem dX10_number_12 : decode cX10_number 12 = .ok (.getfield 72, 3) := by decide +kernel
theorem dX10_number_15 : decode cX10_number 15 = .ok (.iload_n 1, 1) := by decide +kernel
theorem dX10_number_16 : decode cX10_number 16 = .ok (.if_icmp .le 10, 3) := by decide +kernel
theorem dX10_number_19 : decode cX10_number 19 = .ok (.aload_n 0, 1) := by decide +kernel
theorem dX10_number_20 : decode cX10_number 20 = .ok (.invokevirtual 81, 3) := by decide +kernel
theorem dX10_number_23 : decode cX10_number 23 = .ok (.ifCond .eq 7, 3) := by decide +kernel
theorem dX10_number_26 : decode cX10_number 26 = .ok (.iconst 1, 1) := by decide +kernel
theorem dX10_number_27 : decode cX10_number 27 = .ok (.goto 4, 3) := by decide +kernel
theorem dX10_number_30 : decode cX10_number 30 = .ok (.iconst 0, 1) := by decide +kernel
theorem dX10_number_31 : decode cX10_number 31 = .ok (.ireturn, 1) := by decide +kernel
theorem dX10_ends_0 : decode cX10_ends 0 = .ok (.aload_n 0, 1) := by decide +kernel
theorem dX10_ends_1 : decode cX10_ends 1 = .ok (.invokevirtual 78, 3) := by decide +kernel
theorem dX10_ends_4 : decode cX10_ends 4 = .ok (.aload_n 0, 1) := by decide +kernel
theorem dX10_ends_5 : decode cX10_ends 5 = .ok (.getfield 65, 3) := by decide +kernel
theorem dX10_ends_8 : decode cX10_ends 8 = .ok (.bipush 59, 2) := by decide +kernel
theorem dX10_ends_10 : decode cX10_ends 10 = .ok (.if_icmp .eq 10, 3) := by decide +kernel
theorem dX10_ends_13 : decode cX10_ends 13 = .ok (.aload_n 0, 1) := by decide +kernel
theorem dX10_ends_14 : decode cX10_ends 14 = .ok (.invokevirtual 81, 3) := by decide +kernel
theorem dX10_ends_17 : decode cX10_ends 17 = .ok (.ifCond .eq 7, 3) := by decide +kernel
theorem dX10_ends_20 : decode cX10_ends 20 = .ok (.iconst 1, 1) := by decide +kernel
theorem dX10_ends_21 : decode cX10_ends 21 = .ok (.goto 4, 3) := by decide +kernel
theorem dX10_ends_24 : decode cX10_ends 24 = .ok (.iconst 0, 1) := by decide +kernel
theorem dX10_ends_25 : decode cX10_ends 25 = .ok (.ireturn, 1) := by decide +kernel
theorem dX10_clockOf_0 : decode cX10_clockOf 0 = .ok (.iload_n 0, 1) := by decide +kernel
theorem dX10_clockOf_1 : decode cX10_clockOf 1 = .ok (.bipush 112, 2) := by decide +kernel
theorem dX10_clockOf_3 : decode cX10_clockOf 3 = .ok (.if_icmp .ne 7, 3) := by decide +kernel
theorem dX10_clockOf_6 : decode cX10_clockOf 6 = .ok (.iconst 0, 1) := by decide +kernel
theorem dX10_clockOf_7 : decode cX10_clockOf 7 = .ok (.goto 45, 3) := by decide +kernel
theorem dX10_clockOf_10 : decode cX10_clockOf 10 = .ok (.iload_n 0, 1) := by decide +kernel
theorem dX10_clockOf_11 : decode cX10_clockOf 11 = .ok (.bipush 108, 2) := by decide +kernel
theorem dX10_clockOf_13 : decode cX10_clockOf 13 = .ok (.if_icmp .ne 7, 3) := by decide +kernel
theorem dX10_clockOf_16 : decode cX10_clockOf 16 = .ok (.iconst 1, 1) := by decide +kernel
theorem dX10_clockOf_17 : decode cX10_clockOf 17 = .ok (.goto 35, 3) := by decide +kernel
theorem dX10_clockOf_20 : decode cX10_clockOf 20 = .ok (.iload_n 0, 1) := by decide +kernel
theorem dX10_clockOf_21 : decode cX10_clockOf 21 = .ok (.bipush 101, 2) := by decide +kernel
theorem dX10_clockOf_23 : decode cX10_clockOf 23 = .ok (.if_icmp .ne 7, 3) := by decide +kernel
theorem dX10_clockOf_26 : decode cX10_clockOf 26 = .ok (.iconst 2, 1) := by decide +kernel
theorem dX10_clockOf_27 : decode cX10_clockOf 27 = .ok (.goto 25, 3) := by decide +kernel
theorem dX10_clockOf_30 : decode cX10_clockOf 30 = .ok (.iload_n 0, 1) := by decide +kernel
theorem dX10_clockOf_31 : decode cX10_clockOf 31 = .ok (.bipush 100, 2) := by decide +kernel
theorem dX10_clockOf_33 : decode cX10_clockOf 33 = .ok (.if_icmp .ne 7, 3) := by decide +kernel
theorem dX10_clockOf_36 : decode cX10_clockOf 36 = .ok (.iconst 3, 1) := by decide +kernel
theorem dX10_clockOf_37 : decode cX10_clockOf 37 = .ok (.goto 15, 3) := by decide +kernel
theorem dX10_clockOf_40 : decode cX10_clockOf 40 = .ok (.iload_n 0, 1) := by decide +kernel
theorem dX10_clockOf_41 : decode cX10_clockOf 41 = .ok (.bipush 98, 2) := by decide +kernel
theorem dX10_clockOf_43 : decode cX10_clockOf 43 = .ok (.if_icmp .ne 7, 3) := by decide +kernel
theorem dX10_clockOf_46 : decode cX10_clockOf 46 = .ok (.iconst 4, 1) := by decide +kernel
theorem dX10_clockOf_47 : decode cX10_clockOf 47 = .ok (.goto 5, 3) := by decide +kernel
theorem dX10_clockOf_50 : decode cX10_clockOf 50 = .ok (.bipush (-9), 2) := by decide +kernel
theorem dX10_clockOf_52 : decode cX10_clockOf 52 = .ok (.ireturn, 1) := by decide +kernel
theorem dX10_readsStation_0 : decode cX10_readsStation 0 = .ok (.aload_n 0, 1) := by decide +kernel
theorem dX10_readsStation_1 : decode cX10_readsStation 1 = .ok (.getfield 84, 3) := by decide +kernel
theorem dX10_readsStation_4 : decode cX10_readsStation 4 = .ok (.bipush 6, 2) := by decide +kernel
theorem dX10_readsStation_6 : decode cX10_readsStation 6 = .ok (.if_icmp .ne 8, 3) := by decide +kernel
theorem dX10_readsStation_9 : decode cX10_readsStation 9 = .ok (.aload_n 0, 1) := by decide +kernel
theorem dX10_readsStation_10 : decode cX10_readsStation 10 = .ok (.invokevirtual 81, 3) := by decide +kernel
theorem dX10_readsStation_13 : decode cX10_readsStation 13 = .ok (.ireturn, 1) := by decide +kernel
theorem dX10_readsStation_14 : decode cX10_readsStation 14 = .ok (.aload_n 0, 1) := by decide +kernel
theorem dX10_readsStation_15 : decode cX10_readsStation 15 = .ok (.bipush 29, 2) := by decide +kernel
theorem dX10_readsStation_17 : decode cX10_readsStation 17 = .ok (.invokevirtual 87, 3) := by decide +kernel
theorem dX10_readsStation_20 : decode cX10_readsStation 20 = .ok (.ifCond .ne 5, 3) := by decide +kernel
theorem dX10_readsStation_23 : decode cX10_readsStation 23 = .ok (.iconst 0, 1) := by decide +kernel
theorem dX10_readsStation_24 : decode cX10_readsStation 24 = .ok (.ireturn, 1) := by decide +kernel
theorem dX10_readsStation_25 : decode cX10_readsStation 25 = .ok (.aload_n 0, 1) := by decide +kernel
theorem dX10_readsStation_26 : decode cX10_readsStation 26 = .ok (.getfield 32, 3) := by decide +kernel
theorem dX10_readsStation_29 : decode cX10_readsStation 29 = .ok (.aload_n 0, 1) := by decide +kernel
theorem dX10_readsStation_30 : decode cX10_readsStation 30 = .ok (.getfield 84, 3) := by decide +kernel
theorem dX10_readsStation_33 : decode cX10_readsStation 33 = .ok (.aload_n 0, 1) := by decide +kernel
theorem dX10_readsStation_34 : decode cX10_readsStation 34 = .ok (.getfield 72, 3) := by decide +kernel
theorem dX10_readsStation_37 : decode cX10_readsStation 37 = .ok (.iastore, 1) := by decide +kernel
theorem dX10_readsStation_38 : decode cX10_readsStation 38 = .ok (.aload_n 0, 1) := by decide +kernel
theorem dX10_readsStation_39 : decode cX10_readsStation 39 = .ok (.bipush 29, 2) := by decide +kernel
theorem dX10_readsStation_41 : decode cX10_readsStation 41 = .ok (.invokevirtual 87, 3) := by decide +kernel
theorem dX10_readsStation_44 : decode cX10_readsStation 44 = .ok (.ifCond .ne 5, 3) := by decide +kernel
theorem dX10_readsStation_47 : decode cX10_readsStation 47 = .ok (.iconst 0, 1) := by decide +kernel
theorem dX10_readsStation_48 : decode cX10_readsStation 48 = .ok (.ireturn, 1) := by decide +kernel
theorem dX10_readsStation_49 : decode cX10_readsStation 49 = .ok (.aload_n 0, 1) := by decide +kernel
theorem dX10_readsStation_50 : decode cX10_readsStation 50 = .ok (.getfield 35, 3) := by decide +kernel
theorem dX10_readsStation_53 : decode cX10_readsStation 53 = .ok (.aload_n 0, 1) := by decide +kernel
theorem dX10_readsStation_54 : decode cX10_readsStation 54 = .ok (.getfield 84, 3) := by decide +kernel
theorem dX10_readsStation_57 : decode cX10_readsStation 57 = .ok (.aload_n 0, 1) := by decide +kernel
theorem dX10_readsStation_58 : decode cX10_readsStation 58 = .ok (.getfield 72, 3) := by decide +kernel
theorem dX10_readsStation_61 : decode cX10_readsStation 61 = .ok (.iastore, 1) := by decide +kernel
theorem dX10_readsStation_62 : decode cX10_readsStation 62 = .ok (.aload_n 0, 1) := by decide +kernel
theorem dX10_readsStation_63 : decode cX10_readsStation 63 = .ok (.invokevirtual 78, 3) := by decide +kernel
theorem dX10_readsStation_66 : decode cX10_readsStation 66 = .ok (.aload_n 0, 1) := by decide +kernel
theorem dX10_readsStation_67 : decode cX10_readsStation 67 = .ok (.getfield 65, 3) := by decide +kernel
theorem dX10_readsStation_70 : decode cX10_readsStation 70 = .ok (.invokestatic 91, 3) := by decide +kernel
theorem dX10_readsStation_73 : decode cX10_readsStation 73 = .ok (.bipush (-9), 2) := by decide +kernel
theorem dX10_readsStation_75 : decode cX10_readsStation 75 = .ok (.if_icmp .ne 8, 3) := by decide +kernel
theorem dX10_readsStation_78 : decode cX10_readsStation 78 = .ok (.aload_n 0, 1) := by decide +kernel
theorem dX10_readsStation_79 : decode cX10_readsStation 79 = .ok (.invokevirtual 81, 3) := by decide +kernel
theorem dX10_readsStation_82 : decode cX10_readsStation 82 = .ok (.ireturn, 1) := by decide +kernel
theorem dX10_readsStation_83 : decode cX10_readsStation 83 = .ok (.aload_n 0, 1) := by decide +kernel
theorem dX10_readsStation_84 : decode cX10_readsStation 84 = .ok (.getfield 38, 3) := by decide +kernel
theorem dX10_readsStation_87 : decode cX10_readsStation 87 = .ok (.iconst 1, 1) := by decide +kernel
theorem dX10_readsStation_88 : decode cX10_readsStation 88 = .ok (.aload_n 0, 1) := by decide +kernel
theorem dX10_readsStation_89 : decode cX10_readsStation 89 = .ok (.getfield 84, 3) := by decide +kernel
theorem dX10_readsStation_92 : decode cX10_readsStation 92 = .ok (.iadd, 1) := by decide +kernel
theorem dX10_readsStation_93 : decode cX10_readsStation 93 = .ok (.aload_n 0, 1) := by decide +kernel
theorem dX10_readsStation_94 : decode cX10_readsStation 94 = .ok (.getfield 65, 3) := by decide +kernel
theorem dX10_readsStation_97 : decode cX10_readsStation 97 = .ok (.invokestatic 91, 3) := by decide +kernel
theorem dX10_readsStation_100 : decode cX10_readsStation 100 = .ok (.iastore, 1) := by decide +kernel
theorem dX10_readsStation_101 : decode cX10_readsStation 101 = .ok (.aload_n 0, 1) := by decide +kernel
theorem dX10_readsStation_102 : decode cX10_readsStation 102 = .ok (.dup, 1) := by decide +kernel
theorem dX10_readsStation_103 : decode cX10_readsStation 103 = .ok (.getfield 84, 3) := by decide +kernel
theorem dX10_readsStation_106 : decode cX10_readsStation 106 = .ok (.iconst 1, 1) := by decide +kernel
theorem dX10_readsStation_107 : decode cX10_readsStation 107 = .ok (.iadd, 1) := by decide +kernel
theorem dX10_readsStation_108 : decode cX10_readsStation 108 = .ok (.putfield 84, 3) := by decide +kernel
theorem dX10_readsStation_111 : decode cX10_readsStation 111 = .ok (.aload_n 0, 1) := by decide +kernel
theorem dX10_readsStation_112 : decode cX10_readsStation 112 = .ok (.invokevirtual 95, 3) := by decide +kernel
theorem dX10_readsStation_115 : decode cX10_readsStation 115 = .ok (.ireturn, 1) := by decide +kernel
theorem dX10_readsReading_0 : decode cX10_readsReading 0 = .ok (.aload_n 0, 1) := by decide +kernel
theorem dX10_readsReading_1 : decode cX10_readsReading 1 = .ok (.getfield 38, 3) := by decide +kernel
theorem dX10_readsReading_4 : decode cX10_readsReading 4 = .ok (.iconst 0, 1) := by decide +kernel
theorem dX10_readsReading_5 : decode cX10_readsReading 5 = .ok (.iaload, 1) := by decide +kernel
theorem dX10_readsReading_6 : decode cX10_readsReading 6 = .ok (.bipush 9, 2) := by decide +kernel
theorem dX10_readsReading_8 : decode cX10_readsReading 8 = .ok (.if_icmp .ne 8, 3) := by decide +kernel
theorem dX10_readsReading_11 : decode cX10_readsReading 11 = .ok (.aload_n 0, 1) := by decide +kernel
theorem dX10_readsReading_12 : decode cX10_readsReading 12 = .ok (.invokevirtual 81, 3) := by decide +kernel
theorem dX10_readsReading_15 : decode cX10_readsReading 15 = .ok (.ireturn, 1) := by decide +kernel
theorem dX10_readsReading_16 : decode cX10_readsReading 16 = .ok (.aload_n 0, 1) := by decide +kernel
theorem dX10_readsReading_17 : decode cX10_readsReading 17 = .ok (.aload_n 0, 1) := by decide +kernel
theorem dX10_readsReading_18 : decode cX10_readsReading 18 = .ok (.getfield 84, 3) := by decide +kernel
theorem dX10_readsReading_21 : decode cX10_readsReading 21 = .ok (.iconst 1, 1) := by decide +kernel
theorem dX10_readsReading_22 : decode cX10_readsReading 22 = .ok (.isub, 1) := by decide +kernel
theorem dX10_readsReading_23 : decode cX10_readsReading 23 = .ok (.invokevirtual 87, 3) := by decide +kernel
theorem dX10_readsReading_26 : decode cX10_readsReading 26 = .ok (.ifCond .ne 5, 3) := by decide +kernel
theorem dX10_readsReading_29 : decode cX10_readsReading 29 = .ok (.iconst 0, 1) := by decide +kernel
theorem dX10_readsReading_30 : decode cX10_readsReading 30 = .ok (.ireturn, 1) := by decide +kernel
theorem dX10_readsReading_31 : decode cX10_readsReading 31 = .ok (.aload_n 0, 1) := by decide +kernel
theorem dX10_readsReading_32 : decode cX10_readsReading 32 = .ok (.getfield 38, 3) := by decide +kernel
theorem dX10_readsReading_35 : decode cX10_readsReading 35 = .ok (.bipush 7, 2) := by decide +kernel
theorem dX10_readsReading_37 : decode cX10_readsReading 37 = .ok (.aload_n 0, 1) := by decide +kernel
theorem dX10_readsReading_38 : decode cX10_readsReading 38 = .ok (.getfield 38, 3) := by decide +kernel
theorem dX10_readsReading_41 : decode cX10_readsReading 41 = .ok (.iconst 0, 1) := by decide +kernel
theorem dX10_readsReading_42 : decode cX10_readsReading 42 = .ok (.iaload, 1) := by decide +kernel
theorem dX10_readsReading_43 : decode cX10_readsReading 43 = .ok (.iadd, 1) := by decide +kernel
theorem dX10_readsReading_44 : decode cX10_readsReading 44 = .ok (.aload_n 0, 1) := by decide +kernel
theorem dX10_readsReading_45 : decode cX10_readsReading 45 = .ok (.getfield 72, 3) := by decide +kernel
theorem dX10_readsReading_48 : decode cX10_readsReading 48 = .ok (.iastore, 1) := by decide +kernel
theorem dX10_readsReading_49 : decode cX10_readsReading 49 = .ok (.aload_n 0, 1) := by decide +kernel
theorem dX10_readsReading_50 : decode cX10_readsReading 50 = .ok (.bipush 60, 2) := by decide +kernel
theorem dX10_readsReading_52 : decode cX10_readsReading 52 = .ok (.invokevirtual 87, 3) := by decide +kernel
theorem dX10_readsReading_55 : decode cX10_readsReading 55 = .ok (.ifCond .ne 5, 3) := by decide +kernel
theorem dX10_readsReading_58 : decode cX10_readsReading 58 = .ok (.iconst 0, 1) := by decide +kernel
theorem dX10_readsReading_59 : decode cX10_readsReading 59 = .ok (.ireturn, 1) := by decide +kernel
theorem dX10_readsReading_60 : decode cX10_readsReading 60 = .ok (.aload_n 0, 1) := by decide +kernel
theorem dX10_readsReading_61 : decode cX10_readsReading 61 = .ok (.getfield 38, 3) := by decide +kernel
theorem dX10_readsReading_64 : decode cX10_readsReading 64 = .ok (.bipush 16, 2) := by decide +kernel
theorem dX10_readsReading_66 : decode cX10_readsReading 66 = .ok (.aload_n 0, 1) := by decide +kernel
theorem dX10_readsReading_67 : decode cX10_readsReading 67 = .ok (.getfield 38, 3) := by decide +kernel
theorem dX10_readsReading_70 : decode cX10_readsReading 70 = .ok (.iconst 0, 1) := by decide +kernel
theorem dX10_readsReading_71 : decode cX10_readsReading 71 = .ok (.iaload, 1) := by decide +kernel
theorem dX10_readsReading_72 : decode cX10_readsReading 72 = .ok (.iadd, 1) := by decide +kernel
theorem dX10_readsReading_73 : decode cX10_readsReading 73 = .ok (.aload_n 0, 1) := by decide +kernel
theorem dX10_readsReading_74 : decode cX10_readsReading 74 = .ok (.getfield 72, 3) := by decide +kernel
theorem dX10_readsReading_77 : decode cX10_readsReading 77 = .ok (.iastore, 1) := by decide +kernel
theorem dX10_readsReading_78 : decode cX10_readsReading 78 = .ok (.aload_n 0, 1) := by decide +kernel
theorem dX10_readsReading_79 : decode cX10_readsReading 79 = .ok (.getfield 38, 3) := by decide +kernel
theorem dX10_readsReading_82 : decode cX10_readsReading 82 = .ok (.iconst 0, 1) := by decide +kernel
theorem dX10_readsReading_83 : decode cX10_readsReading 83 = .ok (.dup2, 1) := by decide +kernel
theorem dX10_readsReading_84 : decode cX10_readsReading 84 = .ok (.iaload, 1) := by decide +kernel
theorem dX10_readsReading_85 : decode cX10_readsReading 85 = .ok (.iconst 1, 1) := by decide +kernel
theorem dX10_readsReading_86 : decode cX10_readsReading 86 = .ok (.iadd, 1) := by decide +kernel
theorem dX10_readsReading_87 : decode cX10_readsReading 87 = .ok (.iastore, 1) := by decide +kernel
theorem dX10_readsReading_88 : decode cX10_readsReading 88 = .ok (.aload_n 0, 1) := by decide +kernel
theorem dX10_readsReading_89 : decode cX10_readsReading 89 = .ok (.invokevirtual 95, 3) := by decide +kernel
theorem dX10_readsReading_92 : decode cX10_readsReading 92 = .ok (.ireturn, 1) := by decide +kernel
theorem dX10_field_0 : decode cX10_field 0 = .ok (.aload_n 0, 1) := by decide +kernel
theorem dX10_field_1 : decode cX10_field 1 = .ok (.iconst 0, 1) := by decide +kernel
theorem dX10_field_2 : decode cX10_field 2 = .ok (.putfield 56, 3) := by decide +kernel
theorem dX10_field_5 : decode cX10_field 5 = .ok (.aload_n 0, 1) := by decide +kernel
theorem dX10_field_6 : decode cX10_field 6 = .ok (.iconst 0, 1) := by decide +kernel
theorem dX10_field_7 : decode cX10_field 7 = .ok (.putfield 84, 3) := by decide +kernel
theorem dX10_field_10 : decode cX10_field 10 = .ok (.iconst 0, 1) := by decide +kernel
theorem dX10_field_11 : decode cX10_field 11 = .ok (.istore_n 1, 1) := by decide +kernel
theorem dX10_field_12 : decode cX10_field 12 = .ok (.iload_n 1, 1) := by decide +kernel
theorem dX10_field_13 : decode cX10_field 13 = .ok (.bipush 25, 2) := by decide +kernel
theorem dX10_field_15 : decode cX10_field 15 = .ok (.if_icmp .ge 16, 3) := by decide +kernel
theorem dX10_field_18 : decode cX10_field 18 = .ok (.aload_n 0, 1) := by decide +kernel
theorem dX10_field_19 : decode cX10_field 19 = .ok (.getfield 38, 3) := by decide +kernel
theorem dX10_field_22 : decode cX10_field 22 = .ok (.iload_n 1, 1) := by decide +kernel
theorem dX10_field_23 : decode cX10_field 23 = .ok (.iconst 0, 1) := by decide +kernel
theorem dX10_field_24 : decode cX10_field 24 = .ok (.iastore, 1) := by decide +kernel
theorem dX10_field_25 : decode cX10_field 25 = .ok (.iinc 1 1, 3) := by decide +kernel
theorem dX10_field_28 : decode cX10_field 28 = .ok (.goto (-16), 3) := by decide +kernel
theorem dX10_field_31 : decode cX10_field 31 = .ok (.iconst 0, 1) := by decide +kernel
theorem dX10_field_32 : decode cX10_field 32 = .ok (.istore_n 1, 1) := by decide +kernel
theorem dX10_field_33 : decode cX10_field 33 = .ok (.aload_n 0, 1) := by decide +kernel
theorem dX10_field_34 : decode cX10_field 34 = .ok (.invokevirtual 59, 3) := by decide +kernel
theorem dX10_field_37 : decode cX10_field 37 = .ok (.aload_n 0, 1) := by decide +kernel
theorem dX10_field_38 : decode cX10_field 38 = .ok (.getfield 56, 3) := by decide +kernel
theorem dX10_field_41 : decode cX10_field 41 = .ok (.aload_n 0, 1) := by decide +kernel
theorem dX10_field_42 : decode cX10_field 42 = .ok (.getfield 52, 3) := by decide +kernel
theorem dX10_field_45 : decode cX10_field 45 = .ok (.if_icmp .ge 66, 3) := by decide +kernel
theorem dX10_field_48 : decode cX10_field 48 = .ok (.aload_n 0, 1) := by decide +kernel
theorem dX10_field_49 : decode cX10_field 49 = .ok (.invokevirtual 78, 3) := by decide +kernel
theorem dX10_field_52 : decode cX10_field 52 = .ok (.aload_n 0, 1) := by decide +kernel
theorem dX10_field_53 : decode cX10_field 53 = .ok (.getfield 65, 3) := by decide +kernel
theorem dX10_field_56 : decode cX10_field 56 = .ok (.bipush 115, 2) := by decide +kernel
theorem dX10_field_58 : decode cX10_field 58 = .ok (.if_icmp .ne 10, 3) := by decide +kernel
theorem dX10_field_61 : decode cX10_field 61 = .ok (.aload_n 0, 1) := by decide +kernel
theorem dX10_field_62 : decode cX10_field 62 = .ok (.invokevirtual 98, 3) := by decide +kernel
theorem dX10_field_65 : decode cX10_field 65 = .ok (.goto 23, 3) := by decide +kernel
theorem dX10_field_68 : decode cX10_field 68 = .ok (.aload_n 0, 1) := by decide +kernel
theorem dX10_field_69 : decode cX10_field 69 = .ok (.getfield 65, 3) := by decide +kernel
theorem dX10_field_72 : decode cX10_field 72 = .ok (.bipush 104, 2) := by decide +kernel
theorem dX10_field_74 : decode cX10_field 74 = .ok (.if_icmp .ne 10, 3) := by decide +kernel
theorem dX10_field_77 : decode cX10_field 77 = .ok (.aload_n 0, 1) := by decide +kernel
theorem dX10_field_78 : decode cX10_field 78 = .ok (.invokevirtual 101, 3) := by decide +kernel
theorem dX10_field_81 : decode cX10_field 81 = .ok (.goto 7, 3) := by decide +kernel
theorem dX10_field_84 : decode cX10_field 84 = .ok (.aload_n 0, 1) := by decide +kernel
theorem dX10_field_85 : decode cX10_field 85 = .ok (.invokevirtual 81, 3) := by decide +kernel
theorem dX10_field_88 : decode cX10_field 88 = .ok (.istore_n 2, 1) := by decide +kernel
theorem dX10_field_89 : decode cX10_field 89 = .ok (.iload_n 2, 1) := by decide +kernel
theorem dX10_field_90 : decode cX10_field 90 = .ok (.ifCond .ne 11, 3) := by decide +kernel
theorem dX10_field_93 : decode cX10_field 93 = .ok (.bipush (-10), 2) := by decide +kernel
theorem dX10_field_95 : decode cX10_field 95 = .ok (.aload_n 0, 1) := by decide +kernel
theorem dX10_field_96 : decode cX10_field 96 = .ok (.getfield 75, 3) := by decide +kernel
theorem dX10_field_99 : decode cX10_field 99 = .ok (.isub, 1) := by decide +kernel
theorem dX10_field_100 : decode cX10_field 100 = .ok (.ireturn, 1) := by decide +kernel
theorem dX10_field_101 : decode cX10_field 101 = .ok (.iinc 1 1, 3) := by decide +kernel
theorem dX10_field_104 : decode cX10_field 104 = .ok (.aload_n 0, 1) := by decide +kernel
theorem dX10_field_105 : decode cX10_field 105 = .ok (.invokevirtual 59, 3) := by decide +kernel
theorem dX10_field_108 : decode cX10_field 108 = .ok (.goto (-71), 3) := by decide +kernel
theorem dX10_field_111 : decode cX10_field 111 = .ok (.aload_n 0, 1) := by decide +kernel
theorem dX10_field_112 : decode cX10_field 112 = .ok (.iconst 0, 1) := by decide +kernel
theorem dX10_field_113 : decode cX10_field 113 = .ok (.putfield 52, 3) := by decide +kernel
theorem dX10_field_116 : decode cX10_field 116 = .ok (.aload_n 0, 1) := by decide +kernel
theorem dX10_field_117 : decode cX10_field 117 = .ok (.aload_n 0, 1) := by decide +kernel
theorem dX10_field_118 : decode cX10_field 118 = .ok (.getfield 84, 3) := by decide +kernel
theorem dX10_field_121 : decode cX10_field 121 = .ok (.putfield 104, 3) := by decide +kernel
theorem dX10_field_124 : decode cX10_field 124 = .ok (.iconst 0, 1) := by decide +kernel
theorem dX10_field_125 : decode cX10_field 125 = .ok (.istore_n 2, 1) := by decide +kernel
theorem dX10_field_126 : decode cX10_field 126 = .ok (.iload_n 2, 1) := by decide +kernel
theorem dX10_field_127 : decode cX10_field 127 = .ok (.bipush 6, 2) := by decide +kernel
theorem dX10_field_129 : decode cX10_field 129 = .ok (.if_icmp .ge 33, 3) := by decide +kernel
theorem dX10_field_132 : decode cX10_field 132 = .ok (.aload_n 0, 1) := by decide +kernel
theorem dX10_field_133 : decode cX10_field 133 = .ok (.getfield 7, 3) := by decide +kernel
theorem dX10_field_136 : decode cX10_field 136 = .ok (.iload_n 2, 1) := by decide +kernel
theorem dX10_field_137 : decode cX10_field 137 = .ok (.aload_n 0, 1) := by decide +kernel
theorem dX10_field_138 : decode cX10_field 138 = .ok (.getfield 32, 3) := by decide +kernel
theorem dX10_field_141 : decode cX10_field 141 = .ok (.iload_n 2, 1) := by decide +kernel
theorem dX10_field_142 : decode cX10_field 142 = .ok (.iaload, 1) := by decide +kernel
theorem dX10_field_143 : decode cX10_field 143 = .ok (.iastore, 1) := by decide +kernel
theorem dX10_field_144 : decode cX10_field 144 = .ok (.aload_n 0, 1) := by decide +kernel
theorem dX10_field_145 : decode cX10_field 145 = .ok (.getfield 13, 3) := by decide +kernel
theorem dX10_field_148 : decode cX10_field 148 = .ok (.iload_n 2, 1) := by decide +kernel
theorem dX10_field_149 : decode cX10_field 149 = .ok (.aload_n 0, 1) := by decide +kernel
theorem dX10_field_150 : decode cX10_field 150 = .ok (.getfield 35, 3) := by decide +kernel
theorem dX10_field_153 : decode cX10_field 153 = .ok (.iload_n 2, 1) := by decide +kernel
theorem dX10_field_154 : decode cX10_field 154 = .ok (.iaload, 1) := by decide +kernel
theorem dX10_field_155 : decode cX10_field 155 = .ok (.iastore, 1) := by decide +kernel
theorem dX10_field_156 : decode cX10_field 156 = .ok (.iinc 2 1, 3) := by decide +kernel
theorem dX10_field_159 : decode cX10_field 159 = .ok (.goto (-33), 3) := by decide +kernel
theorem dX10_field_162 : decode cX10_field 162 = .ok (.iconst 0, 1) := by decide +kernel
theorem dX10_field_163 : decode cX10_field 163 = .ok (.istore_n 2, 1) := by decide +kernel
theorem dX10_field_164 : decode cX10_field 164 = .ok (.iload_n 2, 1) := by decide +kernel
theorem dX10_field_165 : decode cX10_field 165 = .ok (.bipush 25, 2) := by decide +kernel
theorem dX10_field_167 : decode cX10_field 167 = .ok (.if_icmp .ge 21, 3) := by decide +kernel
theorem dX10_field_170 : decode cX10_field 170 = .ok (.aload_n 0, 1) := by decide +kernel
theorem dX10_field_171 : decode cX10_field 171 = .ok (.getfield 16, 3) := by decide +kernel
theorem dX10_field_174 : decode cX10_field 174 = .ok (.iload_n 2, 1) := by decide +kernel
theorem dX10_field_175 : decode cX10_field 175 = .ok (.aload_n 0, 1) := by decide +kernel
theorem dX10_field_176 : decode cX10_field 176 = .ok (.getfield 38, 3) := by decide +kernel
theorem dX10_field_179 : decode cX10_field 179 = .ok (.iload_n 2, 1) := by decide +kernel
theorem dX10_field_180 : decode cX10_field 180 = .ok (.iaload, 1) := by decide +kernel
theorem dX10_field_181 : decode cX10_field 181 = .ok (.iastore, 1) := by decide +kernel
theorem dX10_field_182 : decode cX10_field 182 = .ok (.iinc 2 1, 3) := by decide +kernel
theorem dX10_field_185 : decode cX10_field 185 = .ok (.goto (-21), 3) := by decide +kernel
theorem dX10_field_188 : decode cX10_field 188 = .ok (.aload_n 0, 1) := by decide +kernel
theorem dX10_field_189 : decode cX10_field 189 = .ok (.iconst 0, 1) := by decide +kernel
theorem dX10_field_190 : decode cX10_field 190 = .ok (.putfield 107, 3) := by decide +kernel
theorem dX10_field_193 : decode cX10_field 193 = .ok (.aload_n 0, 1) := by decide +kernel
theorem dX10_field_194 : decode cX10_field 194 = .ok (.getfield 22, 3) := by decide +kernel
theorem dX10_field_197 : decode cX10_field 197 = .ok (.iconst 0, 1) := by decide +kernel
theorem dX10_field_198 : decode cX10_field 198 = .ok (.iconst 0, 1) := by decide +kernel
theorem dX10_field_199 : decode cX10_field 199 = .ok (.bastore, 1) := by decide +kernel
theorem dX10_field_200 : decode cX10_field 200 = .ok (.aload_n 0, 1) := by decide +kernel
theorem dX10_field_201 : decode cX10_field 201 = .ok (.getfield 22, 3) := by decide +kernel
theorem dX10_field_204 : decode cX10_field 204 = .ok (.iconst 1, 1) := by decide +kernel
theorem dX10_field_205 : decode cX10_field 205 = .ok (.iconst 0, 1) := by decide +kernel
theorem dX10_field_206 : decode cX10_field 206 = .ok (.bastore, 1) := by decide +kernel
theorem dX10_field_207 : decode cX10_field 207 = .ok (.iload_n 1, 1) := by decide +kernel
theorem dX10_field_208 : decode cX10_field 208 = .ok (.ireturn, 1) := by decide +kernel
theorem dX10_isStation_0 : decode cX10_isStation 0 = .ok (.iload_n 1, 1) := by decide +kernel
theorem dX10_isStation_1 : decode cX10_isStation 1 = .ok (.iconst 0, 1) := by decide +kernel
theorem dX10_isStation_2 : decode cX10_isStation 2 = .ok (.aload_n 0, 1) := by decide +kernel
theorem dX10_isStation_3 : decode cX10_isStation 3 = .ok (.getfield 104, 3) := by decide +kernel
theorem dX10_isStation_6 : decode cX10_isStation 6 = .ok (.iconst 1, 1) := by decide +kernel
theorem dX10_isStation_7 : decode cX10_isStation 7 = .ok (.isub, 1) := by decide +kernel
theorem dX10_isStation_8 : decode cX10_isStation 8 = .ok (.invokestatic 48, 3) := by decide +kernel
theorem dX10_isStation_11 : decode cX10_isStation 11 = .ok (.ireturn, 1) := by decide +kernel
theorem dX10_isReading_0 : decode cX10_isReading 0 = .ok (.iload_n 1, 1) := by decide +kernel
theorem dX10_isReading_1 : decode cX10_isReading 1 = .ok (.iconst 0, 1) := by decide +kernel
theorem dX10_isReading_2 : decode cX10_isReading 2 = .ok (.aload_n 0, 1) := by decide +kernel
theorem dX10_isReading_3 : decode cX10_isReading 3 = .ok (.getfield 16, 3) := by decide +kernel
theorem dX10_isReading_6 : decode cX10_isReading 6 = .ok (.iconst 0, 1) := by decide +kernel
theorem dX10_isReading_7 : decode cX10_isReading 7 = .ok (.iaload, 1) := by decide +kernel
theorem dX10_isReading_8 : decode cX10_isReading 8 = .ok (.iconst 1, 1) := by decide +kernel
theorem dX10_isReading_9 : decode cX10_isReading 9 = .ok (.isub, 1) := by decide +kernel
theorem dX10_isReading_10 : decode cX10_isReading 10 = .ok (.invokestatic 48, 3) := by decide +kernel
theorem dX10_isReading_13 : decode cX10_isReading 13 = .ok (.ireturn, 1) := by decide +kernel
theorem dX10_timeOf_0 : decode cX10_timeOf 0 = .ok (.aload_n 0, 1) := by decide +kernel
theorem dX10_timeOf_1 : decode cX10_timeOf 1 = .ok (.getfield 16, 3) := by decide +kernel
theorem dX10_timeOf_4 : decode cX10_timeOf 4 = .ok (.bipush 16, 2) := by decide +kernel
theorem dX10_timeOf_6 : decode cX10_timeOf 6 = .ok (.iload_n 1, 1) := by decide +kernel
theorem dX10_timeOf_7 : decode cX10_timeOf 7 = .ok (.iadd, 1) := by decide +kernel
theorem dX10_timeOf_8 : decode cX10_timeOf 8 = .ok (.iaload, 1) := by decide +kernel
theorem dX10_timeOf_9 : decode cX10_timeOf 9 = .ok (.istore_n 2, 1) := by decide +kernel
theorem dX10_timeOf_10 : decode cX10_timeOf 10 = .ok (.aload_n 0, 1) := by decide +kernel
theorem dX10_timeOf_11 : decode cX10_timeOf 11 = .ok (.getfield 16, 3) := by decide +kernel
theorem dX10_timeOf_14 : decode cX10_timeOf 14 = .ok (.iconst 1, 1) := by decide +kernel
theorem dX10_timeOf_15 : decode cX10_timeOf 15 = .ok (.aload_n 0, 1) := by decide +kernel
theorem dX10_timeOf_16 : decode cX10_timeOf 16 = .ok (.getfield 16, 3) := by decide +kernel
theorem dX10_timeOf_19 : decode cX10_timeOf 19 = .ok (.bipush 7, 2) := by decide +kernel
theorem dX10_timeOf_21 : decode cX10_timeOf 21 = .ok (.iload_n 1, 1) := by decide +kernel
theorem dX10_timeOf_22 : decode cX10_timeOf 22 = .ok (.iadd, 1) := by decide +kernel
theorem dX10_timeOf_23 : decode cX10_timeOf 23 = .ok (.iaload, 1) := by decide +kernel
theorem dX10_timeOf_24 : decode cX10_timeOf 24 = .ok (.iadd, 1) := by decide +kernel
theorem dX10_timeOf_25 : decode cX10_timeOf 25 = .ok (.iaload, 1) := by decide +kernel
theorem dX10_timeOf_26 : decode cX10_timeOf 26 = .ok (.tableswitch 47 1 4 #[30, 34, 38, 42], 30) := by decide +kernel
theorem dX10_timeOf_56 : decode cX10_timeOf 56 = .ok (.iload_n 2, 1) := by decide +kernel
theorem dX10_timeOf_57 : decode cX10_timeOf 57 = .ok (.iconst 3, 1) := by decide +kernel
theorem dX10_timeOf_58 : decode cX10_timeOf 58 = .ok (.isub, 1) := by decide +kernel
theorem dX10_timeOf_59 : decode cX10_timeOf 59 = .ok (.ireturn, 1) := by decide +kernel
theorem dX10_timeOf_60 : decode cX10_timeOf 60 = .ok (.iload_n 2, 1) := by decide +kernel
theorem dX10_timeOf_61 : decode cX10_timeOf 61 = .ok (.iconst 3, 1) := by decide +kernel
theorem dX10_timeOf_62 : decode cX10_timeOf 62 = .ok (.iadd, 1) := by decide +kernel
theorem dX10_timeOf_63 : decode cX10_timeOf 63 = .ok (.ireturn, 1) := by decide +kernel
theorem dX10_timeOf_64 : decode cX10_timeOf 64 = .ok (.iload_n 2, 1) := by decide +kernel
theorem dX10_timeOf_65 : decode cX10_timeOf 65 = .ok (.iconst 2, 1) := by decide +kernel
theorem dX10_timeOf_66 : decode cX10_timeOf 66 = .ok (.idiv, 1) := by decide +kernel
theorem dX10_timeOf_67 : decode cX10_timeOf 67 = .ok (.ireturn, 1) := by decide +kernel
theorem dX10_timeOf_68 : decode cX10_timeOf 68 = .ok (.bipush 60, 2) := by decide +kernel
theorem dX10_timeOf_70 : decode cX10_timeOf 70 = .ok (.iload_n 2, 1) := by decide +kernel
theorem dX10_timeOf_71 : decode cX10_timeOf 71 = .ok (.isub, 1) := by decide +kernel
theorem dX10_timeOf_72 : decode cX10_timeOf 72 = .ok (.ireturn, 1) := by decide +kernel
theorem dX10_timeOf_73 : decode cX10_timeOf 73 = .ok (.iload_n 2, 1) := by decide +kernel
theorem dX10_timeOf_74 : decode cX10_timeOf 74 = .ok (.ireturn, 1) := by decide +kernel
theorem dX10_xOf_0 : decode cX10_xOf 0 = .ok (.aload_n 0, 1) := by decide +kernel
theorem dX10_xOf_1 : decode cX10_xOf 1 = .ok (.getfield 7, 3) := by decide +kernel
theorem dX10_xOf_4 : decode cX10_xOf 4 = .ok (.aload_n 0, 1) := by decide +kernel
theorem dX10_xOf_5 : decode cX10_xOf 5 = .ok (.getfield 16, 3) := by decide +kernel
theorem dX10_xOf_8 : decode cX10_xOf 8 = .ok (.bipush 7, 2) := by decide +kernel
theorem dX10_xOf_10 : decode cX10_xOf 10 = .ok (.iload_n 1, 1) := by decide +kernel
theorem dX10_xOf_11 : decode cX10_xOf 11 = .ok (.iadd, 1) := by decide +kernel
theorem dX10_xOf_12 : decode cX10_xOf 12 = .ok (.iaload, 1) := by decide +kernel
theorem dX10_xOf_13 : decode cX10_xOf 13 = .ok (.iaload, 1) := by decide +kernel
theorem dX10_xOf_14 : decode cX10_xOf 14 = .ok (.ireturn, 1) := by decide +kernel
theorem dX10_yOf_0 : decode cX10_yOf 0 = .ok (.aload_n 0, 1) := by decide +kernel
theorem dX10_yOf_1 : decode cX10_yOf 1 = .ok (.getfield 13, 3) := by decide +kernel
theorem dX10_yOf_4 : decode cX10_yOf 4 = .ok (.aload_n 0, 1) := by decide +kernel
theorem dX10_yOf_5 : decode cX10_yOf 5 = .ok (.getfield 16, 3) := by decide +kernel
theorem dX10_yOf_8 : decode cX10_yOf 8 = .ok (.bipush 7, 2) := by decide +kernel
theorem dX10_yOf_10 : decode cX10_yOf 10 = .ok (.iload_n 1, 1) := by decide +kernel
theorem dX10_yOf_11 : decode cX10_yOf 11 = .ok (.iadd, 1) := by decide +kernel
theorem dX10_yOf_12 : decode cX10_yOf 12 = .ok (.iaload, 1) := by decide +kernel
theorem dX10_yOf_13 : decode cX10_yOf 13 = .ok (.iaload, 1) := by decide +kernel
theorem dX10_yOf_14 : decode cX10_yOf 14 = .ok (.ireturn, 1) := by decide +kernel
theorem dX10_square_0 : decode cX10_square 0 = .ok (.iload_n 0, 1) := by decide +kernel
theorem dX10_square_1 : decode cX10_square 1 = .ok (.iload_n 0, 1) := by decide +kernel
theorem dX10_square_2 : decode cX10_square 2 = .ok (.imul, 1) := by decide +kernel
theorem dX10_square_3 : decode cX10_square 3 = .ok (.ireturn, 1) := by decide +kernel
theorem dX10_isTogether_0 : decode cX10_isTogether 0 = .ok (.aload_n 0, 1) := by decide +kernel
theorem dX10_isTogether_1 : decode cX10_isTogether 1 = .ok (.getfield 16, 3) := by decide +kernel
theorem dX10_isTogether_4 : decode cX10_isTogether 4 = .ok (.bipush 7, 2) := by decide +kernel
theorem dX10_isTogether_6 : decode cX10_isTogether 6 = .ok (.iload_n 1, 1) := by decide +kernel
theorem dX10_isTogether_7 : decode cX10_isTogether 7 = .ok (.iadd, 1) := by decide +kernel
theorem dX10_isTogether_8 : decode cX10_isTogether 8 = .ok (.iaload, 1) := by decide +kernel
theorem dX10_isTogether_9 : decode cX10_isTogether 9 = .ok (.aload_n 0, 1) := by decide +kernel
theorem dX10_isTogether_10 : decode cX10_isTogether 10 = .ok (.getfield 16, 3) := by decide +kernel
theorem dX10_isTogether_13 : decode cX10_isTogether 13 = .ok (.bipush 7, 2) := by decide +kernel
theorem dX10_isTogether_15 : decode cX10_isTogether 15 = .ok (.iload_n 2, 1) := by decide +kernel
theorem dX10_isTogether_16 : decode cX10_isTogether 16 = .ok (.iadd, 1) := by decide +kernel
theorem dX10_isTogether_17 : decode cX10_isTogether 17 = .ok (.iaload, 1) := by decide +kernel
theorem dX10_isTogether_18 : decode cX10_isTogether 18 = .ok (.if_icmp .eq 53, 3) := by decide +kernel
theorem dX10_isTogether_21 : decode cX10_isTogether 21 = .ok (.aload_n 0, 1) := by decide +kernel
theorem dX10_isTogether_22 : decode cX10_isTogether 22 = .ok (.iload_n 1, 1) := by decide +kernel
theorem dX10_isTogether_23 : decode cX10_isTogether 23 = .ok (.invokevirtual 110, 3) := by decide +kernel
theorem dX10_isTogether_26 : decode cX10_isTogether 26 = .ok (.aload_n 0, 1) := by decide +kernel
theorem dX10_isTogether_27 : decode cX10_isTogether 27 = .ok (.iload_n 2, 1) := by decide +kernel
theorem dX10_isTogether_28 : decode cX10_isTogether 28 = .ok (.invokevirtual 110, 3) := by decide +kernel
theorem dX10_isTogether_31 : decode cX10_isTogether 31 = .ok (.isub, 1) := by decide +kernel
theorem dX10_isTogether_32 : decode cX10_isTogether 32 = .ok (.invokestatic 113, 3) := by decide +kernel
theorem dX10_isTogether_35 : decode cX10_isTogether 35 = .ok (.aload_n 0, 1) := by decide +kernel
theorem dX10_isTogether_36 : decode cX10_isTogether 36 = .ok (.iload_n 1, 1) := by decide +kernel
theorem dX10_isTogether_37 : decode cX10_isTogether 37 = .ok (.invokevirtual 116, 3) := by decide +kernel
theorem dX10_isTogether_40 : decode cX10_isTogether 40 = .ok (.aload_n 0, 1) := by decide +kernel
theorem dX10_isTogether_41 : decode cX10_isTogether 41 = .ok (.iload_n 2, 1) := by decide +kernel
theorem dX10_isTogether_42 : decode cX10_isTogether 42 = .ok (.invokevirtual 116, 3) := by decide +kernel
theorem dX10_isTogether_45 : decode cX10_isTogether 45 = .ok (.isub, 1) := by decide +kernel
theorem dX10_isTogether_46 : decode cX10_isTogether 46 = .ok (.invokestatic 113, 3) := by decide +kernel
theorem dX10_isTogether_49 : decode cX10_isTogether 49 = .ok (.aload_n 0, 1) := by decide +kernel
theorem dX10_isTogether_50 : decode cX10_isTogether 50 = .ok (.iload_n 1, 1) := by decide +kernel
theorem dX10_isTogether_51 : decode cX10_isTogether 51 = .ok (.invokevirtual 119, 3) := by decide +kernel
theorem dX10_isTogether_54 : decode cX10_isTogether 54 = .ok (.aload_n 0, 1) := by decide +kernel
theorem dX10_isTogether_55 : decode cX10_isTogether 55 = .ok (.iload_n 2, 1) := by decide +kernel
theorem dX10_isTogether_56 : decode cX10_isTogether 56 = .ok (.invokevirtual 119, 3) := by decide +kernel
theorem dX10_isTogether_59 : decode cX10_isTogether 59 = .ok (.isub, 1) := by decide +kernel
theorem dX10_isTogether_60 : decode cX10_isTogether 60 = .ok (.invokestatic 113, 3) := by decide +kernel
theorem dX10_isTogether_63 : decode cX10_isTogether 63 = .ok (.iadd, 1) := by decide +kernel
theorem dX10_isTogether_64 : decode cX10_isTogether 64 = .ok (.if_icmp .gt 7, 3) := by decide +kernel
theorem dX10_isTogether_67 : decode cX10_isTogether 67 = .ok (.iconst 1, 1) := by decide +kernel
theorem dX10_isTogether_68 : decode cX10_isTogether 68 = .ok (.goto 4, 3) := by decide +kernel
theorem dX10_isTogether_71 : decode cX10_isTogether 71 = .ok (.iconst 0, 1) := by decide +kernel
theorem dX10_isTogether_72 : decode cX10_isTogether 72 = .ok (.ireturn, 1) := by decide +kernel
theorem dX10_isAhead_0 : decode cX10_isAhead 0 = .ok (.aload_n 0, 1) := by decide +kernel
theorem dX10_isAhead_1 : decode cX10_isAhead 1 = .ok (.iload_n 1, 1) := by decide +kernel
theorem dX10_isAhead_2 : decode cX10_isAhead 2 = .ok (.invokevirtual 110, 3) := by decide +kernel
theorem dX10_isAhead_5 : decode cX10_isAhead 5 = .ok (.aload_n 0, 1) := by decide +kernel
theorem dX10_isAhead_6 : decode cX10_isAhead 6 = .ok (.iload_n 2, 1) := by decide +kernel
theorem dX10_isAhead_7 : decode cX10_isAhead 7 = .ok (.invokevirtual 110, 3) := by decide +kernel
theorem dX10_isAhead_10 : decode cX10_isAhead 10 = .ok (.isub, 1) := by decide +kernel
theorem dX10_isAhead_11 : decode cX10_isAhead 11 = .ok (.istore_n 3, 1) := by decide +kernel
theorem dX10_isAhead_12 : decode cX10_isAhead 12 = .ok (.iload_n 3, 1) := by decide +kernel
theorem dX10_isAhead_13 : decode cX10_isAhead 13 = .ok (.ifCond .ne 25, 3) := by decide +kernel
