theorem dX1_init_0 : decode cX1_init 0 = .ok (.aload_n 0, 1) := by decide +kernel
theorem dX1_init_1 : decode cX1_init 1 = .ok (.invokespecial 3, 3) := by decide +kernel
theorem dX1_init_4 : decode cX1_init 4 = .ok (.aload_n 0, 1) := by decide +kernel
theorem dX1_init_5 : decode cX1_init 5 = .ok (.bipush 9, 2) := by decide +kernel
theorem dX1_init_7 : decode cX1_init 7 = .ok (.newarray .int, 2) := by decide +kernel
theorem dX1_init_9 : decode cX1_init 9 = .ok (.putfield 9, 3) := by decide +kernel
theorem dX1_init_12 : decode cX1_init 12 = .ok (.aload_n 0, 1) := by decide +kernel
theorem dX1_init_13 : decode cX1_init 13 = .ok (.bipush 9, 2) := by decide +kernel
theorem dX1_init_15 : decode cX1_init 15 = .ok (.newarray .int, 2) := by decide +kernel
theorem dX1_init_17 : decode cX1_init 17 = .ok (.putfield 15, 3) := by decide +kernel
theorem dX1_init_20 : decode cX1_init 20 = .ok (.aload_n 0, 1) := by decide +kernel
theorem dX1_init_21 : decode cX1_init 21 = .ok (.bipush 9, 2) := by decide +kernel
theorem dX1_init_23 : decode cX1_init 23 = .ok (.newarray .int, 2) := by decide +kernel
theorem dX1_init_25 : decode cX1_init 25 = .ok (.putfield 18, 3) := by decide +kernel
theorem dX1_init_28 : decode cX1_init 28 = .ok (.return_, 1) := by decide +kernel
theorem dX1_make_0 : decode cX1_make 0 = .ok (.aload_n 0, 1) := by decide +kernel
theorem dX1_make_1 : decode cX1_make 1 = .ok (.aload_n 1, 1) := by decide +kernel
theorem dX1_make_2 : decode cX1_make 2 = .ok (.invokevirtual 21, 3) := by decide +kernel
theorem dX1_make_5 : decode cX1_make 5 = .ok (.aload_n 0, 1) := by decide +kernel
theorem dX1_make_6 : decode cX1_make 6 = .ok (.iconst 0, 1) := by decide +kernel
theorem dX1_make_7 : decode cX1_make 7 = .ok (.putfield 25, 3) := by decide +kernel
theorem dX1_make_10 : decode cX1_make 10 = .ok (.iconst 0, 1) := by decide +kernel
theorem dX1_make_11 : decode cX1_make 11 = .ok (.istore_n 2, 1) := by decide +kernel
theorem dX1_make_12 : decode cX1_make 12 = .ok (.iload_n 2, 1) := by decide +kernel
theorem dX1_make_13 : decode cX1_make 13 = .ok (.aload_n 1, 1) := by decide +kernel
theorem dX1_make_14 : decode cX1_make 14 = .ok (.getfield 29, 3) := by decide +kernel
theorem dX1_make_17 : decode cX1_make 17 = .ok (.if_icmp .ge 72, 3) := by decide +kernel
theorem dX1_make_20 : decode cX1_make 20 = .ok (.aload_n 0, 1) := by decide +kernel
theorem dX1_make_21 : decode cX1_make 21 = .ok (.getfield 18, 3) := by decide +kernel
theorem dX1_make_24 : decode cX1_make 24 = .ok (.iload_n 2, 1) := by decide +kernel
theorem dX1_make_25 : decode cX1_make 25 = .ok (.iaload, 1) := by decide +kernel
theorem dX1_make_26 : decode cX1_make 26 = .ok (.istore_n 3, 1) := by decide +kernel
theorem dX1_make_27 : decode cX1_make 27 = .ok (.aload_n 0, 1) := by decide +kernel
theorem dX1_make_28 : decode cX1_make 28 = .ok (.aload_n 1, 1) := by decide +kernel
theorem dX1_make_29 : decode cX1_make 29 = .ok (.iload_n 3, 1) := by decide +kernel
theorem dX1_make_30 : decode cX1_make 30 = .ok (.invokevirtual 32, 3) := by decide +kernel
theorem dX1_make_33 : decode cX1_make 33 = .ok (.istore 4, 2) := by decide +kernel
theorem dX1_make_35 : decode cX1_make 35 = .ok (.iload 4, 2) := by decide +kernel
theorem dX1_make_37 : decode cX1_make 37 = .ok (.aload_n 0, 1) := by decide +kernel
theorem dX1_make_38 : decode cX1_make 38 = .ok (.getfield 25, 3) := by decide +kernel
theorem dX1_make_41 : decode cX1_make 41 = .ok (.if_icmp .ne 21, 3) := by decide +kernel
theorem dX1_make_44 : decode cX1_make 44 = .ok (.aload_n 0, 1) := by decide +kernel
theorem dX1_make_45 : decode cX1_make 45 = .ok (.getfield 9, 3) := by decide +kernel
theorem dX1_make_48 : decode cX1_make 48 = .ok (.iload 4, 2) := by decide +kernel
theorem dX1_make_50 : decode cX1_make 50 = .ok (.iconst 0, 1) := by decide +kernel
theorem dX1_make_51 : decode cX1_make 51 = .ok (.iastore, 1) := by decide +kernel
theorem dX1_make_52 : decode cX1_make 52 = .ok (.aload_n 0, 1) := by decide +kernel
theorem dX1_make_53 : decode cX1_make 53 = .ok (.dup, 1) := by decide +kernel
theorem dX1_make_54 : decode cX1_make 54 = .ok (.getfield 25, 3) := by decide +kernel
theorem dX1_make_57 : decode cX1_make 57 = .ok (.iconst 1, 1) := by decide +kernel
theorem dX1_make_58 : decode cX1_make 58 = .ok (.iadd, 1) := by decide +kernel
theorem dX1_make_59 : decode cX1_make 59 = .ok (.putfield 25, 3) := by decide +kernel
theorem dX1_make_62 : decode cX1_make 62 = .ok (.aload_n 0, 1) := by decide +kernel
theorem dX1_make_63 : decode cX1_make 63 = .ok (.getfield 9, 3) := by decide +kernel
theorem dX1_make_66 : decode cX1_make 66 = .ok (.iload 4, 2) := by decide +kernel
theorem dX1_make_68 : decode cX1_make 68 = .ok (.dup2, 1) := by decide +kernel
theorem dX1_make_69 : decode cX1_make 69 = .ok (.iaload, 1) := by decide +kernel
theorem dX1_make_70 : decode cX1_make 70 = .ok (.iconst 1, 1) := by decide +kernel
theorem dX1_make_71 : decode cX1_make 71 = .ok (.iload_n 3, 1) := by decide +kernel
theorem dX1_make_72 : decode cX1_make 72 = .ok (.ishl, 1) := by decide +kernel
theorem dX1_make_73 : decode cX1_make 73 = .ok (.ior, 1) := by decide +kernel
theorem dX1_make_74 : decode cX1_make 74 = .ok (.iastore, 1) := by decide +kernel
theorem dX1_make_75 : decode cX1_make 75 = .ok (.aload_n 0, 1) := by decide +kernel
theorem dX1_make_76 : decode cX1_make 76 = .ok (.getfield 15, 3) := by decide +kernel
theorem dX1_make_79 : decode cX1_make 79 = .ok (.iload_n 3, 1) := by decide +kernel
theorem dX1_make_80 : decode cX1_make 80 = .ok (.iload 4, 2) := by decide +kernel
theorem dX1_make_82 : decode cX1_make 82 = .ok (.iastore, 1) := by decide +kernel
theorem dX1_make_83 : decode cX1_make 83 = .ok (.iinc 2 1, 3) := by decide +kernel
theorem dX1_make_86 : decode cX1_make 86 = .ok (.goto (-74), 3) := by decide +kernel
theorem dX1_make_89 : decode cX1_make 89 = .ok (.return_, 1) := by decide +kernel
theorem dX1_sort_0 : decode cX1_sort 0 = .ok (.iconst 0, 1) := by decide +kernel
theorem dX1_sort_1 : decode cX1_sort 1 = .ok (.istore_n 2, 1) := by decide +kernel
theorem dX1_sort_2 : decode cX1_sort 2 = .ok (.iload_n 2, 1) := by decide +kernel
theorem dX1_sort_3 : decode cX1_sort 3 = .ok (.aload_n 1, 1) := by decide +kernel
theorem dX1_sort_4 : decode cX1_sort 4 = .ok (.getfield 29, 3) := by decide +kernel
theorem dX1_sort_7 : decode cX1_sort 7 = .ok (.if_icmp .ge 58, 3) := by decide +kernel
theorem dX1_sort_10 : decode cX1_sort 10 = .ok (.iload_n 2, 1) := by decide +kernel
theorem dX1_sort_11 : decode cX1_sort 11 = .ok (.istore_n 3, 1) := by decide +kernel
theorem dX1_sort_12 : decode cX1_sort 12 = .ok (.iload_n 3, 1) := by decide +kernel
theorem dX1_sort_13 : decode cX1_sort 13 = .ok (.ifCond .le 39, 3) := by decide +kernel
theorem dX1_sort_16 : decode cX1_sort 16 = .ok (.aload_n 1, 1) := by decide +kernel
theorem dX1_sort_17 : decode cX1_sort 17 = .ok (.iload_n 2, 1) := by decide +kernel
theorem dX1_sort_18 : decode cX1_sort 18 = .ok (.aload_n 0, 1) := by decide +kernel
theorem dX1_sort_19 : decode cX1_sort 19 = .ok (.getfield 18, 3) := by decide +kernel
theorem dX1_sort_22 : decode cX1_sort 22 = .ok (.iload_n 3, 1) := by decide +kernel
theorem dX1_sort_23 : decode cX1_sort 23 = .ok (.iconst 1, 1) := by decide +kernel
theorem dX1_sort_24 : decode cX1_sort 24 = .ok (.isub, 1) := by decide +kernel
theorem dX1_sort_25 : decode cX1_sort 25 = .ok (.iaload, 1) := by decide +kernel
theorem dX1_sort_26 : decode cX1_sort 26 = .ok (.invokestatic 36, 3) := by decide +kernel
theorem dX1_sort_29 : decode cX1_sort 29 = .ok (.ifCond .eq 23, 3) := by decide +kernel
theorem dX1_sort_32 : decode cX1_sort 32 = .ok (.aload_n 0, 1) := by decide +kernel
theorem dX1_sort_33 : decode cX1_sort 33 = .ok (.getfield 18, 3) := by decide +kernel
theorem dX1_sort_36 : decode cX1_sort 36 = .ok (.iload_n 3, 1) := by decide +kernel
theorem dX1_sort_37 : decode cX1_sort 37 = .ok (.aload_n 0, 1) := by decide +kernel
theorem dX1_sort_38 : decode cX1_sort 38 = .ok (.getfield 18, 3) := by decide +kernel
theorem dX1_sort_41 : decode cX1_sort 41 = .ok (.iload_n 3, 1) := by decide +kernel
theorem dX1_sort_42 : decode cX1_sort 42 = .ok (.iconst 1, 1) := by decide +kernel
theorem dX1_sort_43 : decode cX1_sort 43 = .ok (.isub, 1) := by decide +kernel
theorem dX1_sort_44 : decode cX1_sort 44 = .ok (.iaload, 1) := by decide +kernel
theorem dX1_sort_45 : decode cX1_sort 45 = .ok (.iastore, 1) := by decide +kernel
theorem dX1_sort_46 : decode cX1_sort 46 = .ok (.iinc 3 (-1), 3) := by decide +kernel
theorem dX1_sort_49 : decode cX1_sort 49 = .ok (.goto (-37), 3) := by decide +kernel
theorem dX1_sort_52 : decode cX1_sort 52 = .ok (.aload_n 0, 1) := by decide +kernel
theorem dX1_sort_53 : decode cX1_sort 53 = .ok (.getfield 18, 3) := by decide +kernel
theorem dX1_sort_56 : decode cX1_sort 56 = .ok (.iload_n 3, 1) := by decide +kernel
theorem dX1_sort_57 : decode cX1_sort 57 = .ok (.iload_n 2, 1) := by decide +kernel
theorem dX1_sort_58 : decode cX1_sort 58 = .ok (.iastore, 1) := by decide +kernel
theorem dX1_sort_59 : decode cX1_sort 59 = .ok (.iinc 2 1, 3) := by decide +kernel
theorem dX1_sort_62 : decode cX1_sort 62 = .ok (.goto (-60), 3) := by decide +kernel
theorem dX1_sort_65 : decode cX1_sort 65 = .ok (.return_, 1) := by decide +kernel
theorem dX1_isBefore_0 : decode cX1_isBefore 0 = .ok (.aload_n 0, 1) := by decide +kernel
theorem dX1_isBefore_1 : decode cX1_isBefore 1 = .ok (.getfield 40, 3) := by decide +kernel
theorem dX1_isBefore_4 : decode cX1_isBefore 4 = .ok (.iload_n 1, 1) := by decide +kernel
theorem dX1_isBefore_5 : decode cX1_isBefore 5 = .ok (.iaload, 1) := by decide +kernel
theorem dX1_isBefore_6 : decode cX1_isBefore 6 = .ok (.aload_n 0, 1) := by decide +kernel
theorem dX1_isBefore_7 : decode cX1_isBefore 7 = .ok (.getfield 40, 3) := by decide +kernel
theorem dX1_isBefore_10 : decode cX1_isBefore 10 = .ok (.iload_n 2, 1) := by decide +kernel
theorem dX1_isBefore_11 : decode cX1_isBefore 11 = .ok (.iaload, 1) := by decide +kernel
theorem dX1_isBefore_12 : decode cX1_isBefore 12 = .ok (.isub, 1) := by decide +kernel
theorem dX1_isBefore_13 : decode cX1_isBefore 13 = .ok (.istore_n 3, 1) := by decide +kernel
theorem dX1_isBefore_14 : decode cX1_isBefore 14 = .ok (.iload_n 3, 1) := by decide +kernel
theorem dX1_isBefore_15 : decode cX1_isBefore 15 = .ok (.ifCond .lt 22, 3) := by decide +kernel
theorem dX1_isBefore_18 : decode cX1_isBefore 18 = .ok (.iload_n 3, 1) := by decide +kernel
theorem dX1_isBefore_19 : decode cX1_isBefore 19 = .ok (.ifCond .ne 22, 3) := by decide +kernel
theorem dX1_isBefore_22 : decode cX1_isBefore 22 = .ok (.aload_n 0, 1) := by decide +kernel
theorem dX1_isBefore_23 : decode cX1_isBefore 23 = .ok (.getfield 43, 3) := by decide +kernel
theorem dX1_isBefore_26 : decode cX1_isBefore 26 = .ok (.iload_n 1, 1) := by decide +kernel
theorem dX1_isBefore_27 : decode cX1_isBefore 27 = .ok (.iaload, 1) := by decide +kernel
theorem dX1_isBefore_28 : decode cX1_isBefore 28 = .ok (.aload_n 0, 1) := by decide +kernel
theorem dX1_isBefore_29 : decode cX1_isBefore 29 = .ok (.getfield 43, 3) := by decide +kernel
theorem dX1_isBefore_32 : decode cX1_isBefore 32 = .ok (.iload_n 2, 1) := by decide +kernel
theorem dX1_isBefore_33 : decode cX1_isBefore 33 = .ok (.iaload, 1) := by decide +kernel
theorem dX1_isBefore_34 : decode cX1_isBefore 34 = .ok (.if_icmp .ge 7, 3) := by decide +kernel
theorem dX1_isBefore_37 : decode cX1_isBefore 37 = .ok (.iconst 1, 1) := by decide +kernel
theorem dX1_isBefore_38 : decode cX1_isBefore 38 = .ok (.goto 4, 3) := by decide +kernel
theorem dX1_isBefore_41 : decode cX1_isBefore 41 = .ok (.iconst 0, 1) := by decide +kernel
theorem dX1_isBefore_42 : decode cX1_isBefore 42 = .ok (.ireturn, 1) := by decide +kernel
theorem dX1_firstFitting_0 : decode cX1_firstFitting 0 = .ok (.iconst 0, 1) := by decide +kernel
theorem dX1_firstFitting_1 : decode cX1_firstFitting 1 = .ok (.istore_n 3, 1) := by decide +kernel
theorem dX1_firstFitting_2 : decode cX1_firstFitting 2 = .ok (.iload_n 3, 1) := by decide +kernel
theorem dX1_firstFitting_3 : decode cX1_firstFitting 3 = .ok (.aload_n 0, 1) := by decide +kernel
theorem dX1_firstFitting_4 : decode cX1_firstFitting 4 = .ok (.getfield 25, 3) := by decide +kernel
theorem dX1_firstFitting_7 : decode cX1_firstFitting 7 = .ok (.if_icmp .ge 21, 3) := by decide +kernel
theorem dX1_firstFitting_10 : decode cX1_firstFitting 10 = .ok (.aload_n 0, 1) := by decide +kernel
theorem dX1_firstFitting_11 : decode cX1_firstFitting 11 = .ok (.aload_n 1, 1) := by decide +kernel
theorem dX1_firstFitting_12 : decode cX1_firstFitting 12 = .ok (.iload_n 3, 1) := by decide +kernel
theorem dX1_firstFitting_13 : decode cX1_firstFitting 13 = .ok (.iload_n 2, 1) := by decide +kernel
theorem dX1_firstFitting_14 : decode cX1_firstFitting 14 = .ok (.invokevirtual 46, 3) := by decide +kernel
theorem dX1_firstFitting_17 : decode cX1_firstFitting 17 = .ok (.ifCond .eq 5, 3) := by decide +kernel
theorem dX1_firstFitting_20 : decode cX1_firstFitting 20 = .ok (.iload_n 3, 1) := by decide +kernel
theorem dX1_firstFitting_21 : decode cX1_firstFitting 21 = .ok (.ireturn, 1) := by decide +kernel
theorem dX1_firstFitting_22 : decode cX1_firstFitting 22 = .ok (.iinc 3 1, 3) := by decide +kernel
theorem dX1_firstFitting_25 : decode cX1_firstFitting 25 = .ok (.goto (-23), 3) := by decide +kernel
theorem dX1_firstFitting_28 : decode cX1_firstFitting 28 = .ok (.aload_n 0, 1) := by decide +kernel
theorem dX1_firstFitting_29 : decode cX1_firstFitting 29 = .ok (.getfield 25, 3) := by decide +kernel
theorem dX1_firstFitting_32 : decode cX1_firstFitting 32 = .ok (.ireturn, 1) := by decide +kernel
theorem dX1_fits_0 : decode cX1_fits 0 = .ok (.iconst 0, 1) := by decide +kernel
theorem dX1_fits_1 : decode cX1_fits 1 = .ok (.istore 4, 2) := by decide +kernel
theorem dX1_fits_3 : decode cX1_fits 3 = .ok (.iload 4, 2) := by decide +kernel
theorem dX1_fits_5 : decode cX1_fits 5 = .ok (.aload_n 1, 1) := by decide +kernel
theorem dX1_fits_6 : decode cX1_fits 6 = .ok (.getfield 29, 3) := by decide +kernel
theorem dX1_fits_9 : decode cX1_fits 9 = .ok (.if_icmp .ge 35, 3) := by decide +kernel
theorem dX1_fits_12 : decode cX1_fits 12 = .ok (.aload_n 0, 1) := by decide +kernel
theorem dX1_fits_13 : decode cX1_fits 13 = .ok (.getfield 9, 3) := by decide +kernel
theorem dX1_fits_16 : decode cX1_fits 16 = .ok (.iload_n 2, 1) := by decide +kernel
theorem dX1_fits_17 : decode cX1_fits 17 = .ok (.iaload, 1) := by decide +kernel
theorem dX1_fits_18 : decode cX1_fits 18 = .ok (.iload 4, 2) := by decide +kernel
theorem dX1_fits_20 : decode cX1_fits 20 = .ok (.invokestatic 49, 3) := by decide +kernel
theorem dX1_fits_23 : decode cX1_fits 23 = .ok (.ifCond .eq 15, 3) := by decide +kernel
theorem dX1_fits_26 : decode cX1_fits 26 = .ok (.aload_n 1, 1) := by decide +kernel
theorem dX1_fits_27 : decode cX1_fits 27 = .ok (.iload 4, 2) := by decide +kernel
theorem dX1_fits_29 : decode cX1_fits 29 = .ok (.iload_n 3, 1) := by decide +kernel
theorem dX1_fits_30 : decode cX1_fits 30 = .ok (.invokestatic 53, 3) := by decide +kernel
theorem dX1_fits_33 : decode cX1_fits 33 = .ok (.ifCond .ne 5, 3) := by decide +kernel
theorem dX1_fits_36 : decode cX1_fits 36 = .ok (.iconst 0, 1) := by decide +kernel
theorem dX1_fits_37 : decode cX1_fits 37 = .ok (.ireturn, 1) := by decide +kernel
theorem dX1_fits_38 : decode cX1_fits 38 = .ok (.iinc 4 1, 3) := by decide +kernel
theorem dX1_fits_41 : decode cX1_fits 41 = .ok (.goto (-38), 3) := by decide +kernel
theorem dX1_fits_44 : decode cX1_fits 44 = .ok (.iconst 1, 1) := by decide +kernel
theorem dX1_fits_45 : decode cX1_fits 45 = .ok (.ireturn, 1) := by decide +kernel
theorem dX1_goTogether_0 : decode cX1_goTogether 0 = .ok (.aload_n 0, 1) := by decide +kernel
theorem dX1_goTogether_1 : decode cX1_goTogether 1 = .ok (.getfield 43, 3) := by decide +kernel
theorem dX1_goTogether_4 : decode cX1_goTogether 4 = .ok (.iload_n 1, 1) := by decide +kernel
theorem dX1_goTogether_5 : decode cX1_goTogether 5 = .ok (.iaload, 1) := by decide +kernel
theorem dX1_goTogether_6 : decode cX1_goTogether 6 = .ok (.aload_n 0, 1) := by decide +kernel
theorem dX1_goTogether_7 : decode cX1_goTogether 7 = .ok (.getfield 43, 3) := by decide +kernel
theorem dX1_goTogether_10 : decode cX1_goTogether 10 = .ok (.iload_n 2, 1) := by decide +kernel
theorem dX1_goTogether_11 : decode cX1_goTogether 11 = .ok (.iaload, 1) := by decide +kernel
theorem dX1_goTogether_12 : decode cX1_goTogether 12 = .ok (.if_icmp .ne 5, 3) := by decide +kernel
theorem dX1_goTogether_15 : decode cX1_goTogether 15 = .ok (.iconst 0, 1) := by decide +kernel
theorem dX1_goTogether_16 : decode cX1_goTogether 16 = .ok (.ireturn, 1) := by decide +kernel
theorem dX1_goTogether_17 : decode cX1_goTogether 17 = .ok (.aload_n 0, 1) := by decide +kernel
theorem dX1_goTogether_18 : decode cX1_goTogether 18 = .ok (.getfield 40, 3) := by decide +kernel
theorem dX1_goTogether_21 : decode cX1_goTogether 21 = .ok (.iload_n 1, 1) := by decide +kernel
theorem dX1_goTogether_22 : decode cX1_goTogether 22 = .ok (.iaload, 1) := by decide +kernel
theorem dX1_goTogether_23 : decode cX1_goTogether 23 = .ok (.aload_n 0, 1) := by decide +kernel
theorem dX1_goTogether_24 : decode cX1_goTogether 24 = .ok (.getfield 40, 3) := by decide +kernel
theorem dX1_goTogether_27 : decode cX1_goTogether 27 = .ok (.iload_n 2, 1) := by decide +kernel
theorem dX1_goTogether_28 : decode cX1_goTogether 28 = .ok (.iaload, 1) := by decide +kernel
theorem dX1_goTogether_29 : decode cX1_goTogether 29 = .ok (.isub, 1) := by decide +kernel
theorem dX1_goTogether_30 : decode cX1_goTogether 30 = .ok (.istore_n 3, 1) := by decide +kernel
theorem dX1_goTogether_31 : decode cX1_goTogether 31 = .ok (.aload_n 0, 1) := by decide +kernel
theorem dX1_goTogether_32 : decode cX1_goTogether 32 = .ok (.getfield 56, 3) := by decide +kernel
theorem dX1_goTogether_35 : decode cX1_goTogether 35 = .ok (.iload_n 1, 1) := by decide +kernel
theorem dX1_goTogether_36 : decode cX1_goTogether 36 = .ok (.iaload, 1) := by decide +kernel
theorem dX1_goTogether_37 : decode cX1_goTogether 37 = .ok (.aload_n 0, 1) := by decide +kernel
theorem dX1_goTogether_38 : decode cX1_goTogether 38 = .ok (.getfield 56, 3) := by decide +kernel
theorem dX1_goTogether_41 : decode cX1_goTogether 41 = .ok (.iload_n 2, 1) := by decide +kernel
theorem dX1_goTogether_42 : decode cX1_goTogether 42 = .ok (.iaload, 1) := by decide +kernel
theorem dX1_goTogether_43 : decode cX1_goTogether 43 = .ok (.isub, 1) := by decide +kernel
theorem dX1_goTogether_44 : decode cX1_goTogether 44 = .ok (.istore 4, 2) := by decide +kernel
theorem dX1_goTogether_46 : decode cX1_goTogether 46 = .ok (.aload_n 0, 1) := by decide +kernel
theorem dX1_goTogether_47 : decode cX1_goTogether 47 = .ok (.getfield 59, 3) := by decide +kernel
theorem dX1_goTogether_50 : decode cX1_goTogether 50 = .ok (.iload_n 1, 1) := by decide +kernel
theorem dX1_goTogether_51 : decode cX1_goTogether 51 = .ok (.iaload, 1) := by decide +kernel
theorem dX1_goTogether_52 : decode cX1_goTogether 52 = .ok (.aload_n 0, 1) := by decide +kernel
theorem dX1_goTogether_53 : decode cX1_goTogether 53 = .ok (.getfield 59, 3) := by decide +kernel
theorem dX1_goTogether_56 : decode cX1_goTogether 56 = .ok (.iload_n 2, 1) := by decide +kernel
theorem dX1_goTogether_57 : decode cX1_goTogether 57 = .ok (.iaload, 1) := by decide +kernel
theorem dX1_goTogether_58 : decode cX1_goTogether 58 = .ok (.isub, 1) := by decide +kernel
theorem dX1_goTogether_59 : decode cX1_goTogether 59 = .ok (.istore 5, 2) := by decide +kernel
theorem dX1_goTogether_61 : decode cX1_goTogether 61 = .ok (.iload_n 3, 1) := by decide +kernel
theorem dX1_goTogether_62 : decode cX1_goTogether 62 = .ok (.iload_n 3, 1) := by decide +kernel
theorem dX1_goTogether_63 : decode cX1_goTogether 63 = .ok (.imul, 1) := by decide +kernel
theorem dX1_goTogether_64 : decode cX1_goTogether 64 = .ok (.iload 4, 2) := by decide +kernel
theorem dX1_goTogether_66 : decode cX1_goTogether 66 = .ok (.iload 4, 2) := by decide +kernel
theorem dX1_goTogether_68 : decode cX1_goTogether 68 = .ok (.imul, 1) := by decide +kernel
theorem dX1_goTogether_69 : decode cX1_goTogether 69 = .ok (.iload 5, 2) := by decide +kernel
theorem dX1_goTogether_71 : decode cX1_goTogether 71 = .ok (.iload 5, 2) := by decide +kernel
theorem dX1_goTogether_73 : decode cX1_goTogether 73 = .ok (.imul, 1) := by decide +kernel
theorem dX1_goTogether_74 : decode cX1_goTogether 74 = .ok (.iadd, 1) := by decide +kernel
theorem dX1_goTogether_75 : decode cX1_goTogether 75 = .ok (.if_icmp .gt 7, 3) := by decide +kernel
theorem dX1_goTogether_78 : decode cX1_goTogether 78 = .ok (.iconst 1, 1) := by decide +kernel
theorem dX1_goTogether_79 : decode cX1_goTogether 79 = .ok (.goto 4, 3) := by decide +kernel
theorem dX1_goTogether_82 : decode cX1_goTogether 82 = .ok (.iconst 0, 1) := by decide +kernel
theorem dX1_goTogether_83 : decode cX1_goTogether 83 = .ok (.ireturn, 1) := by decide +kernel
