theorem dX7_init_0 : decode cX7_init 0 = .ok (.aload_n 0, 1) := by decide +kernel
theorem dX7_init_1 : decode cX7_init 1 = .ok (.invokespecial 3, 3) := by decide +kernel
theorem dX7_init_4 : decode cX7_init 4 = .ok (.aload_n 0, 1) := by decide +kernel
theorem dX7_init_5 : decode cX7_init 5 = .ok (.bipush 9, 2) := by decide +kernel
theorem dX7_init_7 : decode cX7_init 7 = .ok (.iconst 4, 1) := by decide +kernel
theorem dX7_init_8 : decode cX7_init 8 = .ok (.multianewarray 11 2, 4) := by decide +kernel
theorem dX7_init_12 : decode cX7_init 12 = .ok (.putfield 13, 3) := by decide +kernel
theorem dX7_init_15 : decode cX7_init 15 = .ok (.aload_n 0, 1) := by decide +kernel
theorem dX7_init_16 : decode cX7_init 16 = .ok (.aload_n 1, 1) := by decide +kernel
theorem dX7_init_17 : decode cX7_init 17 = .ok (.putfield 16, 3) := by decide +kernel
theorem dX7_init_20 : decode cX7_init 20 = .ok (.return_, 1) := by decide +kernel
theorem dX7_judge_0 : decode cX7_judge 0 = .ok (.aload_n 0, 1) := by decide +kernel
theorem dX7_judge_1 : decode cX7_judge 1 = .ok (.iload_n 1, 1) := by decide +kernel
theorem dX7_judge_2 : decode cX7_judge 2 = .ok (.invokevirtual 20, 3) := by decide +kernel
theorem dX7_judge_5 : decode cX7_judge 5 = .ok (.aload_n 0, 1) := by decide +kernel
theorem dX7_judge_6 : decode cX7_judge 6 = .ok (.invokevirtual 24, 3) := by decide +kernel
theorem dX7_judge_9 : decode cX7_judge 9 = .ok (.ifCond .ne 5, 3) := by decide +kernel
theorem dX7_judge_12 : decode cX7_judge 12 = .ok (.iconst 2, 1) := by decide +kernel
theorem dX7_judge_13 : decode cX7_judge 13 = .ok (.ireturn, 1) := by decide +kernel
theorem dX7_judge_14 : decode cX7_judge 14 = .ok (.aload_n 0, 1) := by decide +kernel
theorem dX7_judge_15 : decode cX7_judge 15 = .ok (.getfield 28, 3) := by decide +kernel
theorem dX7_judge_18 : decode cX7_judge 18 = .ok (.iconst 3, 1) := by decide +kernel
theorem dX7_judge_19 : decode cX7_judge 19 = .ok (.if_icmp .ge 5, 3) := by decide +kernel
theorem dX7_judge_22 : decode cX7_judge 22 = .ok (.iconst 1, 1) := by decide +kernel
theorem dX7_judge_23 : decode cX7_judge 23 = .ok (.ireturn, 1) := by decide +kernel
theorem dX7_judge_24 : decode cX7_judge 24 = .ok (.aload_n 0, 1) := by decide +kernel
theorem dX7_judge_25 : decode cX7_judge 25 = .ok (.iload_n 1, 1) := by decide +kernel
theorem dX7_judge_26 : decode cX7_judge 26 = .ok (.invokevirtual 32, 3) := by decide +kernel
theorem dX7_judge_29 : decode cX7_judge 29 = .ok (.istore_n 2, 1) := by decide +kernel
theorem dX7_judge_30 : decode cX7_judge 30 = .ok (.aload_n 0, 1) := by decide +kernel
theorem dX7_judge_31 : decode cX7_judge 31 = .ok (.getfield 36, 3) := by decide +kernel
theorem dX7_judge_34 : decode cX7_judge 34 = .ok (.aload_n 0, 1) := by decide +kernel
theorem dX7_judge_35 : decode cX7_judge 35 = .ok (.getfield 16, 3) := by decide +kernel
theorem dX7_judge_38 : decode cX7_judge 38 = .ok (.getfield 40, 3) := by decide +kernel
theorem dX7_judge_41 : decode cX7_judge 41 = .ok (.iload_n 2, 1) := by decide +kernel
theorem dX7_judge_42 : decode cX7_judge 42 = .ok (.iaload, 1) := by decide +kernel
theorem dX7_judge_43 : decode cX7_judge 43 = .ok (.i2l, 1) := by decide +kernel
theorem dX7_judge_44 : decode cX7_judge 44 = .ok (.aload_n 0, 1) := by decide +kernel
theorem dX7_judge_45 : decode cX7_judge 45 = .ok (.getfield 45, 3) := by decide +kernel
theorem dX7_judge_48 : decode cX7_judge 48 = .ok (.lmul, 1) := by decide +kernel
theorem dX7_judge_49 : decode cX7_judge 49 = .ok (.lcmp, 1) := by decide +kernel
theorem dX7_judge_50 : decode cX7_judge 50 = .ok (.ifCond .gt 7, 3) := by decide +kernel
theorem dX7_judge_53 : decode cX7_judge 53 = .ok (.iconst 1, 1) := by decide +kernel
theorem dX7_judge_54 : decode cX7_judge 54 = .ok (.goto 4, 3) := by decide +kernel
theorem dX7_judge_57 : decode cX7_judge 57 = .ok (.iconst 0, 1) := by decide +kernel
theorem dX7_judge_58 : decode cX7_judge 58 = .ok (.istore_n 3, 1) := by decide +kernel
theorem dX7_judge_59 : decode cX7_judge 59 = .ok (.iload_n 3, 1) := by decide +kernel
theorem dX7_judge_60 : decode cX7_judge 60 = .ok (.ifCond .eq 17, 3) := by decide +kernel
theorem dX7_judge_63 : decode cX7_judge 63 = .ok (.aload_n 0, 1) := by decide +kernel
theorem dX7_judge_64 : decode cX7_judge 64 = .ok (.iload_n 2, 1) := by decide +kernel
theorem dX7_judge_65 : decode cX7_judge 65 = .ok (.invokevirtual 48, 3) := by decide +kernel
theorem dX7_judge_68 : decode cX7_judge 68 = .ok (.lconst 0, 1) := by decide +kernel
theorem dX7_judge_69 : decode cX7_judge 69 = .ok (.lcmp, 1) := by decide +kernel
theorem dX7_judge_70 : decode cX7_judge 70 = .ok (.ifCond .ne 7, 3) := by decide +kernel
theorem dX7_judge_73 : decode cX7_judge 73 = .ok (.iconst 0, 1) := by decide +kernel
theorem dX7_judge_74 : decode cX7_judge 74 = .ok (.goto 4, 3) := by decide +kernel
theorem dX7_judge_77 : decode cX7_judge 77 = .ok (.iconst 2, 1) := by decide +kernel
theorem dX7_judge_78 : decode cX7_judge 78 = .ok (.ireturn, 1) := by decide +kernel
theorem dX7_solve_0 : decode cX7_solve 0 = .ok (.aload_n 0, 1) := by decide +kernel
theorem dX7_solve_1 : decode cX7_solve 1 = .ok (.iload_n 1, 1) := by decide +kernel
theorem dX7_solve_2 : decode cX7_solve 2 = .ok (.invokevirtual 52, 3) := by decide +kernel
theorem dX7_solve_5 : decode cX7_solve 5 = .ok (.aload_n 0, 1) := by decide +kernel
theorem dX7_solve_6 : decode cX7_solve 6 = .ok (.invokevirtual 55, 3) := by decide +kernel
theorem dX7_solve_9 : decode cX7_solve 9 = .ok (.aload_n 0, 1) := by decide +kernel
theorem dX7_solve_10 : decode cX7_solve 10 = .ok (.getfield 28, 3) := by decide +kernel
theorem dX7_solve_13 : decode cX7_solve 13 = .ok (.iconst 3, 1) := by decide +kernel
theorem dX7_solve_14 : decode cX7_solve 14 = .ok (.if_icmp .ne 80, 3) := by decide +kernel
theorem dX7_solve_17 : decode cX7_solve 17 = .ok (.aload_n 0, 1) := by decide +kernel
theorem dX7_solve_18 : decode cX7_solve 18 = .ok (.getfield 13, 3) := by decide +kernel
theorem dX7_solve_21 : decode cX7_solve 21 = .ok (.iconst 2, 1) := by decide +kernel
theorem dX7_solve_22 : decode cX7_solve 22 = .ok (.aaload, 1) := by decide +kernel
theorem dX7_solve_23 : decode cX7_solve 23 = .ok (.iconst 2, 1) := by decide +kernel
theorem dX7_solve_24 : decode cX7_solve 24 = .ok (.laload, 1) := by decide +kernel
theorem dX7_solve_25 : decode cX7_solve 25 = .ok (.lconst 0, 1) := by decide +kernel
theorem dX7_solve_26 : decode cX7_solve 26 = .ok (.lcmp, 1) := by decide +kernel
theorem dX7_solve_27 : decode cX7_solve 27 = .ok (.ifCond .ge 9, 3) := by decide +kernel
theorem dX7_solve_30 : decode cX7_solve 30 = .ok (.ldc2_w 58, 3) := by decide +kernel
theorem dX7_solve_33 : decode cX7_solve 33 = .ok (.goto 4, 3) := by decide +kernel
theorem dX7_solve_36 : decode cX7_solve 36 = .ok (.lconst 1, 1) := by decide +kernel
theorem dX7_solve_37 : decode cX7_solve 37 = .ok (.lstore_n 2, 1) := by decide +kernel
theorem dX7_solve_38 : decode cX7_solve 38 = .ok (.aload_n 0, 1) := by decide +kernel
theorem dX7_solve_39 : decode cX7_solve 39 = .ok (.lload_n 2, 1) := by decide +kernel
theorem dX7_solve_40 : decode cX7_solve 40 = .ok (.aload_n 0, 1) := by decide +kernel
theorem dX7_solve_41 : decode cX7_solve 41 = .ok (.getfield 13, 3) := by decide +kernel
theorem dX7_solve_44 : decode cX7_solve 44 = .ok (.iconst 0, 1) := by decide +kernel
theorem dX7_solve_45 : decode cX7_solve 45 = .ok (.aaload, 1) := by decide +kernel
theorem dX7_solve_46 : decode cX7_solve 46 = .ok (.iconst 3, 1) := by decide +kernel
theorem dX7_solve_47 : decode cX7_solve 47 = .ok (.laload, 1) := by decide +kernel
theorem dX7_solve_48 : decode cX7_solve 48 = .ok (.lmul, 1) := by decide +kernel
theorem dX7_solve_49 : decode cX7_solve 49 = .ok (.putfield 60, 3) := by decide +kernel
theorem dX7_solve_52 : decode cX7_solve 52 = .ok (.aload_n 0, 1) := by decide +kernel
theorem dX7_solve_53 : decode cX7_solve 53 = .ok (.lload_n 2, 1) := by decide +kernel
theorem dX7_solve_54 : decode cX7_solve 54 = .ok (.aload_n 0, 1) := by decide +kernel
theorem dX7_solve_55 : decode cX7_solve 55 = .ok (.getfield 13, 3) := by decide +kernel
theorem dX7_solve_58 : decode cX7_solve 58 = .ok (.iconst 1, 1) := by decide +kernel
theorem dX7_solve_59 : decode cX7_solve 59 = .ok (.aaload, 1) := by decide +kernel
theorem dX7_solve_60 : decode cX7_solve 60 = .ok (.iconst 3, 1) := by decide +kernel
theorem dX7_solve_61 : decode cX7_solve 61 = .ok (.laload, 1) := by decide +kernel
theorem dX7_solve_62 : decode cX7_solve 62 = .ok (.lmul, 1) := by decide +kernel
theorem dX7_solve_63 : decode cX7_solve 63 = .ok (.putfield 63, 3) := by decide +kernel
theorem dX7_solve_66 : decode cX7_solve 66 = .ok (.aload_n 0, 1) := by decide +kernel
theorem dX7_solve_67 : decode cX7_solve 67 = .ok (.lload_n 2, 1) := by decide +kernel
theorem dX7_solve_68 : decode cX7_solve 68 = .ok (.aload_n 0, 1) := by decide +kernel
theorem dX7_solve_69 : decode cX7_solve 69 = .ok (.getfield 13, 3) := by decide +kernel
theorem dX7_solve_72 : decode cX7_solve 72 = .ok (.iconst 2, 1) := by decide +kernel
theorem dX7_solve_73 : decode cX7_solve 73 = .ok (.aaload, 1) := by decide +kernel
theorem dX7_solve_74 : decode cX7_solve 74 = .ok (.iconst 3, 1) := by decide +kernel
theorem dX7_solve_75 : decode cX7_solve 75 = .ok (.laload, 1) := by decide +kernel
theorem dX7_solve_76 : decode cX7_solve 76 = .ok (.lmul, 1) := by decide +kernel
theorem dX7_solve_77 : decode cX7_solve 77 = .ok (.putfield 36, 3) := by decide +kernel
theorem dX7_solve_80 : decode cX7_solve 80 = .ok (.aload_n 0, 1) := by decide +kernel
theorem dX7_solve_81 : decode cX7_solve 81 = .ok (.lload_n 2, 1) := by decide +kernel
theorem dX7_solve_82 : decode cX7_solve 82 = .ok (.aload_n 0, 1) := by decide +kernel
theorem dX7_solve_83 : decode cX7_solve 83 = .ok (.getfield 13, 3) := by decide +kernel
theorem dX7_solve_86 : decode cX7_solve 86 = .ok (.iconst 2, 1) := by decide +kernel
theorem dX7_solve_87 : decode cX7_solve 87 = .ok (.aaload, 1) := by decide +kernel
theorem dX7_solve_88 : decode cX7_solve 88 = .ok (.iconst 2, 1) := by decide +kernel
theorem dX7_solve_89 : decode cX7_solve 89 = .ok (.laload, 1) := by decide +kernel
theorem dX7_solve_90 : decode cX7_solve 90 = .ok (.lmul, 1) := by decide +kernel
theorem dX7_solve_91 : decode cX7_solve 91 = .ok (.putfield 45, 3) := by decide +kernel
theorem dX7_solve_94 : decode cX7_solve 94 = .ok (.return_, 1) := by decide +kernel
theorem dX7_miss_0 : decode cX7_miss 0 = .ok (.aload_n 0, 1) := by decide +kernel
theorem dX7_miss_1 : decode cX7_miss 1 = .ok (.getfield 60, 3) := by decide +kernel
theorem dX7_miss_4 : decode cX7_miss 4 = .ok (.aload_n 0, 1) := by decide +kernel
theorem dX7_miss_5 : decode cX7_miss 5 = .ok (.getfield 16, 3) := by decide +kernel
theorem dX7_miss_8 : decode cX7_miss 8 = .ok (.getfield 66, 3) := by decide +kernel
theorem dX7_miss_11 : decode cX7_miss 11 = .ok (.iload_n 1, 1) := by decide +kernel
theorem dX7_miss_12 : decode cX7_miss 12 = .ok (.iaload, 1) := by decide +kernel
theorem dX7_miss_13 : decode cX7_miss 13 = .ok (.i2l, 1) := by decide +kernel
theorem dX7_miss_14 : decode cX7_miss 14 = .ok (.aload_n 0, 1) := by decide +kernel
theorem dX7_miss_15 : decode cX7_miss 15 = .ok (.getfield 45, 3) := by decide +kernel
theorem dX7_miss_18 : decode cX7_miss 18 = .ok (.lmul, 1) := by decide +kernel
theorem dX7_miss_19 : decode cX7_miss 19 = .ok (.lsub, 1) := by decide +kernel
theorem dX7_miss_20 : decode cX7_miss 20 = .ok (.lstore_n 2, 1) := by decide +kernel
theorem dX7_miss_21 : decode cX7_miss 21 = .ok (.aload_n 0, 1) := by decide +kernel
theorem dX7_miss_22 : decode cX7_miss 22 = .ok (.getfield 63, 3) := by decide +kernel
theorem dX7_miss_25 : decode cX7_miss 25 = .ok (.aload_n 0, 1) := by decide +kernel
theorem dX7_miss_26 : decode cX7_miss 26 = .ok (.getfield 16, 3) := by decide +kernel
theorem dX7_miss_29 : decode cX7_miss 29 = .ok (.getfield 68, 3) := by decide +kernel
theorem dX7_miss_32 : decode cX7_miss 32 = .ok (.iload_n 1, 1) := by decide +kernel
theorem dX7_miss_33 : decode cX7_miss 33 = .ok (.iaload, 1) := by decide +kernel
theorem dX7_miss_34 : decode cX7_miss 34 = .ok (.i2l, 1) := by decide +kernel
theorem dX7_miss_35 : decode cX7_miss 35 = .ok (.aload_n 0, 1) := by decide +kernel
theorem dX7_miss_36 : decode cX7_miss 36 = .ok (.getfield 45, 3) := by decide +kernel
theorem dX7_miss_39 : decode cX7_miss 39 = .ok (.lmul, 1) := by decide +kernel
theorem dX7_miss_40 : decode cX7_miss 40 = .ok (.lsub, 1) := by decide +kernel
theorem dX7_miss_41 : decode cX7_miss 41 = .ok (.lstore 4, 2) := by decide +kernel
theorem dX7_miss_43 : decode cX7_miss 43 = .ok (.aload_n 0, 1) := by decide +kernel
theorem dX7_miss_44 : decode cX7_miss 44 = .ok (.getfield 16, 3) := by decide +kernel
theorem dX7_miss_47 : decode cX7_miss 47 = .ok (.getfield 40, 3) := by decide +kernel
theorem dX7_miss_50 : decode cX7_miss 50 = .ok (.iload_n 1, 1) := by decide +kernel
theorem dX7_miss_51 : decode cX7_miss 51 = .ok (.iaload, 1) := by decide +kernel
theorem dX7_miss_52 : decode cX7_miss 52 = .ok (.i2l, 1) := by decide +kernel
theorem dX7_miss_53 : decode cX7_miss 53 = .ok (.aload_n 0, 1) := by decide +kernel
theorem dX7_miss_54 : decode cX7_miss 54 = .ok (.getfield 45, 3) := by decide +kernel
theorem dX7_miss_57 : decode cX7_miss 57 = .ok (.lmul, 1) := by decide +kernel
theorem dX7_miss_58 : decode cX7_miss 58 = .ok (.aload_n 0, 1) := by decide +kernel
theorem dX7_miss_59 : decode cX7_miss 59 = .ok (.getfield 36, 3) := by decide +kernel
theorem dX7_miss_62 : decode cX7_miss 62 = .ok (.lsub, 1) := by decide +kernel
theorem dX7_miss_63 : decode cX7_miss 63 = .ok (.lstore 6, 2) := by decide +kernel
theorem dX7_miss_65 : decode cX7_miss 65 = .ok (.lload_n 2, 1) := by decide +kernel
theorem dX7_miss_66 : decode cX7_miss 66 = .ok (.lload_n 2, 1) := by decide +kernel
theorem dX7_miss_67 : decode cX7_miss 67 = .ok (.lmul, 1) := by decide +kernel
theorem dX7_miss_68 : decode cX7_miss 68 = .ok (.lload 4, 2) := by decide +kernel
theorem dX7_miss_70 : decode cX7_miss 70 = .ok (.lload 4, 2) := by decide +kernel
theorem dX7_miss_72 : decode cX7_miss 72 = .ok (.lmul, 1) := by decide +kernel
theorem dX7_miss_73 : decode cX7_miss 73 = .ok (.ladd, 1) := by decide +kernel
theorem dX7_miss_74 : decode cX7_miss 74 = .ok (.lload 6, 2) := by decide +kernel
theorem dX7_miss_76 : decode cX7_miss 76 = .ok (.lload 6, 2) := by decide +kernel
theorem dX7_miss_78 : decode cX7_miss 78 = .ok (.lmul, 1) := by decide +kernel
theorem dX7_miss_79 : decode cX7_miss 79 = .ok (.lsub, 1) := by decide +kernel
theorem dX7_miss_80 : decode cX7_miss 80 = .ok (.lreturn, 1) := by decide +kernel
theorem dX7_load_0 : decode cX7_load 0 = .ok (.aload_n 0, 1) := by decide +kernel
theorem dX7_load_1 : decode cX7_load 1 = .ok (.iload_n 1, 1) := by decide +kernel
theorem dX7_load_2 : decode cX7_load 2 = .ok (.invokevirtual 32, 3) := by decide +kernel
theorem dX7_load_5 : decode cX7_load 5 = .ok (.istore_n 2, 1) := by decide +kernel
theorem dX7_load_6 : decode cX7_load 6 = .ok (.aload_n 0, 1) := by decide +kernel
theorem dX7_load_7 : decode cX7_load 7 = .ok (.iconst 0, 1) := by decide +kernel
theorem dX7_load_8 : decode cX7_load 8 = .ok (.putfield 70, 3) := by decide +kernel
theorem dX7_load_11 : decode cX7_load 11 = .ok (.iload_n 2, 1) := by decide +kernel
theorem dX7_load_12 : decode cX7_load 12 = .ok (.iconst 1, 1) := by decide +kernel
theorem dX7_load_13 : decode cX7_load 13 = .ok (.iadd, 1) := by decide +kernel
theorem dX7_load_14 : decode cX7_load 14 = .ok (.istore_n 3, 1) := by decide +kernel
theorem dX7_load_15 : decode cX7_load 15 = .ok (.iload_n 3, 1) := by decide +kernel
theorem dX7_load_16 : decode cX7_load 16 = .ok (.aload_n 0, 1) := by decide +kernel
theorem dX7_load_17 : decode cX7_load 17 = .ok (.getfield 16, 3) := by decide +kernel
theorem dX7_load_20 : decode cX7_load 20 = .ok (.getfield 73, 3) := by decide +kernel
theorem dX7_load_23 : decode cX7_load 23 = .ok (.if_icmp .ge 42, 3) := by decide +kernel
theorem dX7_load_26 : decode cX7_load 26 = .ok (.iload_n 1, 1) := by decide +kernel
theorem dX7_load_27 : decode cX7_load 27 = .ok (.iload_n 3, 1) := by decide +kernel
theorem dX7_load_28 : decode cX7_load 28 = .ok (.invokestatic 74, 3) := by decide +kernel
theorem dX7_load_31 : decode cX7_load 31 = .ok (.ifCond .eq 28, 3) := by decide +kernel
theorem dX7_load_34 : decode cX7_load 34 = .ok (.aload_n 0, 1) := by decide +kernel
theorem dX7_load_35 : decode cX7_load 35 = .ok (.aload_n 0, 1) := by decide +kernel
theorem dX7_load_36 : decode cX7_load 36 = .ok (.getfield 13, 3) := by decide +kernel
theorem dX7_load_39 : decode cX7_load 39 = .ok (.aload_n 0, 1) := by decide +kernel
theorem dX7_load_40 : decode cX7_load 40 = .ok (.getfield 70, 3) := by decide +kernel
theorem dX7_load_43 : decode cX7_load 43 = .ok (.aaload, 1) := by decide +kernel
theorem dX7_load_44 : decode cX7_load 44 = .ok (.iload_n 2, 1) := by decide +kernel
theorem dX7_load_45 : decode cX7_load 45 = .ok (.iload_n 3, 1) := by decide +kernel
theorem dX7_load_46 : decode cX7_load 46 = .ok (.invokevirtual 78, 3) := by decide +kernel
theorem dX7_load_49 : decode cX7_load 49 = .ok (.aload_n 0, 1) := by decide +kernel
theorem dX7_load_50 : decode cX7_load 50 = .ok (.dup, 1) := by decide +kernel
theorem dX7_load_51 : decode cX7_load 51 = .ok (.getfield 70, 3) := by decide +kernel
theorem dX7_load_54 : decode cX7_load 54 = .ok (.iconst 1, 1) := by decide +kernel
theorem dX7_load_55 : decode cX7_load 55 = .ok (.iadd, 1) := by decide +kernel
theorem dX7_load_56 : decode cX7_load 56 = .ok (.putfield 70, 3) := by decide +kernel
theorem dX7_load_59 : decode cX7_load 59 = .ok (.iinc 3 1, 3) := by decide +kernel
theorem dX7_load_62 : decode cX7_load 62 = .ok (.goto (-47), 3) := by decide +kernel
theorem dX7_load_65 : decode cX7_load 65 = .ok (.return_, 1) := by decide +kernel
theorem dX7_firstOf_0 : decode cX7_firstOf 0 = .ok (.iconst 0, 1) := by decide +kernel
theorem dX7_firstOf_1 : decode cX7_firstOf 1 = .ok (.istore_n 2, 1) := by decide +kernel
theorem dX7_firstOf_2 : decode cX7_firstOf 2 = .ok (.iload_n 2, 1) := by decide +kernel
theorem dX7_firstOf_3 : decode cX7_firstOf 3 = .ok (.aload_n 0, 1) := by decide +kernel
theorem dX7_firstOf_4 : decode cX7_firstOf 4 = .ok (.getfield 16, 3) := by decide +kernel
theorem dX7_firstOf_7 : decode cX7_firstOf 7 = .ok (.getfield 73, 3) := by decide +kernel
theorem dX7_firstOf_10 : decode cX7_firstOf 10 = .ok (.if_icmp .ge 19, 3) := by decide +kernel
theorem dX7_firstOf_13 : decode cX7_firstOf 13 = .ok (.iload_n 1, 1) := by decide +kernel
theorem dX7_firstOf_14 : decode cX7_firstOf 14 = .ok (.iload_n 2, 1) := by decide +kernel
theorem dX7_firstOf_15 : decode cX7_firstOf 15 = .ok (.invokestatic 74, 3) := by decide +kernel
theorem dX7_firstOf_18 : decode cX7_firstOf 18 = .ok (.ifCond .eq 5, 3) := by decide +kernel
theorem dX7_firstOf_21 : decode cX7_firstOf 21 = .ok (.iload_n 2, 1) := by decide +kernel
theorem dX7_firstOf_22 : decode cX7_firstOf 22 = .ok (.ireturn, 1) := by decide +kernel
theorem dX7_firstOf_23 : decode cX7_firstOf 23 = .ok (.iinc 2 1, 3) := by decide +kernel
theorem dX7_firstOf_26 : decode cX7_firstOf 26 = .ok (.goto (-24), 3) := by decide +kernel
theorem dX7_firstOf_29 : decode cX7_firstOf 29 = .ok (.aload_n 0, 1) := by decide +kernel
theorem dX7_firstOf_30 : decode cX7_firstOf 30 = .ok (.getfield 16, 3) := by decide +kernel
theorem dX7_firstOf_33 : decode cX7_firstOf 33 = .ok (.getfield 73, 3) := by decide +kernel
theorem dX7_firstOf_36 : decode cX7_firstOf 36 = .ok (.ireturn, 1) := by decide +kernel
theorem dX7_loadEquation_0 : decode cX7_loadEquation 0 = .ok (.aload_n 1, 1) := by decide +kernel
theorem dX7_loadEquation_1 : decode cX7_loadEquation 1 = .ok (.iconst 0, 1) := by decide +kernel
theorem dX7_loadEquation_2 : decode cX7_loadEquation 2 = .ok (.iconst 2, 1) := by decide +kernel
theorem dX7_loadEquation_3 : decode cX7_loadEquation 3 = .ok (.aload_n 0, 1) := by decide +kernel
theorem dX7_loadEquation_4 : decode cX7_loadEquation 4 = .ok (.getfield 16, 3) := by decide +kernel
theorem dX7_loadEquation_7 : decode cX7_loadEquation 7 = .ok (.getfield 66, 3) := by decide +kernel
theorem dX7_loadEquation_10 : decode cX7_loadEquation 10 = .ok (.iload_n 3, 1) := by decide +kernel
theorem dX7_loadEquation_11 : decode cX7_loadEquation 11 = .ok (.iaload, 1) := by decide +kernel
theorem dX7_loadEquation_12 : decode cX7_loadEquation 12 = .ok (.aload_n 0, 1) := by decide +kernel
theorem dX7_loadEquation_13 : decode cX7_loadEquation 13 = .ok (.getfield 16, 3) := by decide +kernel
theorem dX7_loadEquation_16 : decode cX7_loadEquation 16 = .ok (.getfield 66, 3) := by decide +kernel
theorem dX7_loadEquation_19 : decode cX7_loadEquation 19 = .ok (.iload_n 2, 1) := by decide +kernel
theorem dX7_loadEquation_20 : decode cX7_loadEquation 20 = .ok (.iaload, 1) := by decide +kernel
theorem dX7_loadEquation_21 : decode cX7_loadEquation 21 = .ok (.isub, 1) := by decide +kernel
theorem dX7_loadEquation_22 : decode cX7_loadEquation 22 = .ok (.imul, 1) := by decide +kernel
theorem dX7_loadEquation_23 : decode cX7_loadEquation 23 = .ok (.i2l, 1) := by decide +kernel
theorem dX7_loadEquation_24 : decode cX7_loadEquation 24 = .ok (.lastore, 1) := by decide +kernel
theorem dX7_loadEquation_25 : decode cX7_loadEquation 25 = .ok (.aload_n 1, 1) := by decide +kernel
theorem dX7_loadEquation_26 : decode cX7_loadEquation 26 = .ok (.iconst 1, 1) := by decide +kernel
theorem dX7_loadEquation_27 : decode cX7_loadEquation 27 = .ok (.iconst 2, 1) := by decide +kernel
theorem dX7_loadEquation_28 : decode cX7_loadEquation 28 = .ok (.aload_n 0, 1) := by decide +kernel
theorem dX7_loadEquation_29 : decode cX7_loadEquation 29 = .ok (.getfield 16, 3) := by decide +kernel
theorem dX7_loadEquation_32 : decode cX7_loadEquation 32 = .ok (.getfield 68, 3) := by decide +kernel
theorem dX7_loadEquation_35 : decode cX7_loadEquation 35 = .ok (.iload_n 3, 1) := by decide +kernel
theorem dX7_loadEquation_36 : decode cX7_loadEquation 36 = .ok (.iaload, 1) := by decide +kernel
theorem dX7_loadEquation_37 : decode cX7_loadEquation 37 = .ok (.aload_n 0, 1) := by decide +kernel
theorem dX7_loadEquation_38 : decode cX7_loadEquation 38 = .ok (.getfield 16, 3) := by decide +kernel
theorem dX7_loadEquation_41 : decode cX7_loadEquation 41 = .ok (.getfield 68, 3) := by decide +kernel
theorem dX7_loadEquation_44 : decode cX7_loadEquation 44 = .ok (.iload_n 2, 1) := by decide +kernel
theorem dX7_loadEquation_45 : decode cX7_loadEquation 45 = .ok (.iaload, 1) := by decide +kernel
theorem dX7_loadEquation_46 : decode cX7_loadEquation 46 = .ok (.isub, 1) := by decide +kernel
theorem dX7_loadEquation_47 : decode cX7_loadEquation 47 = .ok (.imul, 1) := by decide +kernel
theorem dX7_loadEquation_48 : decode cX7_loadEquation 48 = .ok (.i2l, 1) := by decide +kernel
theorem dX7_loadEquation_49 : decode cX7_loadEquation 49 = .ok (.lastore, 1) := by decide +kernel
theorem dX7_loadEquation_50 : decode cX7_loadEquation 50 = .ok (.aload_n 1, 1) := by decide +kernel
theorem dX7_loadEquation_51 : decode cX7_loadEquation 51 = .ok (.iconst 2, 1) := by decide +kernel
theorem dX7_loadEquation_52 : decode cX7_loadEquation 52 = .ok (.bipush (-2), 2) := by decide +kernel
theorem dX7_loadEquation_54 : decode cX7_loadEquation 54 = .ok (.aload_n 0, 1) := by decide +kernel
theorem dX7_loadEquation_55 : decode cX7_loadEquation 55 = .ok (.getfield 16, 3) := by decide +kernel
theorem dX7_loadEquation_58 : decode cX7_loadEquation 58 = .ok (.getfield 40, 3) := by decide +kernel
theorem dX7_loadEquation_61 : decode cX7_loadEquation 61 = .ok (.iload_n 3, 1) := by decide +kernel
theorem dX7_loadEquation_62 : decode cX7_loadEquation 62 = .ok (.iaload, 1) := by decide +kernel
theorem dX7_loadEquation_63 : decode cX7_loadEquation 63 = .ok (.aload_n 0, 1) := by decide +kernel
theorem dX7_loadEquation_64 : decode cX7_loadEquation 64 = .ok (.getfield 16, 3) := by decide +kernel
theorem dX7_loadEquation_67 : decode cX7_loadEquation 67 = .ok (.getfield 40, 3) := by decide +kernel
theorem dX7_loadEquation_70 : decode cX7_loadEquation 70 = .ok (.iload_n 2, 1) := by decide +kernel
theorem dX7_loadEquation_71 : decode cX7_loadEquation 71 = .ok (.iaload, 1) := by decide +kernel
theorem dX7_loadEquation_72 : decode cX7_loadEquation 72 = .ok (.isub, 1) := by decide +kernel
theorem dX7_loadEquation_73 : decode cX7_loadEquation 73 = .ok (.imul, 1) := by decide +kernel
theorem dX7_loadEquation_74 : decode cX7_loadEquation 74 = .ok (.i2l, 1) := by decide +kernel
theorem dX7_loadEquation_75 : decode cX7_loadEquation 75 = .ok (.lastore, 1) := by decide +kernel
theorem dX7_loadEquation_76 : decode cX7_loadEquation 76 = .ok (.aload_n 1, 1) := by decide +kernel
theorem dX7_loadEquation_77 : decode cX7_loadEquation 77 = .ok (.iconst 3, 1) := by decide +kernel
theorem dX7_loadEquation_78 : decode cX7_loadEquation 78 = .ok (.aload_n 0, 1) := by decide +kernel
theorem dX7_loadEquation_79 : decode cX7_loadEquation 79 = .ok (.iload_n 3, 1) := by decide +kernel
theorem dX7_loadEquation_80 : decode cX7_loadEquation 80 = .ok (.invokevirtual 82, 3) := by decide +kernel
theorem dX7_loadEquation_83 : decode cX7_loadEquation 83 = .ok (.aload_n 0, 1) := by decide +kernel
theorem dX7_loadEquation_84 : decode cX7_loadEquation 84 = .ok (.iload_n 2, 1) := by decide +kernel
theorem dX7_loadEquation_85 : decode cX7_loadEquation 85 = .ok (.invokevirtual 82, 3) := by decide +kernel
theorem dX7_loadEquation_88 : decode cX7_loadEquation 88 = .ok (.isub, 1) := by decide +kernel
theorem dX7_loadEquation_89 : decode cX7_loadEquation 89 = .ok (.i2l, 1) := by decide +kernel
theorem dX7_loadEquation_90 : decode cX7_loadEquation 90 = .ok (.lastore, 1) := by decide +kernel
theorem dX7_loadEquation_91 : decode cX7_loadEquation 91 = .ok (.return_, 1) := by decide +kernel
theorem dX7_squares_0 : decode cX7_squares 0 = .ok (.aload_n 0, 1) := by decide +kernel
theorem dX7_squares_1 : decode cX7_squares 1 = .ok (.getfield 16, 3) := by decide +kernel
theorem dX7_squares_4 : decode cX7_squares 4 = .ok (.getfield 66, 3) := by decide +kernel
theorem dX7_squares_7 : decode cX7_squares 7 = .ok (.iload_n 1, 1) := by decide +kernel
theorem dX7_squares_8 : decode cX7_squares 8 = .ok (.iaload, 1) := by decide +kernel
theorem dX7_squares_9 : decode cX7_squares 9 = .ok (.aload_n 0, 1) := by decide +kernel
theorem dX7_squares_10 : decode cX7_squares 10 = .ok (.getfield 16, 3) := by decide +kernel
theorem dX7_squares_13 : decode cX7_squares 13 = .ok (.getfield 66, 3) := by decide +kernel
theorem dX7_squares_16 : decode cX7_squares 16 = .ok (.iload_n 1, 1) := by decide +kernel
theorem dX7_squares_17 : decode cX7_squares 17 = .ok (.iaload, 1) := by decide +kernel
theorem dX7_squares_18 : decode cX7_squares 18 = .ok (.imul, 1) := by decide +kernel
theorem dX7_squares_19 : decode cX7_squares 19 = .ok (.aload_n 0, 1) := by decide +kernel
theorem dX7_squares_20 : decode cX7_squares 20 = .ok (.getfield 16, 3) := by decide +kernel
theorem dX7_squares_23 : decode cX7_squares 23 = .ok (.getfield 68, 3) := by decide +kernel
theorem dX7_squares_26 : decode cX7_squares 26 = .ok (.iload_n 1, 1) := by decide +kernel
theorem dX7_squares_27 : decode cX7_squares 27 = .ok (.iaload, 1) := by decide +kernel
theorem dX7_squares_28 : decode cX7_squares 28 = .ok (.aload_n 0, 1) := by decide +kernel
theorem dX7_squares_29 : decode cX7_squares 29 = .ok (.getfield 16, 3) := by decide +kernel
theorem dX7_squares_32 : decode cX7_squares 32 = .ok (.getfield 68, 3) := by decide +kernel
theorem dX7_squares_35 : decode cX7_squares 35 = .ok (.iload_n 1, 1) := by decide +kernel
theorem dX7_squares_36 : decode cX7_squares 36 = .ok (.iaload, 1) := by decide +kernel
theorem dX7_squares_37 : decode cX7_squares 37 = .ok (.imul, 1) := by decide +kernel
theorem dX7_squares_38 : decode cX7_squares 38 = .ok (.iadd, 1) := by decide +kernel
theorem dX7_squares_39 : decode cX7_squares 39 = .ok (.aload_n 0, 1) := by decide +kernel
theorem dX7_squares_40 : decode cX7_squares 40 = .ok (.getfield 16, 3) := by decide +kernel
theorem dX7_squares_43 : decode cX7_squares 43 = .ok (.getfield 40, 3) := by decide +kernel
theorem dX7_squares_46 : decode cX7_squares 46 = .ok (.iload_n 1, 1) := by decide +kernel
theorem dX7_squares_47 : decode cX7_squares 47 = .ok (.iaload, 1) := by decide +kernel
theorem dX7_squares_48 : decode cX7_squares 48 = .ok (.aload_n 0, 1) := by decide +kernel
theorem dX7_squares_49 : decode cX7_squares 49 = .ok (.getfield 16, 3) := by decide +kernel
theorem dX7_squares_52 : decode cX7_squares 52 = .ok (.getfield 40, 3) := by decide +kernel
theorem dX7_squares_55 : decode cX7_squares 55 = .ok (.iload_n 1, 1) := by decide +kernel
theorem dX7_squares_56 : decode cX7_squares 56 = .ok (.iaload, 1) := by decide +kernel
theorem dX7_squares_57 : decode cX7_squares 57 = .ok (.imul, 1) := by decide +kernel
theorem dX7_squares_58 : decode cX7_squares 58 = .ok (.isub, 1) := by decide +kernel
theorem dX7_squares_59 : decode cX7_squares 59 = .ok (.ireturn, 1) := by decide +kernel
theorem dX7_eliminate_0 : decode cX7_eliminate 0 = .ok (.aload_n 0, 1) := by decide +kernel
theorem dX7_eliminate_1 : decode cX7_eliminate 1 = .ok (.iconst 0, 1) := by decide +kernel
theorem dX7_eliminate_2 : decode cX7_eliminate 2 = .ok (.putfield 28, 3) := by decide +kernel
theorem dX7_eliminate_5 : decode cX7_eliminate 5 = .ok (.lconst 1, 1) := by decide +kernel
theorem dX7_eliminate_6 : decode cX7_eliminate 6 = .ok (.lstore_n 1, 1) := by decide +kernel
theorem dX7_eliminate_7 : decode cX7_eliminate 7 = .ok (.iconst 0, 1) := by decide +kernel
theorem dX7_eliminate_8 : decode cX7_eliminate 8 = .ok (.istore_n 3, 1) := by decide +kernel
theorem dX7_eliminate_9 : decode cX7_eliminate 9 = .ok (.iload_n 3, 1) := by decide +kernel
theorem dX7_eliminate_10 : decode cX7_eliminate 10 = .ok (.iconst 3, 1) := by decide +kernel
theorem dX7_eliminate_11 : decode cX7_eliminate 11 = .ok (.if_icmp .ge 101, 3) := by decide +kernel
theorem dX7_eliminate_14 : decode cX7_eliminate 14 = .ok (.aload_n 0, 1) := by decide +kernel
theorem dX7_eliminate_15 : decode cX7_eliminate 15 = .ok (.iload_n 3, 1) := by decide +kernel
theorem dX7_eliminate_16 : decode cX7_eliminate 16 = .ok (.invokevirtual 85, 3) := by decide +kernel
theorem dX7_eliminate_19 : decode cX7_eliminate 19 = .ok (.istore 4, 2) := by decide +kernel
theorem dX7_eliminate_21 : decode cX7_eliminate 21 = .ok (.iload 4, 2) := by decide +kernel
theorem dX7_eliminate_23 : decode cX7_eliminate 23 = .ok (.ifCond .lt 83, 3) := by decide +kernel
theorem dX7_eliminate_26 : decode cX7_eliminate 26 = .ok (.aload_n 0, 1) := by decide +kernel
theorem dX7_eliminate_27 : decode cX7_eliminate 27 = .ok (.aload_n 0, 1) := by decide +kernel
theorem dX7_eliminate_28 : decode cX7_eliminate 28 = .ok (.getfield 28, 3) := by decide +kernel
theorem dX7_eliminate_31 : decode cX7_eliminate 31 = .ok (.iload 4, 2) := by decide +kernel
theorem dX7_eliminate_33 : decode cX7_eliminate 33 = .ok (.invokevirtual 88, 3) := by decide +kernel
theorem dX7_eliminate_36 : decode cX7_eliminate 36 = .ok (.iconst 0, 1) := by decide +kernel
theorem dX7_eliminate_37 : decode cX7_eliminate 37 = .ok (.istore 5, 2) := by decide +kernel
theorem dX7_eliminate_39 : decode cX7_eliminate 39 = .ok (.iload 5, 2) := by decide +kernel
theorem dX7_eliminate_41 : decode cX7_eliminate 41 = .ok (.aload_n 0, 1) := by decide +kernel
theorem dX7_eliminate_42 : decode cX7_eliminate 42 = .ok (.getfield 70, 3) := by decide +kernel
theorem dX7_eliminate_45 : decode cX7_eliminate 45 = .ok (.if_icmp .ge 39, 3) := by decide +kernel
theorem dX7_eliminate_48 : decode cX7_eliminate 48 = .ok (.iload 5, 2) := by decide +kernel
theorem dX7_eliminate_50 : decode cX7_eliminate 50 = .ok (.aload_n 0, 1) := by decide +kernel
theorem dX7_eliminate_51 : decode cX7_eliminate 51 = .ok (.getfield 28, 3) := by decide +kernel
theorem dX7_eliminate_54 : decode cX7_eliminate 54 = .ok (.if_icmp .eq 24, 3) := by decide +kernel
theorem dX7_eliminate_57 : decode cX7_eliminate 57 = .ok (.aload_n 0, 1) := by decide +kernel
theorem dX7_eliminate_58 : decode cX7_eliminate 58 = .ok (.getfield 13, 3) := by decide +kernel
theorem dX7_eliminate_61 : decode cX7_eliminate 61 = .ok (.iload 5, 2) := by decide +kernel
theorem dX7_eliminate_63 : decode cX7_eliminate 63 = .ok (.aaload, 1) := by decide +kernel
theorem dX7_eliminate_64 : decode cX7_eliminate 64 = .ok (.aload_n 0, 1) := by decide +kernel
theorem dX7_eliminate_65 : decode cX7_eliminate 65 = .ok (.getfield 13, 3) := by decide +kernel
theorem dX7_eliminate_68 : decode cX7_eliminate 68 = .ok (.aload_n 0, 1) := by decide +kernel
theorem dX7_eliminate_69 : decode cX7_eliminate 69 = .ok (.getfield 28, 3) := by decide +kernel
theorem dX7_eliminate_72 : decode cX7_eliminate 72 = .ok (.aaload, 1) := by decide +kernel
theorem dX7_eliminate_73 : decode cX7_eliminate 73 = .ok (.iload_n 3, 1) := by decide +kernel
theorem dX7_eliminate_74 : decode cX7_eliminate 74 = .ok (.lload_n 1, 1) := by decide +kernel
theorem dX7_eliminate_75 : decode cX7_eliminate 75 = .ok (.invokestatic 92, 3) := by decide +kernel
theorem dX7_eliminate_78 : decode cX7_eliminate 78 = .ok (.iinc 5 1, 3) := by decide +kernel
theorem dX7_eliminate_81 : decode cX7_eliminate 81 = .ok (.goto (-42), 3) := by decide +kernel
theorem dX7_eliminate_84 : decode cX7_eliminate 84 = .ok (.aload_n 0, 1) := by decide +kernel
theorem dX7_eliminate_85 : decode cX7_eliminate 85 = .ok (.getfield 13, 3) := by decide +kernel
theorem dX7_eliminate_88 : decode cX7_eliminate 88 = .ok (.aload_n 0, 1) := by decide +kernel
theorem dX7_eliminate_89 : decode cX7_eliminate 89 = .ok (.getfield 28, 3) := by decide +kernel
theorem dX7_eliminate_92 : decode cX7_eliminate 92 = .ok (.aaload, 1) := by decide +kernel
theorem dX7_eliminate_93 : decode cX7_eliminate 93 = .ok (.iload_n 3, 1) := by decide +kernel
theorem dX7_eliminate_94 : decode cX7_eliminate 94 = .ok (.laload, 1) := by decide +kernel
theorem dX7_eliminate_95 : decode cX7_eliminate 95 = .ok (.lstore_n 1, 1) := by decide +kernel
theorem dX7_eliminate_96 : decode cX7_eliminate 96 = .ok (.aload_n 0, 1) := by decide +kernel
theorem dX7_eliminate_97 : decode cX7_eliminate 97 = .ok (.dup, 1) := by decide +kernel
theorem dX7_eliminate_98 : decode cX7_eliminate 98 = .ok (.getfield 28, 3) := by decide +kernel
theorem dX7_eliminate_101 : decode cX7_eliminate 101 = .ok (.iconst 1, 1) := by decide +kernel
theorem dX7_eliminate_102 : decode cX7_eliminate 102 = .ok (.iadd, 1) := by decide +kernel
theorem dX7_eliminate_103 : decode cX7_eliminate 103 = .ok (.putfield 28, 3) := by decide +kernel
theorem dX7_eliminate_106 : decode cX7_eliminate 106 = .ok (.iinc 3 1, 3) := by decide +kernel
theorem dX7_eliminate_109 : decode cX7_eliminate 109 = .ok (.goto (-100), 3) := by decide +kernel
theorem dX7_eliminate_112 : decode cX7_eliminate 112 = .ok (.return_, 1) := by decide +kernel
theorem dX7_pivotOf_0 : decode cX7_pivotOf 0 = .ok (.aload_n 0, 1) := by decide +kernel
theorem dX7_pivotOf_1 : decode cX7_pivotOf 1 = .ok (.getfield 28, 3) := by decide +kernel
theorem dX7_pivotOf_4 : decode cX7_pivotOf 4 = .ok (.istore_n 2, 1) := by decide +kernel
theorem dX7_pivotOf_5 : decode cX7_pivotOf 5 = .ok (.iload_n 2, 1) := by decide +kernel
theorem dX7_pivotOf_6 : decode cX7_pivotOf 6 = .ok (.aload_n 0, 1) := by decide +kernel
theorem dX7_pivotOf_7 : decode cX7_pivotOf 7 = .ok (.getfield 70, 3) := by decide +kernel
theorem dX7_pivotOf_10 : decode cX7_pivotOf 10 = .ok (.if_icmp .ge 24, 3) := by decide +kernel
theorem dX7_pivotOf_13 : decode cX7_pivotOf 13 = .ok (.aload_n 0, 1) := by decide +kernel
theorem dX7_pivotOf_14 : decode cX7_pivotOf 14 = .ok (.getfield 13, 3) := by decide +kernel
theorem dX7_pivotOf_17 : decode cX7_pivotOf 17 = .ok (.iload_n 2, 1) := by decide +kernel
theorem dX7_pivotOf_18 : decode cX7_pivotOf 18 = .ok (.aaload, 1) := by decide +kernel
theorem dX7_pivotOf_19 : decode cX7_pivotOf 19 = .ok (.iload_n 1, 1) := by decide +kernel
theorem dX7_pivotOf_20 : decode cX7_pivotOf 20 = .ok (.laload, 1) := by decide +kernel
theorem dX7_pivotOf_21 : decode cX7_pivotOf 21 = .ok (.lconst 0, 1) := by decide +kernel
theorem dX7_pivotOf_22 : decode cX7_pivotOf 22 = .ok (.lcmp, 1) := by decide +kernel
theorem dX7_pivotOf_23 : decode cX7_pivotOf 23 = .ok (.ifCond .eq 5, 3) := by decide +kernel
theorem dX7_pivotOf_26 : decode cX7_pivotOf 26 = .ok (.iload_n 2, 1) := by decide +kernel
theorem dX7_pivotOf_27 : decode cX7_pivotOf 27 = .ok (.ireturn, 1) := by decide +kernel
theorem dX7_pivotOf_28 : decode cX7_pivotOf 28 = .ok (.iinc 2 1, 3) := by decide +kernel
theorem dX7_pivotOf_31 : decode cX7_pivotOf 31 = .ok (.goto (-26), 3) := by decide +kernel
theorem dX7_pivotOf_34 : decode cX7_pivotOf 34 = .ok (.iconst (-1), 1) := by decide +kernel
theorem dX7_pivotOf_35 : decode cX7_pivotOf 35 = .ok (.ireturn, 1) := by decide +kernel
theorem dX7_swap_0 : decode cX7_swap 0 = .ok (.iconst 0, 1) := by decide +kernel
theorem dX7_swap_1 : decode cX7_swap 1 = .ok (.istore_n 3, 1) := by decide +kernel
theorem dX7_swap_2 : decode cX7_swap 2 = .ok (.iload_n 3, 1) := by decide +kernel
theorem dX7_swap_3 : decode cX7_swap 3 = .ok (.iconst 3, 1) := by decide +kernel
theorem dX7_swap_4 : decode cX7_swap 4 = .ok (.if_icmp .gt 45, 3) := by decide +kernel
theorem dX7_swap_7 : decode cX7_swap 7 = .ok (.aload_n 0, 1) := by decide +kernel
theorem dX7_swap_8 : decode cX7_swap 8 = .ok (.getfield 13, 3) := by decide +kernel
theorem dX7_swap_11 : decode cX7_swap 11 = .ok (.iload_n 1, 1) := by decide +kernel
theorem dX7_swap_12 : decode cX7_swap 12 = .ok (.aaload, 1) := by decide +kernel
theorem dX7_swap_13 : decode cX7_swap 13 = .ok (.iload_n 3, 1) := by decide +kernel
theorem dX7_swap_14 : decode cX7_swap 14 = .ok (.laload, 1) := by decide +kernel
theorem dX7_swap_15 : decode cX7_swap 15 = .ok (.lstore 4, 2) := by decide +kernel
theorem dX7_swap_17 : decode cX7_swap 17 = .ok (.aload_n 0, 1) := by decide +kernel
theorem dX7_swap_18 : decode cX7_swap 18 = .ok (.getfield 13, 3) := by decide +kernel
theorem dX7_swap_21 : decode cX7_swap 21 = .ok (.iload_n 1, 1) := by decide +kernel
theorem dX7_swap_22 : decode cX7_swap 22 = .ok (.aaload, 1) := by decide +kernel
theorem dX7_swap_23 : decode cX7_swap 23 = .ok (.iload_n 3, 1) := by decide +kernel
theorem dX7_swap_24 : decode cX7_swap 24 = .ok (.aload_n 0, 1) := by decide +kernel
theorem dX7_swap_25 : decode cX7_swap 25 = .ok (.getfield 13, 3) := by decide +kernel
theorem dX7_swap_28 : decode cX7_swap 28 = .ok (.iload_n 2, 1) := by decide +kernel
theorem dX7_swap_29 : decode cX7_swap 29 = .ok (.aaload, 1) := by decide +kernel
theorem dX7_swap_30 : decode cX7_swap 30 = .ok (.iload_n 3, 1) := by decide +kernel
theorem dX7_swap_31 : decode cX7_swap 31 = .ok (.laload, 1) := by decide +kernel
theorem dX7_swap_32 : decode cX7_swap 32 = .ok (.lastore, 1) := by decide +kernel
theorem dX7_swap_33 : decode cX7_swap 33 = .ok (.aload_n 0, 1) := by decide +kernel
theorem dX7_swap_34 : decode cX7_swap 34 = .ok (.getfield 13, 3) := by decide +kernel
theorem dX7_swap_37 : decode cX7_swap 37 = .ok (.iload_n 2, 1) := by decide +kernel
theorem dX7_swap_38 : decode cX7_swap 38 = .ok (.aaload, 1) := by decide +kernel
theorem dX7_swap_39 : decode cX7_swap 39 = .ok (.iload_n 3, 1) := by decide +kernel
theorem dX7_swap_40 : decode cX7_swap 40 = .ok (.lload 4, 2) := by decide +kernel
theorem dX7_swap_42 : decode cX7_swap 42 = .ok (.lastore, 1) := by decide +kernel
theorem dX7_swap_43 : decode cX7_swap 43 = .ok (.iinc 3 1, 3) := by decide +kernel
theorem dX7_swap_46 : decode cX7_swap 46 = .ok (.goto (-44), 3) := by decide +kernel
theorem dX7_swap_49 : decode cX7_swap 49 = .ok (.return_, 1) := by decide +kernel
theorem dX7_reduce_0 : decode cX7_reduce 0 = .ok (.lload_n 3, 1) := by decide +kernel
theorem dX7_reduce_1 : decode cX7_reduce 1 = .ok (.lconst 0, 1) := by decide +kernel
theorem dX7_reduce_2 : decode cX7_reduce 2 = .ok (.lcmp, 1) := by decide +kernel
theorem dX7_reduce_3 : decode cX7_reduce 3 = .ok (.ifCond .ne 4, 3) := by decide +kernel
theorem dX7_reduce_6 : decode cX7_reduce 6 = .ok (.return_, 1) := by decide +kernel
theorem dX7_reduce_7 : decode cX7_reduce 7 = .ok (.aload_n 0, 1) := by decide +kernel
theorem dX7_reduce_8 : decode cX7_reduce 8 = .ok (.iload_n 2, 1) := by decide +kernel
theorem dX7_reduce_9 : decode cX7_reduce 9 = .ok (.laload, 1) := by decide +kernel
theorem dX7_reduce_10 : decode cX7_reduce 10 = .ok (.lstore 5, 2) := by decide +kernel
theorem dX7_reduce_12 : decode cX7_reduce 12 = .ok (.aload_n 1, 1) := by decide +kernel
theorem dX7_reduce_13 : decode cX7_reduce 13 = .ok (.iload_n 2, 1) := by decide +kernel
theorem dX7_reduce_14 : decode cX7_reduce 14 = .ok (.laload, 1) := by decide +kernel
theorem dX7_reduce_15 : decode cX7_reduce 15 = .ok (.lstore 7, 2) := by decide +kernel
theorem dX7_reduce_17 : decode cX7_reduce 17 = .ok (.iconst 0, 1) := by decide +kernel
theorem dX7_reduce_18 : decode cX7_reduce 18 = .ok (.istore 9, 2) := by decide +kernel
theorem dX7_reduce_20 : decode cX7_reduce 20 = .ok (.iload 9, 2) := by decide +kernel
theorem dX7_reduce_22 : decode cX7_reduce 22 = .ok (.iconst 3, 1) := by decide +kernel
theorem dX7_reduce_23 : decode cX7_reduce 23 = .ok (.if_icmp .gt 30, 3) := by decide +kernel
theorem dX7_reduce_26 : decode cX7_reduce 26 = .ok (.aload_n 0, 1) := by decide +kernel
theorem dX7_reduce_27 : decode cX7_reduce 27 = .ok (.iload 9, 2) := by decide +kernel
theorem dX7_reduce_29 : decode cX7_reduce 29 = .ok (.lload 7, 2) := by decide +kernel
theorem dX7_reduce_31 : decode cX7_reduce 31 = .ok (.aload_n 0, 1) := by decide +kernel
theorem dX7_reduce_32 : decode cX7_reduce 32 = .ok (.iload 9, 2) := by decide +kernel
theorem dX7_reduce_34 : decode cX7_reduce 34 = .ok (.laload, 1) := by decide +kernel
theorem dX7_reduce_35 : decode cX7_reduce 35 = .ok (.lmul, 1) := by decide +kernel
theorem dX7_reduce_36 : decode cX7_reduce 36 = .ok (.lload 5, 2) := by decide +kernel
theorem dX7_reduce_38 : decode cX7_reduce 38 = .ok (.aload_n 1, 1) := by decide +kernel
theorem dX7_reduce_39 : decode cX7_reduce 39 = .ok (.iload 9, 2) := by decide +kernel
theorem dX7_reduce_41 : decode cX7_reduce 41 = .ok (.laload, 1) := by decide +kernel
theorem dX7_reduce_42 : decode cX7_reduce 42 = .ok (.lmul, 1) := by decide +kernel
theorem dX7_reduce_43 : decode cX7_reduce 43 = .ok (.lsub, 1) := by decide +kernel
theorem dX7_reduce_44 : decode cX7_reduce 44 = .ok (.lload_n 3, 1) := by decide +kernel
theorem dX7_reduce_45 : decode cX7_reduce 45 = .ok (.ldiv, 1) := by decide +kernel
theorem dX7_reduce_46 : decode cX7_reduce 46 = .ok (.lastore, 1) := by decide +kernel
theorem dX7_reduce_47 : decode cX7_reduce 47 = .ok (.iinc 9 1, 3) := by decide +kernel
theorem dX7_reduce_50 : decode cX7_reduce 50 = .ok (.goto (-30), 3) := by decide +kernel
theorem dX7_reduce_53 : decode cX7_reduce 53 = .ok (.return_, 1) := by decide +kernel
theorem dX7_agree_0 : decode cX7_agree 0 = .ok (.aload_n 0, 1) := by decide +kernel
theorem dX7_agree_1 : decode cX7_agree 1 = .ok (.getfield 28, 3) := by decide +kernel
theorem dX7_agree_4 : decode cX7_agree 4 = .ok (.istore_n 1, 1) := by decide +kernel
theorem dX7_agree_5 : decode cX7_agree 5 = .ok (.iload_n 1, 1) := by decide +kernel
theorem dX7_agree_6 : decode cX7_agree 6 = .ok (.aload_n 0, 1) := by decide +kernel
theorem dX7_agree_7 : decode cX7_agree 7 = .ok (.getfield 70, 3) := by decide +kernel
theorem dX7_agree_10 : decode cX7_agree 10 = .ok (.if_icmp .ge 24, 3) := by decide +kernel
theorem dX7_agree_13 : decode cX7_agree 13 = .ok (.aload_n 0, 1) := by decide +kernel
theorem dX7_agree_14 : decode cX7_agree 14 = .ok (.getfield 13, 3) := by decide +kernel
theorem dX7_agree_17 : decode cX7_agree 17 = .ok (.iload_n 1, 1) := by decide +kernel
theorem dX7_agree_18 : decode cX7_agree 18 = .ok (.aaload, 1) := by decide +kernel
theorem dX7_agree_19 : decode cX7_agree 19 = .ok (.iconst 3, 1) := by decide +kernel
theorem dX7_agree_20 : decode cX7_agree 20 = .ok (.laload, 1) := by decide +kernel
theorem dX7_agree_21 : decode cX7_agree 21 = .ok (.lconst 0, 1) := by decide +kernel
theorem dX7_agree_22 : decode cX7_agree 22 = .ok (.lcmp, 1) := by decide +kernel
theorem dX7_agree_23 : decode cX7_agree 23 = .ok (.ifCond .eq 5, 3) := by decide +kernel
theorem dX7_agree_26 : decode cX7_agree 26 = .ok (.iconst 0, 1) := by decide +kernel
theorem dX7_agree_27 : decode cX7_agree 27 = .ok (.ireturn, 1) := by decide +kernel
theorem dX7_agree_28 : decode cX7_agree 28 = .ok (.iinc 1 1, 3) := by decide +kernel
theorem dX7_agree_31 : decode cX7_agree 31 = .ok (.goto (-26), 3) := by decide +kernel
theorem dX7_agree_34 : decode cX7_agree 34 = .ok (.iconst 1, 1) := by decide +kernel
theorem dX7_agree_35 : decode cX7_agree 35 = .ok (.ireturn, 1) := by decide +kernel
